section
-- ===== PART A: goes FIRST, ahead of the names: the tables' words, and 'selects' of the private methods out of them =====
/-- a private method of a class that the tables say can be made, by its rows of tables_1 -/
def lw_okq (q : MethodName × Nat) : Prop := (q.1.cls ≠ "java/lang/invoke/MethodHandle" ∧ q.1.cls ≠ "java/lang/invoke/VarHandle") ∧ Cond.instantiable q.1.cls q.2 ∈ tables_1 ∧ Cond.privateMethod q.1 ∈ tables_1 ∧ Cond.instanceMethod q.1 ∈ tables_1
theorem lw_p0 : lw_okq (⟨"java/lang/Throwable", "fillInStackTrace", "(I)Ljava/lang/Throwable;"⟩, 6) := ⟨⟨by decide +kernel, by decide +kernel⟩, List.mem_of_getElem? (i := 205) (by decide +kernel), List.mem_of_getElem? (i := 203) (by decide +kernel), List.mem_of_getElem? (i := 204) (by decide +kernel)⟩
theorem lw_p1 : lw_okq (⟨"CareTours$Tour", "end", "()V"⟩, 7) := ⟨⟨by decide +kernel, by decide +kernel⟩, List.mem_of_getElem? (i := 76) (by decide +kernel), List.mem_of_getElem? (i := 251) (by decide +kernel), List.mem_of_getElem? (i := 252) (by decide +kernel)⟩
theorem lw_p2 : lw_okq (⟨"CareTours$House", "addPlace", "(LCareTours$Place;)I"⟩, 4) := ⟨⟨by decide +kernel, by decide +kernel⟩, List.mem_of_getElem? (i := 25) (by decide +kernel), List.mem_of_getElem? (i := 275) (by decide +kernel), List.mem_of_getElem? (i := 276) (by decide +kernel)⟩
theorem lw_p3 : lw_okq (⟨"CareTours$House", "addLift", "(LCareTours$Lift;)I"⟩, 4) := ⟨⟨by decide +kernel, by decide +kernel⟩, List.mem_of_getElem? (i := 25) (by decide +kernel), List.mem_of_getElem? (i := 314) (by decide +kernel), List.mem_of_getElem? (i := 315) (by decide +kernel)⟩
theorem lw_p4 : lw_okq (⟨"CareTours$House", "hasPlace", "(I)Z"⟩, 4) := ⟨⟨by decide +kernel, by decide +kernel⟩, List.mem_of_getElem? (i := 25) (by decide +kernel), List.mem_of_getElem? (i := 325) (by decide +kernel), List.mem_of_getElem? (i := 326) (by decide +kernel)⟩
theorem lw_p5 : lw_okq (⟨"CareTours", "isPart", "(I)Z"⟩, 10) := ⟨⟨by decide +kernel, by decide +kernel⟩, List.mem_of_getElem? (i := 17) (by decide +kernel), List.mem_of_getElem? (i := 426) (by decide +kernel), List.mem_of_getElem? (i := 427) (by decide +kernel)⟩
theorem lw_p6 : lw_okq (⟨"CareTours$Part", "addUse", "(II)V"⟩, 11) := ⟨⟨by decide +kernel, by decide +kernel⟩, List.mem_of_getElem? (i := 335) (by decide +kernel), List.mem_of_getElem? (i := 435) (by decide +kernel), List.mem_of_getElem? (i := 436) (by decide +kernel)⟩
theorem lw_p7 : lw_okq (⟨"CareTours$House", "secondsBetween", "(LCareTours$Place;LCareTours$Place;)I"⟩, 4) := ⟨⟨by decide +kernel, by decide +kernel⟩, List.mem_of_getElem? (i := 25) (by decide +kernel), List.mem_of_getElem? (i := 455) (by decide +kernel), List.mem_of_getElem? (i := 456) (by decide +kernel)⟩
theorem lw_p8 : lw_okq (⟨"CareTours$Place", "secondsTo", "(II)I"⟩, 3) := ⟨⟨by decide +kernel, by decide +kernel⟩, List.mem_of_getElem? (i := 255) (by decide +kernel), List.mem_of_getElem? (i := 459) (by decide +kernel), List.mem_of_getElem? (i := 460) (by decide +kernel)⟩
theorem lw_p9 : lw_okq (⟨"CareTours$Lift", "comesTo", "(LCareTours$Place;)Z"⟩, 6) := ⟨⟨by decide +kernel, by decide +kernel⟩, List.mem_of_getElem? (i := 289) (by decide +kernel), List.mem_of_getElem? (i := 466) (by decide +kernel), List.mem_of_getElem? (i := 467) (by decide +kernel)⟩
theorem lw_p10 : lw_okq (⟨"CareTours$Lift", "secondsBetween", "(LCareTours$Place;LCareTours$Place;)I"⟩, 6) := ⟨⟨by decide +kernel, by decide +kernel⟩, List.mem_of_getElem? (i := 289) (by decide +kernel), List.mem_of_getElem? (i := 471) (by decide +kernel), List.mem_of_getElem? (i := 472) (by decide +kernel)⟩
theorem lw_p11 : lw_okq (⟨"CareTours", "choose", "(LCareTours$Person;I)V"⟩, 10) := ⟨⟨by decide +kernel, by decide +kernel⟩, List.mem_of_getElem? (i := 17) (by decide +kernel), List.mem_of_getElem? (i := 486) (by decide +kernel), List.mem_of_getElem? (i := 487) (by decide +kernel)⟩
theorem lw_p12 : lw_okq (⟨"CareTours$Planner", "clear", "()V"⟩, 4) := ⟨⟨by decide +kernel, by decide +kernel⟩, List.mem_of_getElem? (i := 55) (by decide +kernel), List.mem_of_getElem? (i := 490) (by decide +kernel), List.mem_of_getElem? (i := 491) (by decide +kernel)⟩
theorem lw_p13 : lw_okq (⟨"CareTours", "rankByDueDays", "()V"⟩, 10) := ⟨⟨by decide +kernel, by decide +kernel⟩, List.mem_of_getElem? (i := 17) (by decide +kernel), List.mem_of_getElem? (i := 494) (by decide +kernel), List.mem_of_getElem? (i := 495) (by decide +kernel)⟩
theorem lw_p14 : lw_okq (⟨"CareTours$Part", "dueDay", "()I"⟩, 11) := ⟨⟨by decide +kernel, by decide +kernel⟩, List.mem_of_getElem? (i := 335) (by decide +kernel), List.mem_of_getElem? (i := 498) (by decide +kernel), List.mem_of_getElem? (i := 499) (by decide +kernel)⟩
theorem lw_p15 : lw_okq (⟨"CareTours$Planner", "isFull", "()Z"⟩, 4) := ⟨⟨by decide +kernel, by decide +kernel⟩, List.mem_of_getElem? (i := 55) (by decide +kernel), List.mem_of_getElem? (i := 503) (by decide +kernel), List.mem_of_getElem? (i := 504) (by decide +kernel)⟩
def lw_privs_1 : List (MethodName × Nat) := [(⟨"java/lang/Throwable", "fillInStackTrace", "(I)Ljava/lang/Throwable;"⟩, 6), (⟨"CareTours$Tour", "end", "()V"⟩, 7), (⟨"CareTours$House", "addPlace", "(LCareTours$Place;)I"⟩, 4), (⟨"CareTours$House", "addLift", "(LCareTours$Lift;)I"⟩, 4), (⟨"CareTours$House", "hasPlace", "(I)Z"⟩, 4), (⟨"CareTours", "isPart", "(I)Z"⟩, 10), (⟨"CareTours$Part", "addUse", "(II)V"⟩, 11), (⟨"CareTours$House", "secondsBetween", "(LCareTours$Place;LCareTours$Place;)I"⟩, 4), (⟨"CareTours$Place", "secondsTo", "(II)I"⟩, 3), (⟨"CareTours$Lift", "comesTo", "(LCareTours$Place;)Z"⟩, 6), (⟨"CareTours$Lift", "secondsBetween", "(LCareTours$Place;LCareTours$Place;)I"⟩, 6), (⟨"CareTours", "choose", "(LCareTours$Person;I)V"⟩, 10), (⟨"CareTours$Planner", "clear", "()V"⟩, 4), (⟨"CareTours", "rankByDueDays", "()V"⟩, 10), (⟨"CareTours$Part", "dueDay", "()I"⟩, 11), (⟨"CareTours$Planner", "isFull", "()Z"⟩, 4)]
theorem lw_r1 : ∀ q ∈ lw_privs_1, lw_okq q := List.forall_mem_cons.mpr ⟨lw_p0, List.forall_mem_cons.mpr ⟨lw_p1, List.forall_mem_cons.mpr ⟨lw_p2, List.forall_mem_cons.mpr ⟨lw_p3, List.forall_mem_cons.mpr ⟨lw_p4, List.forall_mem_cons.mpr ⟨lw_p5, List.forall_mem_cons.mpr ⟨lw_p6, List.forall_mem_cons.mpr ⟨lw_p7, List.forall_mem_cons.mpr ⟨lw_p8, List.forall_mem_cons.mpr ⟨lw_p9, List.forall_mem_cons.mpr ⟨lw_p10, List.forall_mem_cons.mpr ⟨lw_p11, List.forall_mem_cons.mpr ⟨lw_p12, List.forall_mem_cons.mpr ⟨lw_p13, List.forall_mem_cons.mpr ⟨lw_p14, List.forall_mem_cons.mpr ⟨lw_p15, fun _ h => absurd h List.not_mem_nil⟩⟩⟩⟩⟩⟩⟩⟩⟩⟩⟩⟩⟩⟩⟩⟩
theorem lw_p16 : lw_okq (⟨"CareTours$Person", "has", "(I)Z"⟩, 4) := ⟨⟨by decide +kernel, by decide +kernel⟩, List.mem_of_getElem? (i := 396) (by decide +kernel), List.mem_of_getElem? (i := 507) (by decide +kernel), List.mem_of_getElem? (i := 508) (by decide +kernel)⟩
theorem lw_p17 : lw_okq (⟨"CareTours$Planner", "add", "(LCareTours$Part;)V"⟩, 4) := ⟨⟨by decide +kernel, by decide +kernel⟩, List.mem_of_getElem? (i := 55) (by decide +kernel), List.mem_of_getElem? (i := 511) (by decide +kernel), List.mem_of_getElem? (i := 512) (by decide +kernel)⟩
theorem lw_p18 : lw_okq (⟨"CareTours$Planner", "measure", "(LCareTours$House;LCareTours$Place;)V"⟩, 4) := ⟨⟨by decide +kernel, by decide +kernel⟩, List.mem_of_getElem? (i := 55) (by decide +kernel), List.mem_of_getElem? (i := 515) (by decide +kernel), List.mem_of_getElem? (i := 516) (by decide +kernel)⟩
theorem lw_p19 : lw_okq (⟨"CareTours$Planner", "plan", "()V"⟩, 4) := ⟨⟨by decide +kernel, by decide +kernel⟩, List.mem_of_getElem? (i := 55) (by decide +kernel), List.mem_of_getElem? (i := 524) (by decide +kernel), List.mem_of_getElem? (i := 525) (by decide +kernel)⟩
theorem lw_p20 : lw_okq (⟨"CareTours$Planner", "leastRest", "(II)I"⟩, 4) := ⟨⟨by decide +kernel, by decide +kernel⟩, List.mem_of_getElem? (i := 55) (by decide +kernel), List.mem_of_getElem? (i := 531) (by decide +kernel), List.mem_of_getElem? (i := 532) (by decide +kernel)⟩
theorem lw_p21 : lw_okq (⟨"CareTours$Planner", "restBy", "(III)I"⟩, 4) := ⟨⟨by decide +kernel, by decide +kernel⟩, List.mem_of_getElem? (i := 55) (by decide +kernel), List.mem_of_getElem? (i := 535) (by decide +kernel), List.mem_of_getElem? (i := 536) (by decide +kernel)⟩
theorem lw_p22 : lw_okq (⟨"CareTours$Tour", "begin", "(LCareTours$Person;I)V"⟩, 7) := ⟨⟨by decide +kernel, by decide +kernel⟩, List.mem_of_getElem? (i := 76) (by decide +kernel), List.mem_of_getElem? (i := 540) (by decide +kernel), List.mem_of_getElem? (i := 541) (by decide +kernel)⟩
theorem lw_p23 : lw_okq (⟨"CareTours$Planner", "stopsWithin", "(I)I"⟩, 4) := ⟨⟨by decide +kernel, by decide +kernel⟩, List.mem_of_getElem? (i := 55) (by decide +kernel), List.mem_of_getElem? (i := 545) (by decide +kernel), List.mem_of_getElem? (i := 546) (by decide +kernel)⟩
theorem lw_p24 : lw_okq (⟨"CareTours$Planner", "leastWalks", "(I)I"⟩, 4) := ⟨⟨by decide +kernel, by decide +kernel⟩, List.mem_of_getElem? (i := 55) (by decide +kernel), List.mem_of_getElem? (i := 549) (by decide +kernel), List.mem_of_getElem? (i := 550) (by decide +kernel)⟩
theorem lw_p25 : lw_okq (⟨"CareTours$Planner", "fill", "(LCareTours$Tour;I)V"⟩, 4) := ⟨⟨by decide +kernel, by decide +kernel⟩, List.mem_of_getElem? (i := 55) (by decide +kernel), List.mem_of_getElem? (i := 556) (by decide +kernel), List.mem_of_getElem? (i := 557) (by decide +kernel)⟩
theorem lw_p26 : lw_okq (⟨"CareTours$Planner", "nextNode", "(II)I"⟩, 4) := ⟨⟨by decide +kernel, by decide +kernel⟩, List.mem_of_getElem? (i := 55) (by decide +kernel), List.mem_of_getElem? (i := 560) (by decide +kernel), List.mem_of_getElem? (i := 561) (by decide +kernel)⟩
theorem lw_p27 : lw_okq (⟨"CareTours$Tour", "insert", "(LCareTours$Part;II)V"⟩, 7) := ⟨⟨by decide +kernel, by decide +kernel⟩, List.mem_of_getElem? (i := 76) (by decide +kernel), List.mem_of_getElem? (i := 564) (by decide +kernel), List.mem_of_getElem? (i := 565) (by decide +kernel)⟩
theorem lw_p28 : lw_okq (⟨"CareTours$Tour", "isStop", "(LCareTours$Part;)Z"⟩, 7) := ⟨⟨by decide +kernel, by decide +kernel⟩, List.mem_of_getElem? (i := 76) (by decide +kernel), List.mem_of_getElem? (i := 593) (by decide +kernel), List.mem_of_getElem? (i := 594) (by decide +kernel)⟩
theorem lw_p29 : lw_okq (⟨"CareTours$Tour", "shortestGap", "(LCareTours$House;LCareTours$Place;)I"⟩, 7) := ⟨⟨by decide +kernel, by decide +kernel⟩, List.mem_of_getElem? (i := 76) (by decide +kernel), List.mem_of_getElem? (i := 598) (by decide +kernel), List.mem_of_getElem? (i := 599) (by decide +kernel)⟩
theorem lw_p30 : lw_okq (⟨"CareTours$Tour", "canReach", "(LCareTours$House;LCareTours$Place;I)Z"⟩, 7) := ⟨⟨by decide +kernel, by decide +kernel⟩, List.mem_of_getElem? (i := 76) (by decide +kernel), List.mem_of_getElem? (i := 602) (by decide +kernel), List.mem_of_getElem? (i := 603) (by decide +kernel)⟩
theorem lw_p31 : lw_okq (⟨"CareTours$Tour", "placeBefore", "(I)LCareTours$Place;"⟩, 7) := ⟨⟨by decide +kernel, by decide +kernel⟩, List.mem_of_getElem? (i := 76) (by decide +kernel), List.mem_of_getElem? (i := 606) (by decide +kernel), List.mem_of_getElem? (i := 607) (by decide +kernel)⟩
def lw_privs_2 : List (MethodName × Nat) := [(⟨"CareTours$Person", "has", "(I)Z"⟩, 4), (⟨"CareTours$Planner", "add", "(LCareTours$Part;)V"⟩, 4), (⟨"CareTours$Planner", "measure", "(LCareTours$House;LCareTours$Place;)V"⟩, 4), (⟨"CareTours$Planner", "plan", "()V"⟩, 4), (⟨"CareTours$Planner", "leastRest", "(II)I"⟩, 4), (⟨"CareTours$Planner", "restBy", "(III)I"⟩, 4), (⟨"CareTours$Tour", "begin", "(LCareTours$Person;I)V"⟩, 7), (⟨"CareTours$Planner", "stopsWithin", "(I)I"⟩, 4), (⟨"CareTours$Planner", "leastWalks", "(I)I"⟩, 4), (⟨"CareTours$Planner", "fill", "(LCareTours$Tour;I)V"⟩, 4), (⟨"CareTours$Planner", "nextNode", "(II)I"⟩, 4), (⟨"CareTours$Tour", "insert", "(LCareTours$Part;II)V"⟩, 7), (⟨"CareTours$Tour", "isStop", "(LCareTours$Part;)Z"⟩, 7), (⟨"CareTours$Tour", "shortestGap", "(LCareTours$House;LCareTours$Place;)I"⟩, 7), (⟨"CareTours$Tour", "canReach", "(LCareTours$House;LCareTours$Place;I)Z"⟩, 7), (⟨"CareTours$Tour", "placeBefore", "(I)LCareTours$Place;"⟩, 7)]
theorem lw_r2 : ∀ q ∈ lw_privs_2, lw_okq q := List.forall_mem_cons.mpr ⟨lw_p16, List.forall_mem_cons.mpr ⟨lw_p17, List.forall_mem_cons.mpr ⟨lw_p18, List.forall_mem_cons.mpr ⟨lw_p19, List.forall_mem_cons.mpr ⟨lw_p20, List.forall_mem_cons.mpr ⟨lw_p21, List.forall_mem_cons.mpr ⟨lw_p22, List.forall_mem_cons.mpr ⟨lw_p23, List.forall_mem_cons.mpr ⟨lw_p24, List.forall_mem_cons.mpr ⟨lw_p25, List.forall_mem_cons.mpr ⟨lw_p26, List.forall_mem_cons.mpr ⟨lw_p27, List.forall_mem_cons.mpr ⟨lw_p28, List.forall_mem_cons.mpr ⟨lw_p29, List.forall_mem_cons.mpr ⟨lw_p30, List.forall_mem_cons.mpr ⟨lw_p31, fun _ h => absurd h List.not_mem_nil⟩⟩⟩⟩⟩⟩⟩⟩⟩⟩⟩⟩⟩⟩⟩⟩
theorem lw_p32 : lw_okq (⟨"CareTours$Tour", "placeBehind", "(I)LCareTours$Place;"⟩, 7) := ⟨⟨by decide +kernel, by decide +kernel⟩, List.mem_of_getElem? (i := 76) (by decide +kernel), List.mem_of_getElem? (i := 611) (by decide +kernel), List.mem_of_getElem? (i := 612) (by decide +kernel)⟩
theorem lw_p33 : lw_okq (⟨"CareTours$Tour", "detour", "(LCareTours$House;LCareTours$Place;I)I"⟩, 7) := ⟨⟨by decide +kernel, by decide +kernel⟩, List.mem_of_getElem? (i := 76) (by decide +kernel), List.mem_of_getElem? (i := 615) (by decide +kernel), List.mem_of_getElem? (i := 616) (by decide +kernel)⟩
theorem lw_p34 : lw_okq (⟨"CareTours$Part", "renew", "(I)V"⟩, 11) := ⟨⟨by decide +kernel, by decide +kernel⟩, List.mem_of_getElem? (i := 335) (by decide +kernel), List.mem_of_getElem? (i := 629) (by decide +kernel), List.mem_of_getElem? (i := 630) (by decide +kernel)⟩
theorem lw_p35 : lw_okq (⟨"CareToursModel", "isPart", "(I)Z"⟩, 37) := ⟨⟨by decide +kernel, by decide +kernel⟩, List.mem_of_getElem? (i := 665) (by decide +kernel), List.mem_of_getElem? (i := 811) (by decide +kernel), List.mem_of_getElem? (i := 812) (by decide +kernel)⟩
theorem lw_p36 : lw_okq (⟨"CareToursModel", "way", "(II)I"⟩, 37) := ⟨⟨by decide +kernel, by decide +kernel⟩, List.mem_of_getElem? (i := 665) (by decide +kernel), List.mem_of_getElem? (i := 823) (by decide +kernel), List.mem_of_getElem? (i := 824) (by decide +kernel)⟩
theorem lw_p37 : lw_okq (⟨"CareToursModel", "dueDay", "(I)I"⟩, 37) := ⟨⟨by decide +kernel, by decide +kernel⟩, List.mem_of_getElem? (i := 665) (by decide +kernel), List.mem_of_getElem? (i := 834) (by decide +kernel), List.mem_of_getElem? (i := 835) (by decide +kernel)⟩
theorem lw_p38 : lw_okq (⟨"CareToursModel", "isBefore", "(II)Z"⟩, 37) := ⟨⟨by decide +kernel, by decide +kernel⟩, List.mem_of_getElem? (i := 665) (by decide +kernel), List.mem_of_getElem? (i := 838) (by decide +kernel), List.mem_of_getElem? (i := 839) (by decide +kernel)⟩
theorem lw_p39 : lw_okq (⟨"CareToursModel", "isTour", "(II)Z"⟩, 37) := ⟨⟨by decide +kernel, by decide +kernel⟩, List.mem_of_getElem? (i := 665) (by decide +kernel), List.mem_of_getElem? (i := 842) (by decide +kernel), List.mem_of_getElem? (i := 843) (by decide +kernel)⟩
theorem lw_p40 : lw_okq (⟨"CareToursModel", "walksOf", "([III)I"⟩, 37) := ⟨⟨by decide +kernel, by decide +kernel⟩, List.mem_of_getElem? (i := 665) (by decide +kernel), List.mem_of_getElem? (i := 846) (by decide +kernel), List.mem_of_getElem? (i := 847) (by decide +kernel)⟩
theorem lw_p41 : lw_okq (⟨"CareToursModel", "next", "(I)Z"⟩, 37) := ⟨⟨by decide +kernel, by decide +kernel⟩, List.mem_of_getElem? (i := 665) (by decide +kernel), List.mem_of_getElem? (i := 850) (by decide +kernel), List.mem_of_getElem? (i := 851) (by decide +kernel)⟩
theorem lw_p42 : lw_okq (⟨"CareToursModel", "swap", "(II)V"⟩, 37) := ⟨⟨by decide +kernel, by decide +kernel⟩, List.mem_of_getElem? (i := 665) (by decide +kernel), List.mem_of_getElem? (i := 854) (by decide +kernel), List.mem_of_getElem? (i := 855) (by decide +kernel)⟩
def lw_privs_3 : List (MethodName × Nat) := [(⟨"CareTours$Tour", "placeBehind", "(I)LCareTours$Place;"⟩, 7), (⟨"CareTours$Tour", "detour", "(LCareTours$House;LCareTours$Place;I)I"⟩, 7), (⟨"CareTours$Part", "renew", "(I)V"⟩, 11), (⟨"CareToursModel", "isPart", "(I)Z"⟩, 37), (⟨"CareToursModel", "way", "(II)I"⟩, 37), (⟨"CareToursModel", "dueDay", "(I)I"⟩, 37), (⟨"CareToursModel", "isBefore", "(II)Z"⟩, 37), (⟨"CareToursModel", "isTour", "(II)Z"⟩, 37), (⟨"CareToursModel", "walksOf", "([III)I"⟩, 37), (⟨"CareToursModel", "next", "(I)Z"⟩, 37), (⟨"CareToursModel", "swap", "(II)V"⟩, 37)]
theorem lw_r3 : ∀ q ∈ lw_privs_3, lw_okq q := List.forall_mem_cons.mpr ⟨lw_p32, List.forall_mem_cons.mpr ⟨lw_p33, List.forall_mem_cons.mpr ⟨lw_p34, List.forall_mem_cons.mpr ⟨lw_p35, List.forall_mem_cons.mpr ⟨lw_p36, List.forall_mem_cons.mpr ⟨lw_p37, List.forall_mem_cons.mpr ⟨lw_p38, List.forall_mem_cons.mpr ⟨lw_p39, List.forall_mem_cons.mpr ⟨lw_p40, List.forall_mem_cons.mpr ⟨lw_p41, List.forall_mem_cons.mpr ⟨lw_p42, fun _ h => absurd h List.not_mem_nil⟩⟩⟩⟩⟩⟩⟩⟩⟩⟩⟩
def lw_privs : List (MethodName × Nat) := lw_privs_1 ++ (lw_privs_2 ++ (lw_privs_3))
def lw_tbl : List Cond := k2_sels lw_privs ++ tables_1
theorem lw_privs_ok : ∀ q ∈ lw_privs, lw_okq q := by
  show ∀ q ∈ lw_privs_1 ++ (lw_privs_2 ++ (lw_privs_3)), lw_okq q
  exact List.forall_mem_append.mpr ⟨lw_r1, List.forall_mem_append.mpr ⟨lw_r2, lw_r3⟩⟩
end
section
/-! ===== BEGIN words of one list among another's, by their places ===== -/
theorem goodIn_r {big : List Cond} (ws : List Cond) (ps : List Nat) (hp : ws = ps.filterMap (fun i => big[i]?)) (h : ws.all goodWord = true) : GoodIn big ws := by
  intro w hw
  have h1 := List.all_eq_true.mp h w hw
  rw [hp] at hw
  obtain ⟨i, -, hi⟩ := List.mem_filterMap.mp hw
  have hm : w ∈ big := by first | exact List.mem_of_getElem? hi | exact List.getElem?_mem hi
  exact ⟨hm, good_of_word h1⟩
theorem goodIn_app {big a b : List Cond} (ha : GoodIn big a) (hb : GoodIn big b) : GoodIn big (a ++ b) := fun w h => (List.mem_append.mp h).elim (ha w) (hb w)
theorem goodIn_ca {big a b : List Cond} {c : Cond} (ha : GoodIn big (c :: a)) (hb : GoodIn big b) : GoodIn big (c :: (a ++ b)) := fun w h => (List.mem_cons.mp h).elim (fun e => ha w (List.mem_cons.mpr (Or.inl e))) (fun h => (List.mem_append.mp h).elim (fun h => ha w (List.mem_cons.mpr (Or.inr h))) (hb w))
theorem goodIn_sub {big ws : List Cond} (hm : ∀ w ∈ ws, w ∈ big) (h : ws.all goodWord = true) : GoodIn big ws := fun w hw => ⟨hm w hw, good_of_word (List.all_eq_true.mp h w hw)⟩
/-! ===== END ===== -/

/-! ===== BEGIN exceptions that leave a method, and their catching by the caller (launches without stack traces) ===== -/
section VXA
/-! The laws vx_back, vx_callV, vx_callS, vx_callSW, vx_throw0, vx_throwS follow proofs of the library, with one case more: JvmDerived/Free/Laws.lean (Back.of_free), Shelf42/LK1.lean (callV, callS), Shelf/KitTraced.lean (throwNew0V, throwNewS). -/
/-- where a method has thrown q: the class by its name, the cell, what was written, the world -/
def vx_T (XC : String → State → State → Prop) (st : State) (q : Addr) (t : State) (mc ms : Nat) (free : Addr → Prop) : Prop :=
  ∃ (E : String) (ce : Cell) (L : List Loc), XC E st t ∧ t.heap[q]? = some ce ∧ ce.vm = .none ∧ st.vm.findClass E = some ce.cls ∧ st.WarmedH t.vm ∧ st.sameButNew ({ t with vm := st.vm } : State) L mc ms ∧ ∀ z ∈ L, free z.base
def vx_Q (Qc : Array Value → State → Outcome → State → Prop) (XC : String → State → State → Prop) (mc ms : Nat) (free : Addr → Prop) : Array Value → State → Outcome → State → Prop := fun a st o t =>
  (Qc a st o t ∧ ∃ L, FrameEnd st o t L mc ms ∧ ∀ q ∈ L, free q.base) ∨ ∃ q, o = .threw q ∧ vx_T XC st q t mc ms free
/-- a callee that returns or throws -/
def vx_Met (l : Launch) (y : MethodName) (ws : List Cond) (rm : Room) (Pc : Array Value → State → Prop) (Qc : Array Value → State → Outcome → State → Prop) (XC : String → State → State → Prop) (mc ms : Nat) (free : Addr → Prop) : Prop :=
  MetFree l y (headSpec ws rm) Pc (fun _ _ _ _ _ => True) (vx_Q Qc XC mc ms free)
def vx_Post (XC : String → State → State → Prop) (mc ms : Nat) (free : Addr → Prop) : Pt → Array Value → Addr → Pt → Prop := fun A a q B =>
  ∃ (g : JFrame) (mk : MethodId) (t : State) (L : List Loc) (E : String) (ce : Cell), B.U.heap = t.heap ∧ B.U.vm = t.vm ∧ XC E (A.U.calling g mk a) t ∧ t.heap[q]? = some ce ∧ ce.vm = .none ∧ A.U.vm.findClass E = some ce.cls ∧ B.locs = A.locs ++ L ∧ (∀ z ∈ L, free z.base) ∧ B.cells = A.cells + mc ∧ B.slots = A.slots + ms
def vx_Back (l : Launch) (R : Room) (p : Program) (e : Env) (below : List Frame) (s : State) (sargs : Array Value) (y : MethodName) (len W9 : Nat)
    (Pre : Pt → Array Value → Prop) (Post : Pt → Array Value → Option Value → Pt → Prop) (PostX : Pt → Array Value → Addr → Pt → Prop) : Prop :=
  ∀ (m : MethodId) (meth : Method) (c : Code) (A : Pt) (g : JFrame) (ig : Instr) (mk : MethodId) (a : Array Value),
    Stand p l e R s m sargs below meth c A.U A.locs A.cells A.slots → g.method = m → g.locals.size = c.maxLocals → decode c.code g.pc = .ok (ig, len) →
    2 * g.monitorRoom + (g.stack.map fun v => v.category).sum ≤ W9 → A.U.methodNamed? y = some mk → Pre A a →
    (∃ (v : Option Value) (B : Pt), Stand p l e R s m sargs below meth c B.U B.locs B.cells B.slots ∧ Post A a v B ∧
      Steps p.tables e below (doInvoke e (A.U.setTop g) [] mk a).1 (B.U.setTop { g with pc := g.pc + len, stack := v.toList ++ g.stack })) ∨
    (∃ (q : Addr) (B : Pt), Stand p l e R s m sargs below meth c B.U B.locs B.cells B.slots ∧ PostX A a q B ∧
      Steps p.tables e below (doInvoke e (A.U.setTop g) [] mk a).1 ((B.U.setTop g).pushFrame (.throwing q)))
section Payer
variable {l : Launch} {R : Room} {p : Program} {e : Env} {below : List Frame} {s : State} {sargs : Array Value} {y : MethodName} {len W9 : Nat}
theorem vx_back {ws : List Cond} {rm : Room} {Pc : Array Value → State → Prop} {Qc : Array Value → State → Outcome → State → Prop} {XC : String → State → State → Prop} {mc ms : Nat} {free : Addr → Prop} {bytes : ByteArray} {maxL : Nat} {ret : Option FieldType}
    (hM : vx_Met l y ws rm Pc Qc XC mc ms free) (hblind : FrameBlind Pc) (hrc : rm.cells = mc) (hrs : rm.slots = ms)
    (hframes : rm.frames + 1 ≤ R.frames) (hlocals : W9 + (maxL + 11) + rm.locals ≤ R.locals)
    (hws : ∀ w ∈ ws, ∀ a' U, s.WarmedH U.vm → w.before a' U = true) (hcode : Cond.code y bytes maxL ret ∈ ws) (hinit : ∀ a' U, s.WarmedH U.vm → (Cond.initialized y.cls).before a' U = true) :
    vx_Back l R p e below s sargs y len W9 (PreOf R mc ms Pc) (PostOf Qc mc ms free) (vx_Post XC mc ms free) := by
  intro m meth c A g ig mk a X hg hsize hdg hW hn hp
  have h1 : (headSpec ws rm).pre.before a A.U = true := atoms_intro fun w hw => hws w hw _ _ X.warmed
  have h2 : (Cond.code y bytes maxL ret).before a A.U = true := hws _ hcode _ _ X.warmed
  have h3 : (Cond.initialized y.cls).before a A.U = true := hinit _ _ X.warmed
  have h4 : A.cells + (headSpec ws rm).room.cells ≤ R.cells := by rw [show (headSpec ws rm).room.cells = mc from hrc]; exact hp.1
  have h5 : A.slots + (headSpec ws rm).room.slots ≤ R.slots := by rw [show (headSpec ws rm).room.slots = ms from hrs]; exact hp.2.1
  have hPc : Pc a (A.U.calling g mk a) := hblind _ _ _ _ hp.2.2
  obtain ⟨U, Ls, c0, s0⟩ := A
  dsimp only [Pt.U, Pt.locs, Pt.cells, Pt.slots] at h1 h2 h3 h4 h5 X hn hPc ⊢
  obtain ⟨methY, cY, hmY, hcY, -, hlY, -, -, -, -⟩ := Cond.code_spec hn h2
  obtain ⟨kY, hkY, -⟩ := className_of_methodNamed hn
  have hinitY : kY.init = .initialized := Cond.initialized_spec (findClass_of_methodNamed hn) hkY h3
  have h : At U g.method c below := by rw [hg]; exact X.here
  have hlocals9 : W9 + (maxL + 11) + (headSpec ws rm).room.locals ≤ R.locals := hlocals
  have happ : (headSpec ws rm).appliesLoose y e.platform (U.calling g mk a) = true :=
    Spec.appliesLoose_calling (g := g) h hdg hn hkY hinitY
      (X.room_calling (g := g) (R' := (headSpec ws rm).room) hsize hmY hcY hframes (by rw [hlY]; omega) h4 h5) h1
  obtain ⟨mid, hmid⟩ := h.above
  have hfr : (U.setTop g).frames = (.java g :: mid) ++ below := by rw [State.frames_setTop' g h.top, hmid]; rfl
  obtain ⟨o, s₂, hsteps, -, hend, hq⟩ := Steps.callFree hM p X.admits X.cas X.clock (acts := []) hfr happ hPc trivial
  have hq' : vx_Q Qc XC mc ms free a (U.calling g mk a) o s₂ := hq
  rw [State.frames_setTop' g h.top] at hend
  obtain ⟨g₀, hg0⟩ := Option.isSome_iff_exists.mp h.top
  obtain ⟨r, hr⟩ := State.topJava?_eq_some.mp hg0
  have hr' : (({ U with heap := s₂.heap, slotsUsed := s₂.slotsUsed } : State).setVm s₂.vm).frames = .java g₀ :: r := hr
  rcases hq' with ⟨hqc, L, hfe, hL⟩ | ⟨q, rfl, E, ce, L, hx, hce, hcv, hcl, hW₂, hsm, hL⟩
  · obtain ⟨⟨v, rfl⟩, hW₂, e2, q2, q3, q4, q5, q6⟩ := id hfe
    have e3 : s₂ = ({ (U.calling g mk a).setFrames s₂.frames with heap := s₂.heap, slotsUsed := s₂.slotsUsed } : State).setVm s₂.vm := by
      have : s₂ = ({ s₂ with vm := (U.calling g mk a).vm } : State).setVm s₂.vm := rfl
      rw [e2] at this
      exact this
    obtain ⟨c₂, i₂, len₂, hc₂, hd₂, hf₂⟩ := hend
    have hW' : U.WarmedH s₂.vm := hW₂
    have hcc : c₂ = c := by
      have h1 : s₂.code? g.method = U.code? g.method := by
        rw [State.code?_eq, State.code?_eq, hW'.alike.method?]
      exact Option.some.inj (hc₂.symm.trans (h1.trans h.code))
    subst hcc
    have hlen : len₂ = len := by rw [hdg] at hd₂; cases hd₂; rfl
    subst hlen
    have hs₂ : s₂ = (({ U with heap := s₂.heap, slotsUsed := s₂.slotsUsed } : State).setVm s₂.vm).setTop { g with pc := g.pc + len₂, stack := v.toList ++ g.stack } := by
      refine e3.trans ?_
      rw [hf₂, State.calling_eq h.top, State.setFrames_setFrames, State.setTop_of_frames _ hr', hr]
      rfl
    have hsame : U.sameButNew ({ U with heap := s₂.heap, slotsUsed := s₂.slotsUsed } : State) L mc ms := by
      refine ⟨?_, q2, q3, q4, q5, q6⟩
      obtain ⟨t, ht, -⟩ := State.frames_cons hr
      show ({ U with heap := s₂.heap, slotsUsed := s₂.slotsUsed } : State) = { U.setFrames U.frames with heap := s₂.heap, slotsUsed := s₂.slotsUsed }
      rw [State.setFrames_self ht]
    subst hg
    refine Or.inl ⟨v, ⟨(({ U with heap := s₂.heap, slotsUsed := s₂.slotsUsed } : State).setVm s₂.vm), Ls ++ L, c0 + mc, s0 + ms⟩,
      ⟨X.admits, X.cas, X.clock, X.frames, X.room, X.hears, X.method, X.code, (X.here.setHeapUsed s₂.heap s₂.slotsUsed).setVm hW'.alike, X.tail, State.WarmedH.trans X.warmed hW', X.limits, X.bytes, X.same.trans (hsame.setVm s.vm)⟩,
      ⟨g, mk, s₂, L, rfl, rfl, hqc, rfl, hL, rfl, rfl⟩, ?_⟩
    show Steps p.tables e below _ ((({ U with heap := s₂.heap, slotsUsed := s₂.slotsUsed } : State).setVm s₂.vm).setTop { g with pc := g.pc + len₂, stack := v.toList ++ g.stack })
    rw [← hs₂]
    exact hsteps
  · obtain ⟨e2, q2, q3, q4, q5, q6⟩ := id hsm
    have e3 : s₂ = ({ (U.calling g mk a).setFrames s₂.frames with heap := s₂.heap, slotsUsed := s₂.slotsUsed } : State).setVm s₂.vm := by
      have : s₂ = ({ s₂ with vm := (U.calling g mk a).vm } : State).setVm s₂.vm := rfl
      rw [e2] at this
      exact this
    have hf₂ : s₂.frames = .throwing q :: .java g :: U.frames.tail := hend
    have hW' : U.WarmedH s₂.vm := hW₂
    have hs₂ : s₂ = ((({ U with heap := s₂.heap, slotsUsed := s₂.slotsUsed } : State).setVm s₂.vm).setTop g).pushFrame (.throwing q) := by
      refine e3.trans ?_
      rw [hf₂, State.calling_eq h.top, State.setFrames_setFrames, State.pushFrame, State.frames_setTop _ hr', State.setTop_of_frames _ hr', State.setFrames_setFrames, hr]
      rfl
    have hsame : U.sameButNew ({ U with heap := s₂.heap, slotsUsed := s₂.slotsUsed } : State) L mc ms := by
      refine ⟨?_, q2, q3, q4, q5, q6⟩
      obtain ⟨t, ht, -⟩ := State.frames_cons hr
      show ({ U with heap := s₂.heap, slotsUsed := s₂.slotsUsed } : State) = { U.setFrames U.frames with heap := s₂.heap, slotsUsed := s₂.slotsUsed }
      rw [State.setFrames_self ht]
    subst hg
    refine Or.inr ⟨q, ⟨(({ U with heap := s₂.heap, slotsUsed := s₂.slotsUsed } : State).setVm s₂.vm), Ls ++ L, c0 + mc, s0 + ms⟩,
      ⟨X.admits, X.cas, X.clock, X.frames, X.room, X.hears, X.method, X.code, (X.here.setHeapUsed s₂.heap s₂.slotsUsed).setVm hW'.alike, X.tail, State.WarmedH.trans X.warmed hW', X.limits, X.bytes, X.same.trans (hsame.setVm s.vm)⟩,
      ⟨g, mk, s₂, L, E, ce, rfl, rfl, hx, hce, hcv, hcl, rfl, hL, rfl, rfl⟩, ?_⟩
    show Steps p.tables e below _ (((({ U with heap := s₂.heap, slotsUsed := s₂.slotsUsed } : State).setVm s₂.vm).setTop g).pushFrame (.throwing q))
    rw [← hs₂]
    exact hsteps
end Payer
section Calls
variable {p : Program} {l : Launch} {e : Env} {R : Room} {s : State} {m : MethodId} {args : Array Value} {below : List Frame} {meth : Method} {c : Code} {T : State} {locs : List Loc} {cells slots : Nat}
theorem vx_callV (X : Stand p l e R s m args below meth c T locs cells slots) (hexec : p.tables.exec = Jvm.exec) {own C : String} {index : Nat} {y : MethodName} {bytes : ByteArray} {maxL : Nat} {ret : Option FieldType}
    (hown : s.vm.findClass own = some m.cls) (hlink : (Cond.methodLink own index y).before args s = true) (hinst : (Cond.instanceMethod y).before args s = true) (hsel : (Cond.selects C y y).before args s = true)
    (hcode : (Cond.code y bytes maxL ret).before args s = true) (hy : y.cls ≠ "java/lang/invoke/MethodHandle" ∧ y.cls ≠ "java/lang/invoke/VarHandle")
    {W9 : Nat} {Pre : Pt → Array Value → Prop} {Post : Pt → Array Value → Option Value → Pt → Prop} {PostX : Pt → Array Value → Addr → Pt → Prop} (hK : vx_Back l R p e below s args y 3 W9 Pre Post PostX)
    {b : Addr} {cellB : Cell} (hcell : T.heap[b]? = some cellB) (hobj : cellB.vm.isStatics = false) (hcls : s.vm.findClass C = some cellB.cls)
    {g : JFrame} (hg : g.method = m) (hsize : g.locals.size = c.maxLocals) {argsL rest : List Value} (hlen : ∀ sig, parseMethodDescriptor y.desc = some sig → argsL.length = sig.parameters.length)
    (hstack : g.stack = argsL.reverse ++ .ref b :: rest) (hW : 2 * g.monitorRoom + (rest.map fun v => v.category).sum ≤ W9) (hdg : decode c.code g.pc = .ok (.invokevirtual index, 3))
    (hpre : ∀ vm₁, s.WarmedH vm₁ → Pre ⟨T.setVm vm₁, locs, cells, slots⟩ (Value.ref b :: argsL).toArray) :
    (∃ (v : Option Value) (vm₁ : Vm) (B : Pt), s.WarmedH vm₁ ∧ Stand p l e R s m args below meth c B.U B.locs B.cells B.slots ∧ Post ⟨T.setVm vm₁, locs, cells, slots⟩ (Value.ref b :: argsL).toArray v B ∧
      ∀ target, Steps p.tables e below (B.U.setTop { g with pc := g.pc + 3, stack := v.toList ++ rest }) target → Steps p.tables e below (T.setTop g) target) ∨
    (∃ (q : Addr) (vm₁ : Vm) (B : Pt), s.WarmedH vm₁ ∧ Stand p l e R s m args below meth c B.U B.locs B.cells B.slots ∧ PostX ⟨T.setVm vm₁, locs, cells, slots⟩ (Value.ref b :: argsL).toArray q B ∧
      Steps p.tables e below (T.setTop g) ((B.U.setTop { g with stack := rest }).pushFrame (.throwing q))) := by
  obtain ⟨mk, methM, hnamed, hmethM, hstM, habM⟩ := Cond.instanceMethod_spec hinst
  obtain ⟨methM', cM, hmethM', -, -, -, -, -, -, hsigM⟩ := Cond.code_spec hnamed hcode
  cases hmethM.symm.trans hmethM'
  obtain ⟨c2, r2, m2, q1, q2, q3, q4, kP, hkP, hkPi⟩ := Cond.selects_spec hsel
  cases hcls.symm.trans q1
  cases (State.methodFound?_of_named hnamed hy).symm.trans q2
  cases hnamed.symm.trans q3
  have hselP : selectMethod e.platform s.vm cellB.cls mk = .method mk := by rw [Launch.admits_selectMethod X.admits]; exact q4
  obtain ⟨vm₁, X₁, hstep₁⟩ := X.invokevirtual hexec hown hlink hnamed hmethM hstM hkP hkPi hy (a := b) (cell := cellB) hcell
    (fun z h => by rw [h] at hobj; cases hobj) hselP hmethM habM hkP hkPi (g := g) hg (argsL := argsL) (rest := rest) (hlen _ hsigM) hstack hdg
  rcases hK m meth c ⟨T.setVm vm₁, locs, cells, slots⟩ { g with stack := rest } (.invokevirtual index) mk (Value.ref b :: argsL).toArray X₁ hg hsize hdg hW (X₁.named hnamed) (hpre vm₁ X₁.warmed) with ⟨v, B, X', hpost, hsteps⟩ | ⟨q, B, X', hpost, hsteps⟩
  · exact Or.inl ⟨v, vm₁, B, X₁.warmed, X', hpost, fun target h => hstep₁ _ fun acts => by rw [doInvoke_state]; exact hsteps.trans h⟩
  · exact Or.inr ⟨q, vm₁, B, X₁.warmed, X', hpost, hstep₁ _ fun acts => by rw [doInvoke_state]; exact hsteps⟩
theorem vx_callS (X : Stand p l e R s m args below meth c T locs cells slots) (hexec : p.tables.exec = Jvm.exec) {own : String} {index : Nat} {y : MethodName} {bytes : ByteArray} {maxL : Nat} {ret : Option FieldType}
    (hown : s.vm.findClass own = some m.cls) (hlink : (Cond.methodLink own index y).before args s = true) (hstat : (Cond.static y).before args s = true) (hinit : (Cond.initialized y.cls).before args s = true)
    (hcode : (Cond.code y bytes maxL ret).before args s = true) (hy : y.cls ≠ "java/lang/invoke/MethodHandle" ∧ y.cls ≠ "java/lang/invoke/VarHandle")
    {W9 : Nat} {Pre : Pt → Array Value → Prop} {Post : Pt → Array Value → Option Value → Pt → Prop} {PostX : Pt → Array Value → Addr → Pt → Prop} (hK : vx_Back l R p e below s args y 3 W9 Pre Post PostX)
    {g : JFrame} (hg : g.method = m) (hsize : g.locals.size = c.maxLocals) {argsL rest : List Value} (hlen : ∀ sig, parseMethodDescriptor y.desc = some sig → argsL.length = sig.parameters.length)
    (hstack : g.stack = argsL.reverse ++ rest) (hW : 2 * g.monitorRoom + (rest.map fun v => v.category).sum ≤ W9) (hdg : decode c.code g.pc = .ok (.invokestatic index, 3))
    (hpre : ∀ vm₁, s.WarmedH vm₁ → Pre ⟨T.setVm vm₁, locs, cells, slots⟩ argsL.toArray) :
    (∃ (v : Option Value) (vm₁ : Vm) (B : Pt), s.WarmedH vm₁ ∧ Stand p l e R s m args below meth c B.U B.locs B.cells B.slots ∧ Post ⟨T.setVm vm₁, locs, cells, slots⟩ argsL.toArray v B ∧
      ∀ target, Steps p.tables e below (B.U.setTop { g with pc := g.pc + 3, stack := v.toList ++ rest }) target → Steps p.tables e below (T.setTop g) target) ∨
    (∃ (q : Addr) (vm₁ : Vm) (B : Pt), s.WarmedH vm₁ ∧ Stand p l e R s m args below meth c B.U B.locs B.cells B.slots ∧ PostX ⟨T.setVm vm₁, locs, cells, slots⟩ argsL.toArray q B ∧
      Steps p.tables e below (T.setTop g) ((B.U.setTop { g with stack := rest }).pushFrame (.throwing q))) := by
  obtain ⟨mk, hnamed⟩ := Cond.code_named hcode
  obtain ⟨methM, cM, hmethM, -, -, -, -, -, -, hsigM⟩ := Cond.code_spec hnamed hcode
  have hstatic : methM.isStatic = true := Cond.static_spec hnamed hmethM hstat
  obtain ⟨kP, hkP, -⟩ := className_of_methodNamed hnamed
  have hinitP : kP.init = .initialized := Cond.initialized_spec (findClass_of_methodNamed hnamed) hkP hinit
  obtain ⟨vm₁, X₁, hstep₁⟩ := X.invokestatic hexec hown hlink hnamed hmethM hstatic hkP hinitP hy (g := g) hg (argsL := argsL) (rest := rest) (hlen _ hsigM) hstack hdg
  rcases hK m meth c ⟨T.setVm vm₁, locs, cells, slots⟩ { g with stack := rest } (.invokestatic index) mk argsL.toArray X₁ hg hsize hdg hW (X₁.named hnamed) (hpre vm₁ X₁.warmed) with ⟨v, B, X', hpost, hsteps⟩ | ⟨q, B, X', hpost, hsteps⟩
  · exact Or.inl ⟨v, vm₁, B, X₁.warmed, X', hpost, fun target h => hstep₁ _ fun acts => by rw [doInvoke_state]; exact hsteps.trans h⟩
  · exact Or.inr ⟨q, vm₁, B, X₁.warmed, X', hpost, hstep₁ _ fun acts => by rw [doInvoke_state]; exact hsteps⟩
end Calls
theorem vx_cls {s : State} {T : State} {vm₁ : Vm} {E : String} {k : ClassId} (hW : s.WarmedH vm₁) (h : (T.setVm vm₁).vm.findClass E = some k) : s.vm.findClass E = some k := by
  have h1 : vm₁.findClass E = some k := h
  rw [hW.alike.findClass] at h1
  exact h1
/-- the method's frame g, with q thrown over it -/
def vx_W (p : Program) (l : Launch) (e : Env) (R : Room) (s : State) (m : MethodId) (args : Array Value) (below : List Frame) (meth : Method) (c : Code) (H : Heap) (locs : List Loc) (cells slots : Nat) (Q : State → Prop) (g : JFrame) (q : Addr) : Prop :=
  ∀ T : State, T.heap = H → Stand p l e R s m args below meth c T locs cells slots → ∃ t, Steps p.tables e below ((T.setTop g).pushFrame (.throwing q)) t ∧ Q t
def vx_Run (p : Program) (l : Launch) (e : Env) (R : Room) (s : State) (m : MethodId) (args : Array Value) (below : List Frame) (meth : Method) (c : Code) (H : Heap) (locs : List Loc) (cells slots mc ms : Nat) (g : JFrame) (rest : List Value) (Qa : State → Outcome → State → Prop) (XC : String → State → State → Prop) (free : Addr → Prop) : Prop :=
  ∀ T : State, T.heap = H → Stand p l e R s m args below meth c T locs cells slots →
    (∃ (v : Option Value) (st₀ t T' : State) (L : List Loc), st₀.heap = H ∧ Stand p l e R s m args below meth c T' (locs ++ L) (cells + mc) (slots + ms) ∧ (∀ q ∈ L, free q.base) ∧ T'.heap = t.heap ∧ T'.vm = t.vm ∧ Qa st₀ (.returned v) t ∧
      Goes p e below T g T' { g with pc := g.pc + 3, stack := v.toList ++ rest }) ∨
    (∃ (q : Addr) (st₀ t T' : State) (L : List Loc) (E : String) (ce : Cell), st₀.heap = H ∧ Stand p l e R s m args below meth c T' (locs ++ L) (cells + mc) (slots + ms) ∧ (∀ z ∈ L, free z.base) ∧ T'.heap = t.heap ∧ T'.vm = t.vm ∧ XC E st₀ t ∧ t.heap[q]? = some ce ∧ ce.vm = .none ∧ s.vm.findClass E = some ce.cls ∧
      Steps p.tables e below (T.setTop g) ((T'.setTop { g with stack := rest }).pushFrame (.throwing q)))
def vx_X {S : Type} (px : S → Prop) (B : String → S → State → Prop) (A : Nat → Prop) : String → State → State → Prop := fun E st t => ∃ u : S, px u ∧ B E u t ∧ va_F A st t
section Runs
variable {p : Program} {l : Launch} {e : Env} {R : Room} {s : State} {m : MethodId} {args : Array Value} {below : List Frame} {meth : Method} {c : Code} {H : Heap} {locs : List Loc} {cells slots : Nat}
variable {y : MethodName} {bytes cc : ByteArray} {maxL nL mc ms n index : Nat} {ret : Option FieldType} {ws : List Cond} {rm : Room} {Pc : Array Value → State → Prop} {Qc : Array Value → State → Outcome → State → Prop} {XC : String → State → State → Prop} {free : Addr → Prop} {Ts : List Cond} {own C : String} {b : Addr} {As rest : List Value} {g : JFrame}
theorem vx_callBack (cb : CallB R s args own index y bytes maxL ret ws rm mc ms n) (hM : vx_Met l y ws rm Pc Qc XC mc ms free) (hbl : FrameBlind Pc) : vx_Back l R p e below s args y 3 8 (PreOf R mc ms Pc) (PostOf Qc mc ms free) (vx_Post XC mc ms free) := by
  obtain ⟨hrc, hrs, hfr, hlo, hws, hcw, -, hini, -⟩ := cb
  exact vx_back (bytes := bytes) (maxL := maxL) (ret := ret) hM hbl hrc hrs hfr hlo hws hcw (fun a' U hW => word_at hW (Or.inl (by first | rfl | simp [Cond.onTables, Cond.keeps, Cond.steady])) hini)
theorem vx_runV (S : CallFix p m c cc nL s args Ts own) (hM : vx_Met l y ws rm Pc Qc XC mc ms free) (cw : CallW R s args own C index y bytes maxL ret ws rm mc ms n) (hp : PreV s H C b Pc As)
    (hg : g.method = m) (hn : As.length = n) (hsize : g.locals.size = nL) (hstack : g.stack = As.reverse ++ .ref b :: rest) (hW : 2 * g.monitorRoom + (rest.map fun v => v.category).sum ≤ 8) (hdg : decode cc g.pc = .ok (.invokevirtual index, 3)) (hf : cells + mc ≤ R.cells ∧ slots + ms ≤ R.slots) :
    vx_Run p l e R s m args below meth c H locs cells slots mc ms g rest (Qc (Value.ref b :: As).toArray) XC free := by
  have hK : vx_Back l R p e below s args y 3 8 (PreOf R mc ms Pc) (PostOf Qc mc ms free) (vx_Post XC mc ms free) := vx_callBack cw.1 hM hp.1
  obtain ⟨⟨-, -, -, -, -, -, hcode, -, hy, hlen, hl⟩, hin, hse⟩ := cw
  obtain ⟨hx, hb, hml, ho, -⟩ := S
  obtain ⟨-, ⟨cellB, hcB, hoB, hclB⟩, hPc⟩ := hp
  intro T hT X
  rcases vx_callV X hx (C := C) (bytes := bytes) (maxL := maxL) (ret := ret) ho hl hin hse hcode hy hK (by rw [hT]; exact hcB) hoB hclB hg (hsize.trans hml.symm) (argsL := As) (rest := rest) (fun sig h => hn.trans (hlen sig h)) hstack hW (by rw [hb]; exact hdg)
    (fun vm₁ hW₁ => ⟨hf.1, hf.2, hPc (T.setVm vm₁) hT hW₁⟩) with ⟨v, vm₁, ⟨U', l2, c2, s2⟩, hW₁, X', ⟨g', mk, t, L, e1, e2, hq, h1, hL, h2, h3⟩, st⟩ | ⟨q, vm₁, ⟨U', l2, c2, s2⟩, hW₁, X', ⟨g', mk, t, L, E, ce, e1, e2, hq, hce, hcv, hcl, h1, hL, h2, h3⟩, st⟩
  · dsimp only [Pt.U, Pt.locs, Pt.cells, Pt.slots] at X' e1 e2 h1 h2 h3 st
    subst h1; subst h2; subst h3
    exact Or.inl ⟨v, (T.setVm vm₁).calling g' mk (Value.ref b :: As).toArray, t, U', L, hT, X', hL, e1, e2, hq, st⟩
  · dsimp only [Pt.U, Pt.locs, Pt.cells, Pt.slots] at X' e1 e2 h1 h2 h3 st hcl
    subst h1; subst h2; subst h3
    exact Or.inr ⟨q, (T.setVm vm₁).calling g' mk (Value.ref b :: As).toArray, t, U', L, E, ce, hT, X', hL, e1, e2, hq, hce, hcv, vx_cls hW₁ hcl, st⟩
theorem vx_runS (S : CallFix p m c cc nL s args Ts own) (hM : vx_Met l y ws rm Pc Qc XC mc ms free) (cw : CallB R s args own index y bytes maxL ret ws rm mc ms n ∧ (Cond.static y).before args s = true) (hp : PreS s H Pc As)
    (hg : g.method = m) (hn : As.length = n) (hsize : g.locals.size = nL) (hstack : g.stack = As.reverse ++ rest) (hW : 2 * g.monitorRoom + (rest.map fun v => v.category).sum ≤ 8) (hdg : decode cc g.pc = .ok (.invokestatic index, 3)) (hf : cells + mc ≤ R.cells ∧ slots + ms ≤ R.slots) :
    vx_Run p l e R s m args below meth c H locs cells slots mc ms g rest (Qc As.toArray) XC free := by
  have hK : vx_Back l R p e below s args y 3 8 (PreOf R mc ms Pc) (PostOf Qc mc ms free) (vx_Post XC mc ms free) := vx_callBack cw.1 hM hp.1
  obtain ⟨⟨-, -, -, -, -, -, hcode, hini, hy, hlen, hl⟩, hstt⟩ := cw
  obtain ⟨hx, hb, hml, ho, -⟩ := S
  intro T hT X
  rcases vx_callS X hx (bytes := bytes) (maxL := maxL) (ret := ret) ho hl hstt hini hcode hy hK hg (hsize.trans hml.symm) (argsL := As) (rest := rest) (fun sig h => hn.trans (hlen sig h)) hstack hW (by rw [hb]; exact hdg)
    (fun vm₁ hW₁ => ⟨hf.1, hf.2, hp.2 (T.setVm vm₁) hT hW₁⟩) with ⟨v, vm₁, ⟨U', l2, c2, s2⟩, hW₁, X', ⟨g', mk, t, L, e1, e2, hq, h1, hL, h2, h3⟩, st⟩ | ⟨q, vm₁, ⟨U', l2, c2, s2⟩, hW₁, X', ⟨g', mk, t, L, E, ce, e1, e2, hq, hce, hcv, hcl, h1, hL, h2, h3⟩, st⟩
  · dsimp only [Pt.U, Pt.locs, Pt.cells, Pt.slots] at X' e1 e2 h1 h2 h3 st
    subst h1; subst h2; subst h3
    exact Or.inl ⟨v, (T.setVm vm₁).calling g' mk As.toArray, t, U', L, hT, X', hL, e1, e2, hq, st⟩
  · dsimp only [Pt.U, Pt.locs, Pt.cells, Pt.slots] at X' e1 e2 h1 h2 h3 st hcl
    subst h1; subst h2; subst h3
    exact Or.inr ⟨q, (T.setVm vm₁).calling g' mk As.toArray, t, U', L, E, ce, hT, X', hL, e1, e2, hq, hce, hcv, vx_cls hW₁ hcl, st⟩
end Runs
section Rows
variable {p : Program} {l : Launch} {e : Env} {R : Room} {s : State} {m : MethodId} {args : Array Value} {below : List Frame} {meth : Method} {c : Code} {H : Heap} {locs : List Loc} {cells slots : Nat} {Q : State → Prop}
variable {mc ms : Nat} {free : Addr → Prop} {A0 A1 : Nat → Prop} {H0 : Heap} {a : Array Value} {pc : Nat} {ls : Array Slot} {st0 rest : List Value}
theorem vx_keep {st₀ t T' : State} {L : List Loc} (h0 : st₀.heap = H) (e1 : T'.heap = t.heap) (hS : va_S A0 H0 H locs) (hA : ∀ q, q < H.size → A1 q → A0 q) (hf : ∀ q, free q → A0 q) (hL : ∀ q ∈ L, free q.base) (hF : va_F A1 st₀ t) :
    H.size ≤ T'.heap.size ∧ (∀ q : Nat, q < H.size → ¬ A1 q → T'.heap[q]? = H[q]?) ∧ va_S A0 H0 T'.heap (locs ++ L) := by
  obtain ⟨hz, hk⟩ := hF
  rw [h0] at hz hk
  exact ⟨by rw [e1]; exact hz, fun q h1 h2 => by rw [e1]; exact hk q h1 h2,
    ⟨Nat.le_trans hS.1 (by rw [e1]; exact hz), fun q h1 h2 => by rw [e1, hk q (Nat.lt_of_lt_of_le h1 hS.1) (fun z => h2 (hA q (Nat.lt_of_lt_of_le h1 hS.1) z))]; exact hS.2.1 q h1 h2, fun q hq => by
      rcases List.mem_append.mp hq with h | h
      · exact hS.2.2 q h
      · exact hf _ (hL q h)⟩⟩
theorem vx_calli {S SX : Type} {post : Int32 → S → Prop} {px : SX → Prop} {B : S → State → Prop} {BX : String → SX → State → Prop} {AX : Nat → Prop} (hr : vx_Run p l e R s m args below meth c H locs cells slots mc ms (F0 m pc ls st0) rest (va_Qi post B A1 a) (vx_X px BX AX) free) (hS : va_S A0 H0 H locs) (hA : ∀ q, q < H.size → A1 q → A0 q) (hf : ∀ q, free q → A0 q) (hAX : ∀ q, q < H.size → AX q → A0 q)
    (kx : ∀ (E : String) (ce : Cell) (q9 : Addr) (u : SX) (t : State) (H1 : Heap) (locs1 : List Loc), t.heap = H1 → s.vm.Alike t.vm → px u → BX E u t → H.size ≤ H1.size → (∀ q : Nat, q < H.size → ¬ AX q → H1[q]? = H[q]?) → va_S A0 H0 H1 locs1 → H1[q9]? = some ce → ce.vm = .none → s.vm.findClass E = some ce.cls → vx_W p l e R s m args below meth c H1 locs1 (cells + mc) (slots + ms) Q (F0 m pc ls rest) q9)
    (kk : ∀ (r : Int32) (u : S) (t : State) (H1 : Heap) (locs1 : List Loc), t.heap = H1 → s.vm.Alike t.vm → post r u → B u t → H.size ≤ H1.size → (∀ q : Nat, q < H.size → ¬ A1 q → H1[q]? = H[q]?) → va_S A0 H0 H1 locs1 → W p l e R s m args below meth c H1 locs1 (cells + mc) (slots + ms) Q (F0 m (pc + 3) ls (.int r :: rest))) : W p l e R s m args below meth c H locs cells slots Q (F0 m pc ls st0) := by
  intro T hT X
  rcases hr T hT X with ⟨v, st₀, t, T', L, h0, X', hL, e1, e2, ⟨⟨r, u, hv, hp, hb⟩, hF⟩, st⟩ | ⟨q, st₀, t, T', L, E, ce, h0, X', hL, e1, e2, ⟨u, hp, hb, hF⟩, hce, hcv, hcl, st⟩
  · cases hv
    obtain ⟨k1, k2, k3⟩ := vx_keep h0 e1 hS hA hf hL hF
    obtain ⟨t2, a1, b1⟩ := kk r u t T'.heap (locs ++ L) e1.symm (by rw [← e2]; exact X'.warmed.alike) hp hb k1 k2 k3 T' rfl X'
    exact ⟨t2, st t2 a1, b1⟩
  · obtain ⟨k1, k2, k3⟩ := vx_keep h0 e1 hS hAX hf hL hF
    obtain ⟨t2, a1, b1⟩ := kx E ce q u t T'.heap (locs ++ L) e1.symm (by rw [← e2]; exact X'.warmed.alike) hp hb k1 k2 k3 (by rw [e1]; exact hce) hcv hcl T' rfl X'
    exact ⟨t2, st.trans a1, b1⟩
theorem vx_calll {S SX : Type} {post : Int64 → S → Prop} {px : SX → Prop} {B : S → State → Prop} {BX : String → SX → State → Prop} {AX : Nat → Prop} (hr : vx_Run p l e R s m args below meth c H locs cells slots mc ms (F0 m pc ls st0) rest (va_Ql post B A1 a) (vx_X px BX AX) free) (hS : va_S A0 H0 H locs) (hA : ∀ q, q < H.size → A1 q → A0 q) (hf : ∀ q, free q → A0 q) (hAX : ∀ q, q < H.size → AX q → A0 q)
    (kx : ∀ (E : String) (ce : Cell) (q9 : Addr) (u : SX) (t : State) (H1 : Heap) (locs1 : List Loc), t.heap = H1 → s.vm.Alike t.vm → px u → BX E u t → H.size ≤ H1.size → (∀ q : Nat, q < H.size → ¬ AX q → H1[q]? = H[q]?) → va_S A0 H0 H1 locs1 → H1[q9]? = some ce → ce.vm = .none → s.vm.findClass E = some ce.cls → vx_W p l e R s m args below meth c H1 locs1 (cells + mc) (slots + ms) Q (F0 m pc ls rest) q9)
    (kk : ∀ (r : Int64) (u : S) (t : State) (H1 : Heap) (locs1 : List Loc), t.heap = H1 → s.vm.Alike t.vm → post r u → B u t → H.size ≤ H1.size → (∀ q : Nat, q < H.size → ¬ A1 q → H1[q]? = H[q]?) → va_S A0 H0 H1 locs1 → W p l e R s m args below meth c H1 locs1 (cells + mc) (slots + ms) Q (F0 m (pc + 3) ls (.long r :: rest))) : W p l e R s m args below meth c H locs cells slots Q (F0 m pc ls st0) := by
  intro T hT X
  rcases hr T hT X with ⟨v, st₀, t, T', L, h0, X', hL, e1, e2, ⟨⟨r, u, hv, hp, hb⟩, hF⟩, st⟩ | ⟨q, st₀, t, T', L, E, ce, h0, X', hL, e1, e2, ⟨u, hp, hb, hF⟩, hce, hcv, hcl, st⟩
  · cases hv
    obtain ⟨k1, k2, k3⟩ := vx_keep h0 e1 hS hA hf hL hF
    obtain ⟨t2, a1, b1⟩ := kk r u t T'.heap (locs ++ L) e1.symm (by rw [← e2]; exact X'.warmed.alike) hp hb k1 k2 k3 T' rfl X'
    exact ⟨t2, st t2 a1, b1⟩
  · obtain ⟨k1, k2, k3⟩ := vx_keep h0 e1 hS hAX hf hL hF
    obtain ⟨t2, a1, b1⟩ := kx E ce q u t T'.heap (locs ++ L) e1.symm (by rw [← e2]; exact X'.warmed.alike) hp hb k1 k2 k3 (by rw [e1]; exact hce) hcv hcl T' rfl X'
    exact ⟨t2, st.trans a1, b1⟩
theorem vx_callf {S SX : Type} {post : UInt32 → S → Prop} {px : SX → Prop} {B : S → State → Prop} {BX : String → SX → State → Prop} {AX : Nat → Prop} (hr : vx_Run p l e R s m args below meth c H locs cells slots mc ms (F0 m pc ls st0) rest (va_Qf post B A1 a) (vx_X px BX AX) free) (hS : va_S A0 H0 H locs) (hA : ∀ q, q < H.size → A1 q → A0 q) (hf : ∀ q, free q → A0 q) (hAX : ∀ q, q < H.size → AX q → A0 q)
    (kx : ∀ (E : String) (ce : Cell) (q9 : Addr) (u : SX) (t : State) (H1 : Heap) (locs1 : List Loc), t.heap = H1 → s.vm.Alike t.vm → px u → BX E u t → H.size ≤ H1.size → (∀ q : Nat, q < H.size → ¬ AX q → H1[q]? = H[q]?) → va_S A0 H0 H1 locs1 → H1[q9]? = some ce → ce.vm = .none → s.vm.findClass E = some ce.cls → vx_W p l e R s m args below meth c H1 locs1 (cells + mc) (slots + ms) Q (F0 m pc ls rest) q9)
    (kk : ∀ (r : UInt32) (u : S) (t : State) (H1 : Heap) (locs1 : List Loc), t.heap = H1 → s.vm.Alike t.vm → post r u → B u t → H.size ≤ H1.size → (∀ q : Nat, q < H.size → ¬ A1 q → H1[q]? = H[q]?) → va_S A0 H0 H1 locs1 → W p l e R s m args below meth c H1 locs1 (cells + mc) (slots + ms) Q (F0 m (pc + 3) ls (.float r :: rest))) : W p l e R s m args below meth c H locs cells slots Q (F0 m pc ls st0) := by
  intro T hT X
  rcases hr T hT X with ⟨v, st₀, t, T', L, h0, X', hL, e1, e2, ⟨⟨r, u, hv, hp, hb⟩, hF⟩, st⟩ | ⟨q, st₀, t, T', L, E, ce, h0, X', hL, e1, e2, ⟨u, hp, hb, hF⟩, hce, hcv, hcl, st⟩
  · cases hv
    obtain ⟨k1, k2, k3⟩ := vx_keep h0 e1 hS hA hf hL hF
    obtain ⟨t2, a1, b1⟩ := kk r u t T'.heap (locs ++ L) e1.symm (by rw [← e2]; exact X'.warmed.alike) hp hb k1 k2 k3 T' rfl X'
    exact ⟨t2, st t2 a1, b1⟩
  · obtain ⟨k1, k2, k3⟩ := vx_keep h0 e1 hS hAX hf hL hF
    obtain ⟨t2, a1, b1⟩ := kx E ce q u t T'.heap (locs ++ L) e1.symm (by rw [← e2]; exact X'.warmed.alike) hp hb k1 k2 k3 (by rw [e1]; exact hce) hcv hcl T' rfl X'
    exact ⟨t2, st.trans a1, b1⟩
theorem vx_calld {S SX : Type} {post : UInt64 → S → Prop} {px : SX → Prop} {B : S → State → Prop} {BX : String → SX → State → Prop} {AX : Nat → Prop} (hr : vx_Run p l e R s m args below meth c H locs cells slots mc ms (F0 m pc ls st0) rest (va_Qd post B A1 a) (vx_X px BX AX) free) (hS : va_S A0 H0 H locs) (hA : ∀ q, q < H.size → A1 q → A0 q) (hf : ∀ q, free q → A0 q) (hAX : ∀ q, q < H.size → AX q → A0 q)
    (kx : ∀ (E : String) (ce : Cell) (q9 : Addr) (u : SX) (t : State) (H1 : Heap) (locs1 : List Loc), t.heap = H1 → s.vm.Alike t.vm → px u → BX E u t → H.size ≤ H1.size → (∀ q : Nat, q < H.size → ¬ AX q → H1[q]? = H[q]?) → va_S A0 H0 H1 locs1 → H1[q9]? = some ce → ce.vm = .none → s.vm.findClass E = some ce.cls → vx_W p l e R s m args below meth c H1 locs1 (cells + mc) (slots + ms) Q (F0 m pc ls rest) q9)
    (kk : ∀ (r : UInt64) (u : S) (t : State) (H1 : Heap) (locs1 : List Loc), t.heap = H1 → s.vm.Alike t.vm → post r u → B u t → H.size ≤ H1.size → (∀ q : Nat, q < H.size → ¬ A1 q → H1[q]? = H[q]?) → va_S A0 H0 H1 locs1 → W p l e R s m args below meth c H1 locs1 (cells + mc) (slots + ms) Q (F0 m (pc + 3) ls (.double r :: rest))) : W p l e R s m args below meth c H locs cells slots Q (F0 m pc ls st0) := by
  intro T hT X
  rcases hr T hT X with ⟨v, st₀, t, T', L, h0, X', hL, e1, e2, ⟨⟨r, u, hv, hp, hb⟩, hF⟩, st⟩ | ⟨q, st₀, t, T', L, E, ce, h0, X', hL, e1, e2, ⟨u, hp, hb, hF⟩, hce, hcv, hcl, st⟩
  · cases hv
    obtain ⟨k1, k2, k3⟩ := vx_keep h0 e1 hS hA hf hL hF
    obtain ⟨t2, a1, b1⟩ := kk r u t T'.heap (locs ++ L) e1.symm (by rw [← e2]; exact X'.warmed.alike) hp hb k1 k2 k3 T' rfl X'
    exact ⟨t2, st t2 a1, b1⟩
  · obtain ⟨k1, k2, k3⟩ := vx_keep h0 e1 hS hAX hf hL hF
    obtain ⟨t2, a1, b1⟩ := kx E ce q u t T'.heap (locs ++ L) e1.symm (by rw [← e2]; exact X'.warmed.alike) hp hb k1 k2 k3 (by rw [e1]; exact hce) hcv hcl T' rfl X'
    exact ⟨t2, st.trans a1, b1⟩
theorem vx_callv {S SX : Type} {post : S → Prop} {px : SX → Prop} {B : S → State → Prop} {BX : String → SX → State → Prop} {AX : Nat → Prop} (hr : vx_Run p l e R s m args below meth c H locs cells slots mc ms (F0 m pc ls st0) rest (va_Qv post B A1 a) (vx_X px BX AX) free) (hS : va_S A0 H0 H locs) (hA : ∀ q, q < H.size → A1 q → A0 q) (hf : ∀ q, free q → A0 q) (hAX : ∀ q, q < H.size → AX q → A0 q)
    (kx : ∀ (E : String) (ce : Cell) (q9 : Addr) (u : SX) (t : State) (H1 : Heap) (locs1 : List Loc), t.heap = H1 → s.vm.Alike t.vm → px u → BX E u t → H.size ≤ H1.size → (∀ q : Nat, q < H.size → ¬ AX q → H1[q]? = H[q]?) → va_S A0 H0 H1 locs1 → H1[q9]? = some ce → ce.vm = .none → s.vm.findClass E = some ce.cls → vx_W p l e R s m args below meth c H1 locs1 (cells + mc) (slots + ms) Q (F0 m pc ls rest) q9)
    (kk : ∀ (u : S) (t : State) (H1 : Heap) (locs1 : List Loc), t.heap = H1 → s.vm.Alike t.vm → post u → B u t → H.size ≤ H1.size → (∀ q : Nat, q < H.size → ¬ A1 q → H1[q]? = H[q]?) → va_S A0 H0 H1 locs1 → W p l e R s m args below meth c H1 locs1 (cells + mc) (slots + ms) Q (F0 m (pc + 3) ls (rest))) : W p l e R s m args below meth c H locs cells slots Q (F0 m pc ls st0) := by
  intro T hT X
  rcases hr T hT X with ⟨v, st₀, t, T', L, h0, X', hL, e1, e2, ⟨⟨u, hv, hp, hb⟩, hF⟩, st⟩ | ⟨q, st₀, t, T', L, E, ce, h0, X', hL, e1, e2, ⟨u, hp, hb, hF⟩, hce, hcv, hcl, st⟩
  · cases hv
    obtain ⟨k1, k2, k3⟩ := vx_keep h0 e1 hS hA hf hL hF
    obtain ⟨t2, a1, b1⟩ := kk u t T'.heap (locs ++ L) e1.symm (by rw [← e2]; exact X'.warmed.alike) hp hb k1 k2 k3 T' rfl X'
    exact ⟨t2, st t2 a1, b1⟩
  · obtain ⟨k1, k2, k3⟩ := vx_keep h0 e1 hS hAX hf hL hF
    obtain ⟨t2, a1, b1⟩ := kx E ce q u t T'.heap (locs ++ L) e1.symm (by rw [← e2]; exact X'.warmed.alike) hp hb k1 k2 k3 (by rw [e1]; exact hce) hcv hcl T' rfl X'
    exact ⟨t2, st.trans a1, b1⟩
/-- caught by the row x of this method's table; the rows ahead don't take it -/
theorem vx_catch {own name : String} {E : String} {ce : Cell} {q : Addr} (hown : s.vm.findClass own = some m.cls) (pre : List ExceptionTableEntry) (x : ExceptionTableEntry) (suf : List ExceptionTableEntry) (hsplit : c.exceptionTable.toList = pre ++ x :: suf)
    (hpass : ∀ z ∈ pre, covers z pc = false ∨ (z.catchType ≠ 0 ∧ ∃ nm : String, (Cond.classLink own z.catchType nm).before args s = true ∧ va_Nc E nm s)) (hx : covers x pc = true) (h0 : x.catchType ≠ 0)
    (hlink : (Cond.classLink own x.catchType name).before args s = true) (hcast : (Cond.castable E name).before args s = true) (hcell : H[q]? = some ce) (hv : ce.vm = .none) (hcl : s.vm.findClass E = some ce.cls)
    (kk : W p l e R s m args below meth c H locs cells slots Q (F0 m x.handlerPc ls [.ref q])) : vx_W p l e R s m args below meth c H locs cells slots Q (F0 m pc ls rest) q := by
  intro T hT X
  have hpl : e.platform.magicAccessors = ({} : Platform).magicAccessors := by rw [X.admits.platform]
  obtain ⟨c3, c4, hc3, hc4, hasg⟩ := Cond.castable_spec hcast
  cases Option.some.inj (hc3.symm.trans hcl)
  obtain ⟨c5, hc5, hcl5⟩ := Cond.classLink_spec hown hlink e.platform hpl
  cases Option.some.inj (hc4.symm.trans hc5)
  obtain ⟨vm', X', st⟩ := X.thenCaughtThrough q (g := F0 m pc ls rest) rfl (Steps.refl _) (by rw [hT]; exact hcell) (by rw [hv]; rfl) (by obtain ⟨k9, h9, -⟩ := Vm.findClass_spec hcl; exact ⟨k9, h9⟩) pre x suf hsplit
    (fun z hz => by
      rcases hpass z hz with h | ⟨hz0, nm, hl1, hn1⟩
      · exact Or.inl h
      · obtain ⟨c6, hc6, hcl6⟩ := Cond.classLink_spec hown hl1 e.platform hpl
        obtain ⟨a8, b8, h1, h2, h3⟩ := hn1
        cases Option.some.inj (h1.symm.trans hcl)
        cases Option.some.inj (h2.symm.trans hc6)
        exact Or.inr ⟨hz0, _, hcl6, h3⟩) hx (Or.inr ⟨h0, c4, hcl5, hasg⟩)
  obtain ⟨t, a1, b1⟩ := kk (T.setVm vm') hT X'
  exact ⟨t, st.trans a1, b1⟩
end Rows
section Ends
variable {p : Program} {l : Launch} {e : Env} {R : Room} {s : State} {m : MethodId} {args : Array Value} {below : List Frame} {meth : Method} {c : Code} {H : Heap} {locs : List Loc} {cells slots : Nat} {Q : State → Prop}
variable {mc ms : Nat} {free : Addr → Prop} {A0 A1 : Nat → Prop} {H0 : Heap} {a : Array Value} {ls : Array Slot} {st0 rest : List Value}
variable {Qc : Array Value → State → Outcome → State → Prop} {XC : String → State → State → Prop}
/-- what a body that may throw owes at its end -/
def vx_MQ (below : List Frame) (Qc : Array Value → State → Outcome → State → Prop) (XC : String → State → State → Prop) (a : Array Value) (s : State) (mc ms : Nat) (free : Addr → Prop) : State → Prop := fun t =>
  ∃ o, t.status = .running ∧ Ended t below o ∧ vx_Q Qc XC mc ms free a s o t
theorem vx_ret {g : JFrame} {mc ms : Nat} (k : W p l e R s m args below meth c H locs cells slots (MQ below Qc args s mc ms free) g) : W p l e R s m args below meth c H locs cells slots (vx_MQ below Qc XC args s mc ms free) g := by
  intro T hT X
  obtain ⟨t, a1, o, b1, b2, b3, b4⟩ := k T hT X
  exact ⟨t, a1, o, b1, b2, Or.inl ⟨b3, b4⟩⟩
/-- not caught here: it goes on to the caller -/
theorem vx_widen {g : JFrame} {q : Addr} {k n : Nat} (h1 : cells ≤ k) (h2 : slots ≤ n) (kk : vx_W p l e R s m args below meth c H locs k n Q g q) : vx_W p l e R s m args below meth c H locs cells slots Q g q := fun T hT X => kk T hT (stand_widen X h1 h2)
theorem vx_out {pc : Nat} {E : String} {ce : Cell} {q : Addr} {mc ms : Nat} (hout : ∀ x ∈ c.exceptionTable.toList, covers x pc = false) (hlocks : meth.locks = false) (hcell : H[q]? = some ce) (hv : ce.vm = .none) (hcl : s.vm.findClass E = some ce.cls)
    (hx : ∀ t : State, t.heap = H → s.vm.Alike t.vm → XC E s t) (hf : ∀ z ∈ locs, free z.base) (hc : cells ≤ mc) (hs : slots ≤ ms) :
    vx_W p l e R s m args below meth c H locs cells slots (vx_MQ below Qc XC args s mc ms free) (F0 m pc ls rest) q := by
  intro T hT X
  obtain ⟨st1, hrun, hend, hW, hsm⟩ := X.leaveThrown q (g := F0 m pc ls rest) rfl rfl rfl hout hlocks
  have hcell9 : (T.setFrames (.throwing q :: below)).heap[q]? = some ce := by
    show T.heap[q]? = some ce
    rw [hT]; exact hcell
  exact ⟨_, st1, .threw q, hrun, hend, Or.inr ⟨q, rfl, E, ce, locs, hx _ hT hW.alike, hcell9, hv, hcl, hW, hsm.mono hc hs, hf⟩⟩
theorem vx_frame {U : State} {k n : Nat} (h : s.sameButNew ({ U with vm := s.vm } : State) locs k n) : s.heap.size ≤ U.heap.size ∧ ∀ q : Nat, q < s.heap.size → (∀ z ∈ locs, z.base ≠ q) → U.heap[q]? = s.heap[q]? := by
  obtain ⟨-, h2, -, -, -, h6⟩ := h
  refine ⟨h2, fun q hq hz => ?_⟩
  obtain ⟨c9, e1, e2, e3, e4⟩ := h6 q _ (Array.getElem?_eq_getElem hq)
  have hs : c9.slots = (s.heap[q]).slots := Array.ext_getElem? fun i => e4 i fun hm => hz _ hm rfl
  have h9 : c9 = s.heap[q] := by
    rw [hs] at e2
    exact e2
  have e5 : U.heap[q]? = some c9 := e1
  rw [e5, h9, Array.getElem?_eq_getElem hq]
/-- the words of a throw but the four that speak of the heap -/
def vx_no (w : Cond) : Bool := decide (w ≠ .isRef (.static Bundle.tN "UNASSIGNED_STACK" Bundle.steD)) && decide (w ≠ .isRef (.static Bundle.tN "SUPPRESSED_SENTINEL" Bundle.listD)) && decide (w ≠ .laysStatic Bundle.tN "UNASSIGNED_STACK" Bundle.steD) && decide (w ≠ .laysStatic Bundle.tN "SUPPRESSED_SENTINEL" Bundle.listD)
def vx_at0 (own : String) (ic : Nat) (X : String) (names : List String) : List Cond := (Bundle.ownAtoms0 own ic X names).filter vx_no
def vx_atS (own : String) (ic : Nat) (X : String) (names : List String) : List Cond := (Bundle.ownAtoms own ic X names).filter vx_no
/-- a word that the tables alone decide, or a good one -/
def vx_ot (w : Cond) : Bool := w.onTables || goodWord w
theorem vx_ot_at {args a' : Array Value} {s U : State} {w : Cond} (hW : s.WarmedH U.vm) (hvm : s.vm = U.vm) (hg : vx_ot w = true) (h : w.before args s = true) : w.before a' U = true := by
  simp only [vx_ot, Bool.or_eq_true] at hg
  rcases hg with hg | hg
  · exact va_tabs hg hvm h
  · exact word_at hW (good_of_word hg) h
/-- a list's words: the good ones out of the method's own list, the others by premises of their own -/
theorem vx_hat {args : Array Value} {s : State} {L B : List Cond} (h1 : ∀ w ∈ L.filter goodWord, w.before args s = true) (h2 : ∀ w ∈ L.filter (fun w => !goodWord w), w ∈ B) (h3 : ∀ w ∈ B, w.before args s = true) : ∀ w ∈ L, w.before args s = true := by
  intro w hw
  by_cases g : goodWord w = true
  · exact h1 w (List.mem_filter.mpr ⟨hw, g⟩)
  · refine h3 w (h2 w (List.mem_filter.mpr ⟨hw, ?_⟩))
    show (!goodWord w) = true
    cases hgw : goodWord w
    · rfl
    · exact absurd hgw g
theorem vx_c {args : Array Value} {s : State} {w : Cond} {B : List Cond} (h : w.before args s = true) (t : ∀ w ∈ B, w.before args s = true) : ∀ w' ∈ w :: B, w'.before args s = true := fun w' h' => (List.mem_cons.mp h').elim (fun e => by rw [e]; exact h) (t w')
theorem vx_n {args : Array Value} {s : State} : ∀ w ∈ ([] : List Cond), w.before args s = true := fun _ h => nomatch h
theorem vx_own {args : Array Value} {s : State} {L : List Cond} (h1 : ∀ w ∈ L.filter vx_no, w.before args s = true)
    (hU : (Cond.isRef (.static Bundle.tN "UNASSIGNED_STACK" Bundle.steD)).before args s = true) (hN : (Cond.isRef (.static Bundle.tN "SUPPRESSED_SENTINEL" Bundle.listD)).before args s = true)
    (lU : (Cond.laysStatic Bundle.tN "UNASSIGNED_STACK" Bundle.steD).before args s = true) (lN : (Cond.laysStatic Bundle.tN "SUPPRESSED_SENTINEL" Bundle.listD).before args s = true) : ∀ w ∈ L, w.before args s = true := by
  intro w hw
  by_cases e1 : w = .isRef (.static Bundle.tN "UNASSIGNED_STACK" Bundle.steD)
  · rw [e1]; exact hU
  · by_cases e2 : w = .isRef (.static Bundle.tN "SUPPRESSED_SENTINEL" Bundle.listD)
    · rw [e2]; exact hN
    · by_cases e3 : w = .laysStatic Bundle.tN "UNASSIGNED_STACK" Bundle.steD
      · rw [e3]; exact lU
      · by_cases e4 : w = .laysStatic Bundle.tN "SUPPRESSED_SENTINEL" Bundle.listD
        · rw [e4]; exact lN
        · exact h1 w (List.mem_filter.mpr ⟨hw, by unfold vx_no; rw [decide_eq_true e1, decide_eq_true e2, decide_eq_true e3, decide_eq_true e4]; rfl⟩)
/-- where a static field lies, its class's statics cell in H -/
def vx_L (C n d : String) (A : Nat → Prop) (U : State) (H : Heap) : Prop := ∃ (c : ClassId) (k : Class) (i : Nat) (f : Field) (a : Nat) (cell : Cell), U.vm.findClass C = some c ∧ U.fieldFound? C n d = some (c, k, i, f) ∧ f.isStatic = true ∧ k.statics = some a ∧ H[a]? = some cell ∧ cell.vm.isStatics = true ∧ cell.cls = c ∧ f.slot < cell.slots.size ∧ k.staticTypes[f.slot]? = some f.type ∧ ¬ A a
theorem vx_L.moved {C n d : String} {A : Nat → Prop} {u U : State} {H : Heap} (hvm : u.vm.Alike U.vm) (h : vx_L C n d A u H) : vx_L C n d A U H := by
  obtain ⟨c, k, i, f, a, cell, h1, h2, h3, h4, h5, h6, h7, h8, h9, h10⟩ := h
  obtain ⟨k', hi', he⟩ := State.fieldFound?_setVm hvm h2
  exact ⟨c, k', i, f, a, cell, by rw [hvm.findClass]; exact h1, hi', h3, by rw [he]; exact h4, h5, h6, h7, h8, by rw [he]; exact h9, h10⟩
theorem vx_L.kept {C n d : String} {A : Nat → Prop} {U : State} {H H1 : Heap} (h : vx_L C n d A U H) (hq : ∀ a : Nat, a < H.size → ¬ A a → H1[a]? = H[a]?) : vx_L C n d A U H1 := by
  obtain ⟨c, k, i, f, a, cell, h1, h2, h3, h4, h5, h6, h7, h8, h9, h10⟩ := h
  exact ⟨c, k, i, f, a, cell, h1, h2, h3, h4, by rw [hq a (Array.getElem?_eq_some_iff.mp h5).1 h10]; exact h5, h6, h7, h8, h9, h10⟩
theorem vx_L.narrow {C n d : String} {A B : Nat → Prop} {U : State} {H : Heap} (h : vx_L C n d A U H) (hAB : ∀ q, B q → A q) : vx_L C n d B U H := by
  obtain ⟨c, k, i, f, a, cell, h1, h2, h3, h4, h5, h6, h7, h8, h9, h10⟩ := h
  exact ⟨c, k, i, f, a, cell, h1, h2, h3, h4, h5, h6, h7, h8, h9, fun z => h10 (hAB _ z)⟩
theorem vx_L.word {C n d : String} {A : Nat → Prop} {s : State} {args : Array Value} (h : vx_L C n d A s s.heap) : (Cond.laysStatic C n d).before args s = true := by
  obtain ⟨c, k, i, f, a, cell, h1, h2, h3, h4, h5, h6, h7, h8, h9, -⟩ := h
  show (Cond.laysStatic C n d).holds args s none s [] = true
  exact Cond.laysStatic_of h1 h2 h3 h4 h5 h6 h7 h8 h9
/-- .. and what it holds: null or some reference -/
def vx_Zq (C n d : String) (A : Nat → Prop) (U : State) (H : Heap) : Prop := va_Zq C n d A U H ∧ vx_L C n d A U H
theorem vx_Zq.moved {C n d : String} {A : Nat → Prop} {u U : State} {H : Heap} (hvm : u.vm.Alike U.vm) (h : vx_Zq C n d A u H) : vx_Zq C n d A U H := ⟨va_Zq.moved hvm h.1, vx_L.moved hvm h.2⟩
theorem vx_Zq.kept {C n d : String} {A : Nat → Prop} {U : State} {H H1 : Heap} (h : vx_Zq C n d A U H) (hq : ∀ a : Nat, a < H.size → ¬ A a → H1[a]? = H[a]?) : vx_Zq C n d A U H1 := ⟨va_Zq.kept h.1 hq, vx_L.kept h.2 hq⟩
theorem vx_Zq.narrow {C n d : String} {A B : Nat → Prop} {U : State} {H : Heap} (h : vx_Zq C n d A U H) (hAB : ∀ q, B q → A q) : vx_Zq C n d B U H := ⟨va_Zq.narrow h.1 hAB, vx_L.narrow h.2 hAB⟩
theorem vx_Zqof {args : Array Value} {s : State} {C n d : String} {A : Nat → Prop} (hl : (Cond.laysStatic C n d).before args s = true) (hini : (Cond.initialized C).before args s = true) (h : (Cond.isRef (.static C n d)).before args s = true) (hA : ∀ a : Nat, a < s.heap.size → ¬ A a) : vx_Zq C n d A s s.heap := by
  refine ⟨va_Zqof hl hini h hA, ?_⟩
  obtain ⟨c, k, i, f, a, cell, h1, h2, h3, h4, h5, h6, h7, h8, h9⟩ := Cond.laysStatic_spec hl
  exact ⟨c, k, i, f, a, cell, h1, h2, h3, h4, h5, h6, h7, h8, h9, hA a (Array.getElem?_eq_some_iff.mp h5).1⟩
theorem vx_isRef {C n d : String} {v : Value} {A : Nat → Prop} {s : State} {args : Array Value} (h : va_Z C n d v A s s.heap) (hv : v.isRef = true) : (Cond.isRef (.static C n d)).before args s = true := by
  obtain ⟨cf, kf, fi, f, a, cell, h1, h2, h3, h4, h5, h6, h7, -⟩ := h
  have he : (Term.static C n d).eval args s none [] s = some v := by
    simp [Term.eval, State.fieldNamed?, h1, h2, h4, h5, h6, h7]
  simp only [Cond.before, Cond.holds, Cond.value, he]
  cases v <;> simp_all [Value.isRef]
theorem vx_isRefq {C n d : String} {A : Nat → Prop} {s : State} {args : Array Value} (h : va_Zq C n d A s s.heap) : (Cond.isRef (.static C n d)).before args s = true := by
  rcases h with h | ⟨t, h⟩
  · exact vx_isRef h rfl
  · exact vx_isRef h rfl
/-- the same frame, seen from here: as if the method were called anew in this heap -/
theorem vx_rebase {T : State} (X : Stand p l e R s m args below meth c T locs cells slots) {R' : Room} (hf : R'.frames ≤ R.frames) (hl : R'.locals ≤ R.locals) (hc : cells + R'.cells ≤ R.cells) (hs : slots + R'.slots ≤ R.slots) :
    Stand p l e R' ((T.setVm s.vm).setFrames (.invoking m args :: below)) m args below meth c T [] 0 0 := by
  have htop : (T.setVm s.vm).topJava?.isSome := X.here.top
  have hF : ((T.setVm s.vm).setFrames (.invoking m args :: below)).frames = .invoking m args :: below := State.frames_setFrames _ (State.cur_lt_of_top htop)
  obtain ⟨g₀, hg0⟩ := Option.isSome_iff_exists.mp htop
  obtain ⟨r, hr⟩ := State.topJava?_eq_some.mp hg0
  have hl9 : e.platform.stackLimits (T.setVm s.vm).me = e.platform.stackLimits s.me := X.limits
  have hb9 : (T.setVm s.vm).me.stackBytes = s.me.stackBytes := X.bytes
  refine ⟨X.admits, X.cas, X.clock, hF, ?_, X.hears, X.method, X.code, X.here, X.tail, X.warmed, ?_, ?_, ?_⟩
  · have h := X.room
    have hU : ((T.setVm s.vm).setFrames (.invoking m args :: below)).localsInUse = s.localsInUse := by
      rw [State.localsInUse_invoking hF (meth := meth) (c := c) X.method X.code, State.localsInUse_invoking X.frames X.method X.code]
    simp only [State.hasRoom, Bool.and_eq_true, decide_eq_true_eq] at h ⊢
    obtain ⟨⟨⟨⟨h1, h2, h3, h4, h5, h6⟩, h7⟩, h8⟩, h9⟩ := h
    rw [X.frames, List.length_cons] at h2 h3
    have q1 := X.heapSize
    have q2 := X.used
    simp only [hF, hU, List.length_cons, State.stackLimits_setFrames, State.stackBytes_setFrames, hl9, hb9]
    refine ⟨⟨⟨⟨by omega, by omega, by omega, by omega, by omega, h6⟩, ?_⟩, ?_⟩, X.book⟩
    · show T.heap.size + R'.cells ≤ e.platform.maxCells
      omega
    · show T.slotsUsed + R'.slots ≤ e.platform.maxSlots
      omega
  · rw [State.stackLimits_setFrames]; rfl
  · rw [State.stackBytes_setFrames]; rfl
  · refine ⟨?_, Nat.le_refl _, Nat.le_refl _, ?_, ?_, fun a c9 h9 => ⟨c9, h9, rfl, rfl, fun _ _ => rfl⟩⟩
    · obtain ⟨t, ht, -⟩ := State.frames_cons hr
      show T.setVm s.vm = { ((T.setVm s.vm).setFrames (.invoking m args :: below)).setFrames (T.setVm s.vm).frames with heap := T.heap, slotsUsed := T.slotsUsed }
      rw [State.setFrames_setFrames, State.setFrames_self ht]
      rfl
    · show T.slotsUsed = T.slotsUsed + ((T.heap.toList.drop T.heap.size).map (·.slots.size)).sum
      rw [List.drop_eq_nil_of_le (Nat.le_of_eq Array.length_toList)]
      rfl
    · show ((T.heap.toList.drop T.heap.size).map (·.slots.size)).sum ≤ 0
      rw [List.drop_eq_nil_of_le (Nat.le_of_eq Array.length_toList)]
      exact Nat.le_refl _
/-- 'throw new E()': new; dup; invokespecial; athrow -/
theorem vx_throw0 {cc : ByteArray} {pc : Nat} (hexec : p.tables.exec = Jvm.exec) (hb : c.code = cc) (hl : l.stackTraces = false) {own cls : String} {names : List String} {ik ic mc ms : Nat} {A : Nat → Prop}
    (hown : s.vm.findClass own = some m.cls) (hcls : Bundle.fit cls = true) (hnames : ∀ n ∈ names, Bundle.fit n = true)
    (hk : (Cond.classLink own ik cls).before args s = true) (hini : (Cond.initialized cls).before args s = true) (hat : ∀ w ∈ vx_at0 own ic cls names, w.before args s = true)
    (hgood : ∀ w ∈ Cond.classLink own ik cls :: Cond.initialized cls :: vx_at0 own ic cls names, vx_ot w = true)
    (hU : vx_Zq Bundle.tN "UNASSIGNED_STACK" Bundle.steD A s s.heap) (hN : vx_Zq Bundle.tN "SUPPRESSED_SENTINEL" Bundle.listD A s s.heap) (hS : va_S A s.heap H locs) (hsize : ls.size = c.maxLocals)
    (d0 : decode cc pc = .ok (.new ik, 3)) (d3 : decode cc (pc + 3) = .ok (.dup, 1)) (d4 : decode cc (pc + 4) = .ok (.invokespecial ic, 3)) (d7 : decode cc (pc + 7) = .ok (.athrow, 1))
    (hout : ∀ x ∈ c.exceptionTable.toList, covers x (pc + 7) = false)
    (hRframes : names.length + 3 < R.frames) (hRlocals : (rest.map fun v => v.category).sum + (13 * (names.length + 1) + 42) ≤ R.locals) (hRcells : cells + 1 ≤ R.cells) (hRslots : slots + 6 ≤ R.slots) (hlocks : meth.locks = false)
    (hx : ∀ t : State, s.vm.Alike t.vm → H.size ≤ t.heap.size → (∀ q : Nat, q < H.size → t.heap[q]? = H[q]?) → XC cls s t)
    (hf : ∀ z ∈ locs, free z.base) (hc : cells + 1 ≤ mc) (hs : slots + 6 ≤ ms) :
    W p l e R s m args below meth c H locs cells slots (vx_MQ below Qc XC args s mc ms free) (F0 m pc ls rest) := by
  intro T hT X
  have htr : e.platform.stackTraces = false := (show e.platform.stackTraces = l.stackTraces by rw [X.admits.platform]).trans hl
  have Y := vx_rebase X (R' := { frames := R.frames, locals := R.locals, cells := 1, slots := 6 }) (Nat.le_refl _) (Nat.le_refl _) hRcells hRslots
  obtain ⟨s', hA⟩ : ∃ z, z = (T.setVm s.vm).setFrames (.invoking m args :: below) := ⟨_, rfl⟩
  rw [← hA] at Y
  have hvm : s'.vm = s.vm := by rw [hA]; rfl
  have hhp : s'.heap = H := by rw [hA]; exact hT
  have hW0 : s.WarmedH s'.vm := by rw [hvm]; exact State.WarmedH.refl s
  have hat' : ∀ w ∈ vx_at0 own ic cls names, w.before args s' = true := fun w hw => vx_ot_at hW0 hvm.symm (hgood w (List.mem_cons_of_mem _ (List.mem_cons_of_mem _ hw))) (hat w hw)
  have hk' : (Cond.classLink own ik cls).before args s' = true := vx_ot_at hW0 hvm.symm (hgood _ List.mem_cons_self) hk
  have hini' : (Cond.initialized cls).before args s' = true := vx_ot_at hW0 hvm.symm (hgood _ (List.mem_cons_of_mem _ List.mem_cons_self)) hini
  have hU' : vx_Zq Bundle.tN "UNASSIGNED_STACK" Bundle.steD A s' s'.heap := by rw [hhp]; exact vx_Zq.moved hW0.alike (hU.kept hS.2.1)
  have hN' : vx_Zq Bundle.tN "SUPPRESSED_SENTINEL" Bundle.listD A s' s'.heap := by rw [hhp]; exact vx_Zq.moved hW0.alike (hN.kept hS.2.1)
  have h : ∀ w ∈ Bundle.ownAtoms0 own ic cls names, w.before args s' = true := vx_own hat' (vx_isRefq hU'.1) (vx_isRefq hN'.1) hU'.2.word hN'.2.word
  have hown' : s'.vm.findClass own = some m.cls := by rw [hvm]; exact hown
  have hins : (Cond.instantiable cls 6).before args s' = true := h _ (by simp [Bundle.ownAtoms0])
  obtain ⟨vm₁, cX, kX, hfX, hkX, -, -, X₁, st1⟩ := Y.newCold hexec (own := own) (C := cls) (index := ik) (n := 6) hown' hk' hins hini'
    (g := F0 m pc ls rest) rfl (by rw [hb]; exact d0) (Nat.le_refl _) (Nat.le_refl _)
  generalize hT1 : (T.setVm vm₁).pushCell { cls := cX, slots := kX.instanceTypes.map defaultValue, vm := .none } = T1 at X₁ st1
  have hcat : (Value.ref T.heap.size).category = 1 := rfl
  have hcellA : T1.heap[T.heap.size]? = some (freshCell cX kX) := by rw [← hT1]; exact State.heap_pushCell_size _ _
  have d3' : decode c.code (pc + 3) = .ok (.dup, 1) := by rw [hb]; exact d3
  obtain ⟨U, hsteps, hrun, hend, hW, hsame, ce, hce, hO⟩ := X₁.ctorThrow0 hexec htr (own := own) (cls := cls) (names := names) (ic := ic) hown' hcls hnames h (fun x hx => nomatch hx) hfX hkX hcellA (by rw [hhp, hT]; exact Nat.le_refl _)
    (g := { method := m, pc := pc + 4, locals := ls, stack := .ref T.heap.size :: .ref T.heap.size :: rest, locked := none }) rfl hsize rfl rfl (rest := rest) rfl
    (by rw [hb]; exact d4) (by rw [hb]; exact d7) hout hRframes (by simp only [List.map_cons, List.sum_cons, hcat]; omega) hlocks
  obtain ⟨f1, f2⟩ := vx_frame hsame
  rw [hhp] at f1 f2
  have hWs : s.WarmedH U.vm := State.WarmedH.trans hW0 hW
  have hcl : s.vm.findClass cls = some ce.cls := by
    have h9 := hO.cls
    rw [hvm] at h9
    exact h9
  have hall : s.sameButNew ({ U with vm := s.vm } : State) locs mc ms := by
    subst hA
    obtain ⟨e1, e2⟩ := hsame
    rw [State.setFrames_setFrames] at e1
    have h2 : (T.setVm s.vm).sameButNew ({ U with vm := s.vm } : State) [] (0 + 1) (0 + 6) := ⟨e1, e2⟩
    have h3 := X.same.trans h2
    rw [List.append_nil] at h3
    exact h3.mono hc hs
  refine ⟨U, ?_, .threw T.heap.size, hrun, hend, Or.inr ⟨T.heap.size, rfl, cls, ce, locs, hx U hWs.alike f1 (fun q hq => f2 q hq (fun z hz => nomatch hz)), hce, hO.vm, hcl, hWs, hall, hf⟩⟩
  refine st1 _ ?_
  show Steps p.tables e below (T1.setTop { method := m, pc := pc + 3, locals := ls, stack := .ref T.heap.size :: rest, locked := none }) _
  jvm_step X₁.here [X₁.here.top, hexec, d3', Value.category]
  exact hsteps
/-- 'throw new E("text")': new; dup; ldc; invokespecial; athrow -/
theorem vx_throwS {cc : ByteArray} {pc : Nat} (hexec : p.tables.exec = Jvm.exec) (hb : c.code = cc) (hl : l.stackTraces = false) {own cls text : String} {names : List String} {ik is ic mc ms sa : Nat} {A : Nat → Prop}
    (hown : s.vm.findClass own = some m.cls) (hcls : Bundle.fit cls = true) (hnames : ∀ n ∈ names, Bundle.fit n = true)
    (hk : (Cond.classLink own ik cls).before args s = true) (hini : (Cond.initialized cls).before args s = true) (hstr : vk_R own is text sa s) (hat : ∀ w ∈ vx_atS own ic cls names, w.before args s = true)
    (hgood : ∀ w ∈ Cond.classLink own ik cls :: Cond.initialized cls :: vx_atS own ic cls names, vx_ot w = true)
    (hU : vx_Zq Bundle.tN "UNASSIGNED_STACK" Bundle.steD A s s.heap) (hN : vx_Zq Bundle.tN "SUPPRESSED_SENTINEL" Bundle.listD A s s.heap) (hS : va_S A s.heap H locs) (hsize : ls.size = c.maxLocals)
    (d0 : decode cc pc = .ok (.new ik, 3)) (d3 : decode cc (pc + 3) = .ok (.dup, 1)) (d4 : decode cc (pc + 4) = .ok (.ldc is, 2)) (d6 : decode cc (pc + 6) = .ok (.invokespecial ic, 3)) (d9 : decode cc (pc + 9) = .ok (.athrow, 1))
    (hout : ∀ x ∈ c.exceptionTable.toList, covers x (pc + 9) = false)
    (hRframes : names.length + 3 < R.frames) (hRlocals : (rest.map fun v => v.category).sum + (13 * (names.length + 1) + 43) ≤ R.locals) (hRcells : cells + 1 ≤ R.cells) (hRslots : slots + 6 ≤ R.slots) (hlocks : meth.locks = false)
    (hx : ∀ t : State, s.vm.Alike t.vm → H.size ≤ t.heap.size → (∀ q : Nat, q < H.size → t.heap[q]? = H[q]?) → XC cls s t)
    (hf : ∀ z ∈ locs, free z.base) (hc : cells + 1 ≤ mc) (hs : slots + 6 ≤ ms) :
    W p l e R s m args below meth c H locs cells slots (vx_MQ below Qc XC args s mc ms free) (F0 m pc ls rest) := by
  intro T hT X
  have htr : e.platform.stackTraces = false := (show e.platform.stackTraces = l.stackTraces by rw [X.admits.platform]).trans hl
  have Y := vx_rebase X (R' := { frames := R.frames, locals := R.locals, cells := 1, slots := 6 }) (Nat.le_refl _) (Nat.le_refl _) hRcells hRslots
  obtain ⟨s', hA⟩ : ∃ z, z = (T.setVm s.vm).setFrames (.invoking m args :: below) := ⟨_, rfl⟩
  rw [← hA] at Y
  have hvm : s'.vm = s.vm := by rw [hA]; rfl
  have hhp : s'.heap = H := by rw [hA]; exact hT
  have hW0 : s.WarmedH s'.vm := by rw [hvm]; exact State.WarmedH.refl s
  have hat' : ∀ w ∈ vx_atS own ic cls names, w.before args s' = true := fun w hw => vx_ot_at hW0 hvm.symm (hgood w (List.mem_cons_of_mem _ (List.mem_cons_of_mem _ hw))) (hat w hw)
  have hk' : (Cond.classLink own ik cls).before args s' = true := vx_ot_at hW0 hvm.symm (hgood _ List.mem_cons_self) hk
  have hini' : (Cond.initialized cls).before args s' = true := vx_ot_at hW0 hvm.symm (hgood _ (List.mem_cons_of_mem _ List.mem_cons_self)) hini
  have hU' : vx_Zq Bundle.tN "UNASSIGNED_STACK" Bundle.steD A s' s'.heap := by rw [hhp]; exact vx_Zq.moved hW0.alike (hU.kept hS.2.1)
  have hN' : vx_Zq Bundle.tN "SUPPRESSED_SENTINEL" Bundle.listD A s' s'.heap := by rw [hhp]; exact vx_Zq.moved hW0.alike (hN.kept hS.2.1)
  have h : ∀ w ∈ Bundle.ownAtoms own ic cls names, w.before args s' = true := vx_own hat' (vx_isRefq hU'.1) (vx_isRefq hN'.1) hU'.2.word hN'.2.word
  have hown' : s'.vm.findClass own = some m.cls := by rw [hvm]; exact hown
  have hins : (Cond.instantiable cls 6).before args s' = true := h _ (by simp [Bundle.ownAtoms])
  obtain ⟨vm₁, cX, kX, hfX, hkX, -, -, X₁, st1⟩ := Y.newCold hexec (own := own) (C := cls) (index := ik) (n := 6) hown' hk' hins hini'
    (g := F0 m pc ls rest) rfl (by rw [hb]; exact d0) (Nat.le_refl _) (Nat.le_refl _)
  generalize hT1 : (T.setVm vm₁).pushCell { cls := cX, slots := kX.instanceTypes.map defaultValue, vm := .none } = T1 at X₁ st1
  have hcat : (Value.ref T.heap.size).category = 1 := rfl
  have hcellA : T1.heap[T.heap.size]? = some (freshCell cX kX) := by rw [← hT1]; exact State.heap_pushCell_size _ _
  have d3' : decode c.code (pc + 3) = .ok (.dup, 1) := by rw [hb]; exact d3
  have d4' : decode c.code (pc + 4) = .ok (.ldc is, 2) := by rw [hb]; exact d4
  have hstr' : vk_R own is text sa s' := vk_R.warm hW0 hstr
  obtain ⟨U, hsteps, hrun, hend, hW, hsame, ce, hce, hO⟩ := X₁.ctorThrowS hexec htr (own := own) (cls := cls) (names := names) (ic := ic) hown' hcls hnames h (fun x hx => nomatch hx) hfX hkX hcellA (by rw [hhp, hT]; exact Nat.le_refl _) (msg := .ref sa) rfl
    (g := { method := m, pc := pc + 6, locals := ls, stack := .ref sa :: .ref T.heap.size :: .ref T.heap.size :: rest, locked := none }) rfl hsize rfl rfl (rest := rest) rfl
    (by rw [hb]; exact d6) (by rw [hb]; exact d9) hout hRframes (by simp only [List.map_cons, List.sum_cons, hcat]; omega) hlocks
  obtain ⟨f1, f2⟩ := vx_frame hsame
  rw [hhp] at f1 f2
  have hWs : s.WarmedH U.vm := State.WarmedH.trans hW0 hW
  have hcl : s.vm.findClass cls = some ce.cls := by
    have h9 := hO.cls
    rw [hvm] at h9
    exact h9
  have hall : s.sameButNew ({ U with vm := s.vm } : State) locs mc ms := by
    subst hA
    obtain ⟨e1, e2⟩ := hsame
    rw [State.setFrames_setFrames] at e1
    have h2 : (T.setVm s.vm).sameButNew ({ U with vm := s.vm } : State) [] (0 + 1) (0 + 6) := ⟨e1, e2⟩
    have h3 := X.same.trans h2
    rw [List.append_nil] at h3
    exact h3.mono hc hs
  refine ⟨U, ?_, .threw T.heap.size, hrun, hend, Or.inr ⟨T.heap.size, rfl, cls, ce, locs, hx U hWs.alike f1 (fun q hq => f2 q hq (fun z hz => nomatch hz)), hce, hO.vm, hcl, hWs, hall, hf⟩⟩
  refine st1 _ ?_
  show Steps p.tables e below (T1.setTop { method := m, pc := pc + 3, locals := ls, stack := .ref T.heap.size :: rest, locked := none }) _
  jvm_step X₁.here [X₁.here.top, hexec, d3', Value.category]
  exact X₁.ldcString hexec (own := own) (text := text) (index := is) (a := sa) hown' hstr'.1 hstr'.2
    (g := { method := m, pc := pc + 4, locals := ls, stack := .ref T.heap.size :: .ref T.heap.size :: rest, locked := none }) rfl d4' _ hsteps
/-- 'throw new E("text")', the text by a wide index -/
theorem vx_throwSW {cc : ByteArray} {pc : Nat} (hexec : p.tables.exec = Jvm.exec) (hb : c.code = cc) (hl : l.stackTraces = false) {own cls text : String} {names : List String} {ik is ic mc ms sa : Nat} {A : Nat → Prop}
    (hown : s.vm.findClass own = some m.cls) (hcls : Bundle.fit cls = true) (hnames : ∀ n ∈ names, Bundle.fit n = true)
    (hk : (Cond.classLink own ik cls).before args s = true) (hini : (Cond.initialized cls).before args s = true) (hstr : vk_R own is text sa s) (hat : ∀ w ∈ vx_atS own ic cls names, w.before args s = true)
    (hgood : ∀ w ∈ Cond.classLink own ik cls :: Cond.initialized cls :: vx_atS own ic cls names, vx_ot w = true)
    (hU : vx_Zq Bundle.tN "UNASSIGNED_STACK" Bundle.steD A s s.heap) (hN : vx_Zq Bundle.tN "SUPPRESSED_SENTINEL" Bundle.listD A s s.heap) (hS : va_S A s.heap H locs) (hsize : ls.size = c.maxLocals)
    (d0 : decode cc pc = .ok (.new ik, 3)) (d3 : decode cc (pc + 3) = .ok (.dup, 1)) (d4 : decode cc (pc + 4) = .ok (.ldc_w is, 3)) (d7 : decode cc (pc + 7) = .ok (.invokespecial ic, 3)) (d10 : decode cc (pc + 10) = .ok (.athrow, 1))
    (hout : ∀ x ∈ c.exceptionTable.toList, covers x (pc + 10) = false)
    (hRframes : names.length + 3 < R.frames) (hRlocals : (rest.map fun v => v.category).sum + (13 * (names.length + 1) + 43) ≤ R.locals) (hRcells : cells + 1 ≤ R.cells) (hRslots : slots + 6 ≤ R.slots) (hlocks : meth.locks = false)
    (hx : ∀ t : State, s.vm.Alike t.vm → H.size ≤ t.heap.size → (∀ q : Nat, q < H.size → t.heap[q]? = H[q]?) → XC cls s t)
    (hf : ∀ z ∈ locs, free z.base) (hc : cells + 1 ≤ mc) (hs : slots + 6 ≤ ms) :
    W p l e R s m args below meth c H locs cells slots (vx_MQ below Qc XC args s mc ms free) (F0 m pc ls rest) := by
  intro T hT X
  have htr : e.platform.stackTraces = false := (show e.platform.stackTraces = l.stackTraces by rw [X.admits.platform]).trans hl
  have Y := vx_rebase X (R' := { frames := R.frames, locals := R.locals, cells := 1, slots := 6 }) (Nat.le_refl _) (Nat.le_refl _) hRcells hRslots
  obtain ⟨s', hA⟩ : ∃ z, z = (T.setVm s.vm).setFrames (.invoking m args :: below) := ⟨_, rfl⟩
  rw [← hA] at Y
  have hvm : s'.vm = s.vm := by rw [hA]; rfl
  have hhp : s'.heap = H := by rw [hA]; exact hT
  have hW0 : s.WarmedH s'.vm := by rw [hvm]; exact State.WarmedH.refl s
  have hat' : ∀ w ∈ vx_atS own ic cls names, w.before args s' = true := fun w hw => vx_ot_at hW0 hvm.symm (hgood w (List.mem_cons_of_mem _ (List.mem_cons_of_mem _ hw))) (hat w hw)
  have hk' : (Cond.classLink own ik cls).before args s' = true := vx_ot_at hW0 hvm.symm (hgood _ List.mem_cons_self) hk
  have hini' : (Cond.initialized cls).before args s' = true := vx_ot_at hW0 hvm.symm (hgood _ (List.mem_cons_of_mem _ List.mem_cons_self)) hini
  have hU' : vx_Zq Bundle.tN "UNASSIGNED_STACK" Bundle.steD A s' s'.heap := by rw [hhp]; exact vx_Zq.moved hW0.alike (hU.kept hS.2.1)
  have hN' : vx_Zq Bundle.tN "SUPPRESSED_SENTINEL" Bundle.listD A s' s'.heap := by rw [hhp]; exact vx_Zq.moved hW0.alike (hN.kept hS.2.1)
  have h : ∀ w ∈ Bundle.ownAtoms own ic cls names, w.before args s' = true := vx_own hat' (vx_isRefq hU'.1) (vx_isRefq hN'.1) hU'.2.word hN'.2.word
  have hown' : s'.vm.findClass own = some m.cls := by rw [hvm]; exact hown
  have hins : (Cond.instantiable cls 6).before args s' = true := h _ (by simp [Bundle.ownAtoms])
  obtain ⟨vm₁, cX, kX, hfX, hkX, -, -, X₁, st1⟩ := Y.newCold hexec (own := own) (C := cls) (index := ik) (n := 6) hown' hk' hins hini'
    (g := F0 m pc ls rest) rfl (by rw [hb]; exact d0) (Nat.le_refl _) (Nat.le_refl _)
  generalize hT1 : (T.setVm vm₁).pushCell { cls := cX, slots := kX.instanceTypes.map defaultValue, vm := .none } = T1 at X₁ st1
  have hcat : (Value.ref T.heap.size).category = 1 := rfl
  have hcellA : T1.heap[T.heap.size]? = some (freshCell cX kX) := by rw [← hT1]; exact State.heap_pushCell_size _ _
  have d3' : decode c.code (pc + 3) = .ok (.dup, 1) := by rw [hb]; exact d3
  have d4' : decode c.code (pc + 4) = .ok (.ldc_w is, 3) := by rw [hb]; exact d4
  have hstr' : vk_R own is text sa s' := vk_R.warm hW0 hstr
  obtain ⟨U, hsteps, hrun, hend, hW, hsame, ce, hce, hO⟩ := X₁.ctorThrowS hexec htr (own := own) (cls := cls) (names := names) (ic := ic) hown' hcls hnames h (fun x hx => nomatch hx) hfX hkX hcellA (by rw [hhp, hT]; exact Nat.le_refl _) (msg := .ref sa) rfl
    (g := { method := m, pc := pc + 7, locals := ls, stack := .ref sa :: .ref T.heap.size :: .ref T.heap.size :: rest, locked := none }) rfl hsize rfl rfl (rest := rest) rfl
    (by rw [hb]; exact d7) (by rw [hb]; exact d10) hout hRframes (by simp only [List.map_cons, List.sum_cons, hcat]; omega) hlocks
  obtain ⟨f1, f2⟩ := vx_frame hsame
  rw [hhp] at f1 f2
  have hWs : s.WarmedH U.vm := State.WarmedH.trans hW0 hW
  have hcl : s.vm.findClass cls = some ce.cls := by
    have h9 := hO.cls
    rw [hvm] at h9
    exact h9
  have hall : s.sameButNew ({ U with vm := s.vm } : State) locs mc ms := by
    subst hA
    obtain ⟨e1, e2⟩ := hsame
    rw [State.setFrames_setFrames] at e1
    have h2 : (T.setVm s.vm).sameButNew ({ U with vm := s.vm } : State) [] (0 + 1) (0 + 6) := ⟨e1, e2⟩
    have h3 := X.same.trans h2
    rw [List.append_nil] at h3
    exact h3.mono hc hs
  refine ⟨U, ?_, .threw T.heap.size, hrun, hend, Or.inr ⟨T.heap.size, rfl, cls, ce, locs, hx U hWs.alike f1 (fun q hq => f2 q hq (fun z hz => nomatch hz)), hce, hO.vm, hcl, hWs, hall, hf⟩⟩
  refine st1 _ ?_
  show Steps p.tables e below (T1.setTop { method := m, pc := pc + 3, locals := ls, stack := .ref T.heap.size :: rest, locked := none }) _
  jvm_step X₁.here [X₁.here.top, hexec, d3', Value.category]
  exact X₁.ldcStringW hexec (own := own) (text := text) (index := is) (a := sa) hown' hstr'.1 hstr'.2
    (g := { method := m, pc := pc + 4, locals := ls, stack := .ref T.heap.size :: .ref T.heap.size :: rest, locked := none }) rfl d4' _ hsteps
end Ends
section Bodies
variable {l : Launch}
theorem vx_ofW {y : MethodName} {ws ws' : List Cond} {rm : Room} {Pc : Array Value → State → Prop} {Qc : Array Value → State → Outcome → State → Prop} {XC : String → State → State → Prop} {mc ms : Nat} {free : Addr → Prop} {cc : ByteArray} {maxL : Nat} {ret : Option FieldType}
    (hy : plainName y.cls = true) (hw : ws = Cond.code y cc maxL ret :: ws')
    (body : ∀ p e s m args below meth c s₁, BodyLoose p l y (headSpec ws rm) cc maxL ret e s m args below meth c s₁ → c.maxLocals = maxL → (∀ x ∈ c.exceptionTable.toList, False) → Pc args s →
      W p l e (headSpec ws rm).room s m args below meth c s.heap [] 0 0 (vx_MQ below Qc XC args s mc ms free) (entryFrame m args maxL)) : vx_Met l y ws rm Pc Qc XC mc ms free := by
  refine MetFree.of_bodyS (code := cc) (maxLocals := maxL) (ret := ret) hy ?_ ?_
  · intro args s m h hn
    obtain ⟨meth, c, h1, h2, h3, h4, h5, h6, -, -⟩ := Cond.code_spec hn (atoms_spec (ws := ws) h _ (by rw [hw]; exact List.mem_cons_self))
    exact ⟨meth, c, h1, h2, h3, h4, h5, h6⟩
  · intro p e s m args below meth c s₁ B hml hP _
    have hh0 : s₁.heap = s.heap := by rw [B.state]; rfl
    have ht : ∀ x ∈ c.exceptionTable.toList, False := by
      obtain ⟨meth9, c9, h1, h2, -, -, -, -, h7, -⟩ := Cond.code_spec B.named (atoms_spec (ws := ws) B.pre _ (by rw [hw]; exact List.mem_cons_self))
      cases Option.some.inj (h1.symm.trans B.method)
      cases Option.some.inj (h2.symm.trans (Stand.of_body B).code)
      intro x hx
      rw [Array.isEmpty_iff.mp h7] at hx
      cases hx
    obtain ⟨t, a1, o, b1, b2, b3⟩ := body p e s m args below meth c s₁ B hml ht hP s₁ hh0 (Stand.of_body B)
    exact ⟨t, o, a1, b1, b2, b3⟩
/-- the table of a body with handlers -/
theorem vx_table {p : Program} {x y : MethodName} {S : Spec} {cc bytes : ByteArray} {maxL maxL' : Nat} {ret ret' : Option FieldType} {e : Env} {s s₁ : State} {m : MethodId} {args : Array Value} {below : List Frame} {meth : Method} {c : Code} {hh : List (Nat × Nat × Nat × Nat)}
    (B : BodyLoose p l y S cc maxL ret e s m args below meth c s₁) (h : (Cond.codeWith y bytes maxL' ret' hh).before args s = true) : c.exceptionTable.toList = tableOf hh := by
  obtain ⟨m9, meth9, c9, hn9, h1, h2, -, -, h6, -⟩ := Cond.codeWith_spec h
  cases Option.some.inj (hn9.symm.trans B.named)
  cases Option.some.inj (h1.symm.trans B.method)
  cases Option.some.inj (h2.symm.trans (Stand.of_body B).code)
  rw [← h6, table_eq]
end Bodies
end VXA
/-! ===== END ===== -/
/-! ===== BEGIN a static call of a method with an exception table ===== -/
section VXS
variable {p : Program} {l : Launch} {e : Env} {R : Room} {s : State} {m : MethodId} {args : Array Value} {below : List Frame} {meth : Method} {c : Code} {T : State} {H : Heap} {locs : List Loc} {cells slots : Nat}
abbrev vx_CSW (R : Room) (s : State) (args : Array Value) (own : String) (index : Nat) (y : MethodName) (bytes : ByteArray) (maxL : Nat) (ret : Option FieldType) (hh : List (Nat × Nat × Nat × Nat)) (ws : List Cond) (rm : Room) (mc ms n : Nat) : Prop :=
  (rm.cells = mc ∧ rm.slots = ms ∧ rm.frames + 1 ≤ R.frames ∧ 8 + (maxL + 11) + rm.locals ≤ R.locals ∧ (∀ w ∈ ws, ∀ (a' : Array Value) (U : State), s.WarmedH U.vm → w.before a' U = true) ∧ Cond.codeWith y bytes maxL ret hh ∈ ws) ∧
  (Cond.codeWith y bytes maxL ret hh).before args s = true ∧ (Cond.initialized y.cls).before args s = true ∧ (y.cls ≠ "java/lang/invoke/MethodHandle" ∧ y.cls ≠ "java/lang/invoke/VarHandle") ∧
  (∀ sig, parseMethodDescriptor y.desc = some sig → n = sig.parameters.length) ∧ (Cond.methodLink own index y).before args s = true ∧ (Cond.static y).before args s = true
theorem vx_cwSW {own : String} {index maxL mc ms : Nat} {y : MethodName} {bytes : ByteArray} {ret : Option FieldType} {hh : List (Nat × Nat × Nat × Nat)} {Ts ws ws' : List Cond} {rm : Room} (n : Nat) (ht : ∀ w ∈ Ts, w.before args s = true) (hT : GoodIn Ts (va_wsS own index y ws)) (hw : ws = Cond.codeWith y bytes maxL ret hh :: ws') (hrc : rm.cells = mc) (hrs : rm.slots = ms)
    (hd : y.cls ≠ "java/lang/invoke/MethodHandle" ∧ y.cls ≠ "java/lang/invoke/VarHandle" ∧ (parseMethodDescriptor y.desc).map (fun d => d.parameters.length) = some n) (hR : rm.frames + 1 ≤ R.frames ∧ 8 + (maxL + 11) + rm.locals ≤ R.locals) :
    vx_CSW R s args own index y bytes maxL ret hh ws rm mc ms n := by
  have ok : ∀ w ∈ va_wsS own index y ws, w.before args s = true := fun w h => ht w (hT w h).1
  have hG : GoodIn Ts ws := fun w h => hT w (by unfold va_wsS; exact List.mem_append_right _ h)
  have hc : Cond.codeWith y bytes maxL ret hh ∈ ws := by rw [hw]; exact List.mem_cons_self
  refine ⟨⟨hrc, hrs, hR.1, hR.2, pay_in ht hG, hc⟩, ht _ (hG _ hc).1, ok _ (by simp [va_wsS]), ⟨hd.1, hd.2.1⟩, fun sig h => ?_, ok _ (by simp [va_wsS]), ok _ (by simp [va_wsS])⟩
  have h2 := hd.2.2
  rw [h] at h2
  exact (Option.some.inj h2).symm
theorem vx_callSW (X : Stand p l e R s m args below meth c T locs cells slots) (hexec : p.tables.exec = Jvm.exec) {own : String} {index : Nat} {y : MethodName} {bytes : ByteArray} {maxL : Nat} {ret : Option FieldType} {hh : List (Nat × Nat × Nat × Nat)}
    (hown : s.vm.findClass own = some m.cls) (hlink : (Cond.methodLink own index y).before args s = true) (hstat : (Cond.static y).before args s = true) (hinit : (Cond.initialized y.cls).before args s = true)
    (hcode : (Cond.codeWith y bytes maxL ret hh).before args s = true) (hy : y.cls ≠ "java/lang/invoke/MethodHandle" ∧ y.cls ≠ "java/lang/invoke/VarHandle")
    {W9 : Nat} {Pre : Pt → Array Value → Prop} {Post : Pt → Array Value → Option Value → Pt → Prop} (hK : Back l R p e below s args y 3 W9 Pre Post)
    {g : JFrame} (hg : g.method = m) (hsize : g.locals.size = c.maxLocals) {argsL rest : List Value} (hlen : ∀ sig, parseMethodDescriptor y.desc = some sig → argsL.length = sig.parameters.length)
    (hstack : g.stack = argsL.reverse ++ rest) (hW : 2 * g.monitorRoom + (rest.map fun v => v.category).sum ≤ W9) (hdg : decode c.code g.pc = .ok (.invokestatic index, 3))
    (hpre : ∀ vm₁, s.WarmedH vm₁ → Pre ⟨T.setVm vm₁, locs, cells, slots⟩ argsL.toArray) :
    ∃ (v : Option Value) (vm₁ : Vm) (B : Pt), s.WarmedH vm₁ ∧ Stand p l e R s m args below meth c B.U B.locs B.cells B.slots ∧ Post ⟨T.setVm vm₁, locs, cells, slots⟩ argsL.toArray v B ∧
      ∀ target, Steps p.tables e below (B.U.setTop { g with pc := g.pc + 3, stack := v.toList ++ rest }) target → Steps p.tables e below (T.setTop g) target := by
  obtain ⟨mk, methM, cM, hnamed, hmethM, -, -, -, -, -, -, hsigM⟩ := Cond.codeWith_spec hcode
  have hstatic : methM.isStatic = true := Cond.static_spec hnamed hmethM hstat
  obtain ⟨kP, hkP, -⟩ := className_of_methodNamed hnamed
  have hinitP : kP.init = .initialized := Cond.initialized_spec (findClass_of_methodNamed hnamed) hkP hinit
  obtain ⟨vm₁, X₁, hstep₁⟩ := X.invokestatic hexec hown hlink hnamed hmethM hstatic hkP hinitP hy (g := g) hg (argsL := argsL) (rest := rest) (hlen _ hsigM) hstack hdg
  obtain ⟨v, B, X', hpost, hsteps⟩ := hK m meth c ⟨T.setVm vm₁, locs, cells, slots⟩ { g with stack := rest } (.invokestatic index) mk argsL.toArray X₁ hg hsize hdg hW (X₁.named hnamed) (hpre vm₁ X₁.warmed)
  exact ⟨v, vm₁, B, X₁.warmed, X', hpost, fun target h => hstep₁ _ fun acts => by rw [doInvoke_state]; exact hsteps.trans h⟩
theorem vx_runSW {y : MethodName} {bytes cc : ByteArray} {maxL nL mc ms n index : Nat} {ret : Option FieldType} {hh : List (Nat × Nat × Nat × Nat)} {ws : List Cond} {rm : Room} {Pc : Array Value → State → Prop} {Qc : Array Value → State → Outcome → State → Prop} {free : Addr → Prop} {Ts : List Cond} {own : String} {As rest : List Value} {g : JFrame}
    (S : CallFix p m c cc nL s args Ts own) (hM : Met l y ws rm Pc Qc mc ms free) (cw : vx_CSW R s args own index y bytes maxL ret hh ws rm mc ms n) (hp : PreS s H Pc As)
    (hg : g.method = m) (hn : As.length = n) (hsize : g.locals.size = nL) (hstack : g.stack = As.reverse ++ rest) (hW : 2 * g.monitorRoom + (rest.map fun v => v.category).sum ≤ 8) (hdg : decode cc g.pc = .ok (.invokestatic index, 3)) (hf : cells + mc ≤ R.cells ∧ slots + ms ≤ R.slots) :
    va_Run p l e R s m args below meth c H locs cells slots mc ms g rest (Qc As.toArray) (free) := by
  obtain ⟨⟨hrc, hrs, hfr, hlo, hws, hcw⟩, hcode, hini, hy, hlen, hl, hstt⟩ := cw
  have hK : Back l R p e below s args y 3 8 (PreOf R mc ms Pc) (PostOf Qc mc ms free) := va_backW (hh := hh) (bytes := bytes) (maxL := maxL) (ret := ret) hM hp.1 hrc hrs hfr hlo hws hcw (fun a' U hW => word_at hW (Or.inl (by first | rfl | simp [Cond.onTables, Cond.keeps, Cond.steady])) hini)
  obtain ⟨hx, hb, hml, ho, -⟩ := S
  intro T hT X
  obtain ⟨v, vm₁, ⟨U', l2, c2, s2⟩, hW₁, X', ⟨g', mk, t, L, e1, e2, hq, h1, hL, h2, h3⟩, st⟩ := vx_callSW X hx (hh := hh) (bytes := bytes) (maxL := maxL) (ret := ret) ho hl hstt hini hcode hy hK hg (hsize.trans hml.symm) (argsL := As) (rest := rest) (fun sig h => hn.trans (hlen sig h)) hstack hW (by rw [hb]; exact hdg)
    (fun vm₁ hW₁ => ⟨hf.1, hf.2, hp.2 (T.setVm vm₁) hT hW₁⟩)
  dsimp only [Pt.U, Pt.locs, Pt.cells, Pt.slots] at X' e1 e2 h1 h2 h3 st
  subst h1; subst h2; subst h3
  exact ⟨v, (T.setVm vm₁).calling g' mk As.toArray, t, U', L, hT, X', hL, e1, e2, hq, st⟩
/-- not caught here, past rows that name other classes: it goes on to the caller -/
theorem vx_outP {p : Program} {l : Launch} {e : Env} {R : Room} {s : State} {m : MethodId} {args : Array Value} {below : List Frame} {meth : Method} {c : Code} {H : Heap} {locs : List Loc} {cells slots : Nat} {free : Addr → Prop} {ls : Array Slot} {rest : List Value} {Qc : Array Value → State → Outcome → State → Prop} {XC : String → State → State → Prop}
    {pc : Nat} {own E : String} {ce : Cell} {q : Addr} {mc ms : Nat} (hown : s.vm.findClass own = some m.cls) (hlocks : meth.locks = false)
    (hpass : ∀ z ∈ c.exceptionTable.toList, covers z pc = false ∨ (z.catchType ≠ 0 ∧ ∃ nm : String, (Cond.classLink own z.catchType nm).before args s = true ∧ va_Nc E nm s)) (hcell : H[q]? = some ce) (hv : ce.vm = .none) (hcl : s.vm.findClass E = some ce.cls)
    (hx : ∀ t : State, t.heap = H → s.vm.Alike t.vm → XC E s t) (hf : ∀ z ∈ locs, free z.base) (hc : cells ≤ mc) (hs : slots ≤ ms) :
    vx_W p l e R s m args below meth c H locs cells slots (vx_MQ below Qc XC args s mc ms free) (F0 m pc ls rest) q := by
  intro T hT X
  have hpl : e.platform.magicAccessors = ({} : Platform).magicAccessors := by rw [X.admits.platform]
  obtain ⟨vm', hW', X', st⟩ := X.outThrough hlocks q (g := F0 m pc ls rest) rfl rfl rfl (cell := ce) (by rw [hT]; exact hcell) (by rw [hv]; rfl)
    (by obtain ⟨k9, h9, -⟩ := Vm.findClass_spec hcl; exact ⟨k9, h9⟩) (fun z hz => by
      rcases hpass z hz with h | ⟨hz0, nm, hl1, hn1⟩
      · exact Or.inl h
      · obtain ⟨c6, hc6, hcl6⟩ := Cond.classLink_spec hown hl1 e.platform hpl
        obtain ⟨a8, b8, h1, h2, h3⟩ := hn1
        cases Option.some.inj (h1.symm.trans hcl)
        cases Option.some.inj (h2.symm.trans hc6)
        exact Or.inr ⟨hz0, _, hcl6, h3⟩)
  obtain ⟨g₀, hfr⟩ := X'.frames_eq
  have hcell9 : ((T.setVm vm').setFrames (.throwing q :: below)).heap[q]? = some ce := by
    show T.heap[q]? = some ce
    rw [hT]; exact hcell
  have hend : Ended ((T.setVm vm').setFrames (.throwing q :: below)) below (.threw q) := State.frames_setFrames _ (State.cur_lt_of_frames hfr)
  refine ⟨(T.setVm vm').setFrames (.throwing q :: below), ?_, .threw q, X'.here.running, hend, Or.inr ⟨q, rfl, E, ce, locs, hx _ hT (X'.ends _).1.alike, hcell9, hv, hcl, (X'.ends _).1, (X'.ends _).2.mono hc hs, hf⟩⟩
  rw [X.pushThrowing_eq]
  exact st
/-- a thing of a world lies in the heap -/
theorem vx_lt {D : va_G} {cl : List vw_C} {ws : va_W} {H1 : Heap} (h : va_P D cl ws H1) {k : Nat} {q : Nat × va_E} (hk : ws[k]? = some q) : q.1 < H1.size := (h k q hk).lt
end VXS
/-! ===== END ===== -/
/-! ===== BEGIN methods with a table of their own: called by a name, returning or throwing ===== -/
section VXH
/-! vx_backW, vx_callVX, vx_callSX, vx_callVW, vx_runVW, vx_runVX, vx_runSX, vx_ofWH follow the same proofs as their sisters above (Free/Laws.lean, Shelf42/LK1.lean); vx_outP calls Shelf42/NT130.lean (outThrough). -/
section
variable {l : Launch} {R : Room} {p : Program} {e : Env} {below : List Frame} {s : State} {sargs : Array Value} {y : MethodName} {len W9 : Nat}
theorem vx_backW {ws : List Cond} {rm : Room} {Pc : Array Value → State → Prop} {Qc : Array Value → State → Outcome → State → Prop} {XC : String → State → State → Prop} {mc ms : Nat} {free : Addr → Prop} {bytes : ByteArray} {maxL : Nat} {ret : Option FieldType} {hh : List (Nat × Nat × Nat × Nat)}
    (hM : vx_Met l y ws rm Pc Qc XC mc ms free) (hblind : FrameBlind Pc) (hrc : rm.cells = mc) (hrs : rm.slots = ms)
    (hframes : rm.frames + 1 ≤ R.frames) (hlocals : W9 + (maxL + 11) + rm.locals ≤ R.locals)
    (hws : ∀ w ∈ ws, ∀ a' U, s.WarmedH U.vm → w.before a' U = true) (hcode : Cond.codeWith y bytes maxL ret hh ∈ ws) (hinit : ∀ a' U, s.WarmedH U.vm → (Cond.initialized y.cls).before a' U = true) :
    vx_Back l R p e below s sargs y len W9 (PreOf R mc ms Pc) (PostOf Qc mc ms free) (vx_Post XC mc ms free) := by
  intro m meth c A g ig mk a X hg hsize hdg hW hn hp
  have h1 : (headSpec ws rm).pre.before a A.U = true := atoms_intro fun w hw => hws w hw _ _ X.warmed
  have h2 : (Cond.codeWith y bytes maxL ret hh).before a A.U = true := hws _ hcode _ _ X.warmed
  have h3 : (Cond.initialized y.cls).before a A.U = true := hinit _ _ X.warmed
  have h4 : A.cells + (headSpec ws rm).room.cells ≤ R.cells := by rw [show (headSpec ws rm).room.cells = mc from hrc]; exact hp.1
  have h5 : A.slots + (headSpec ws rm).room.slots ≤ R.slots := by rw [show (headSpec ws rm).room.slots = ms from hrs]; exact hp.2.1
  have hPc : Pc a (A.U.calling g mk a) := hblind _ _ _ _ hp.2.2
  obtain ⟨U, Ls, c0, s0⟩ := A
  dsimp only [Pt.U, Pt.locs, Pt.cells, Pt.slots] at h1 h2 h3 h4 h5 X hn hPc ⊢
  obtain ⟨m9, methY, cY, hn9, hmY, hcY, -, hlY, -⟩ := Cond.codeWith_spec h2
  cases Option.some.inj (hn9.symm.trans hn)
  obtain ⟨kY, hkY, -⟩ := className_of_methodNamed hn
  have hinitY : kY.init = .initialized := Cond.initialized_spec (findClass_of_methodNamed hn) hkY h3
  have h : At U g.method c below := by rw [hg]; exact X.here
  have hlocals9 : W9 + (maxL + 11) + (headSpec ws rm).room.locals ≤ R.locals := hlocals
  have happ : (headSpec ws rm).appliesLoose y e.platform (U.calling g mk a) = true :=
    Spec.appliesLoose_calling (g := g) h hdg hn hkY hinitY
      (X.room_calling (g := g) (R' := (headSpec ws rm).room) hsize hmY hcY hframes (by rw [hlY]; omega) h4 h5) h1
  obtain ⟨mid, hmid⟩ := h.above
  have hfr : (U.setTop g).frames = (.java g :: mid) ++ below := by rw [State.frames_setTop' g h.top, hmid]; rfl
  obtain ⟨o, s₂, hsteps, -, hend, hq⟩ := Steps.callFree hM p X.admits X.cas X.clock (acts := []) hfr happ hPc trivial
  have hq' : vx_Q Qc XC mc ms free a (U.calling g mk a) o s₂ := hq
  rw [State.frames_setTop' g h.top] at hend
  obtain ⟨g₀, hg0⟩ := Option.isSome_iff_exists.mp h.top
  obtain ⟨r, hr⟩ := State.topJava?_eq_some.mp hg0
  have hr' : (({ U with heap := s₂.heap, slotsUsed := s₂.slotsUsed } : State).setVm s₂.vm).frames = .java g₀ :: r := hr
  rcases hq' with ⟨hqc, L, hfe, hL⟩ | ⟨q, rfl, E, ce, L, hx, hce, hcv, hcl, hW₂, hsm, hL⟩
  · obtain ⟨⟨v, rfl⟩, hW₂, e2, q2, q3, q4, q5, q6⟩ := id hfe
    have e3 : s₂ = ({ (U.calling g mk a).setFrames s₂.frames with heap := s₂.heap, slotsUsed := s₂.slotsUsed } : State).setVm s₂.vm := by
      have : s₂ = ({ s₂ with vm := (U.calling g mk a).vm } : State).setVm s₂.vm := rfl
      rw [e2] at this
      exact this
    obtain ⟨c₂, i₂, len₂, hc₂, hd₂, hf₂⟩ := hend
    have hW' : U.WarmedH s₂.vm := hW₂
    have hcc : c₂ = c := by
      have h1 : s₂.code? g.method = U.code? g.method := by
        rw [State.code?_eq, State.code?_eq, hW'.alike.method?]
      exact Option.some.inj (hc₂.symm.trans (h1.trans h.code))
    subst hcc
    have hlen : len₂ = len := by rw [hdg] at hd₂; cases hd₂; rfl
    subst hlen
    have hs₂ : s₂ = (({ U with heap := s₂.heap, slotsUsed := s₂.slotsUsed } : State).setVm s₂.vm).setTop { g with pc := g.pc + len₂, stack := v.toList ++ g.stack } := by
      refine e3.trans ?_
      rw [hf₂, State.calling_eq h.top, State.setFrames_setFrames, State.setTop_of_frames _ hr', hr]
      rfl
    have hsame : U.sameButNew ({ U with heap := s₂.heap, slotsUsed := s₂.slotsUsed } : State) L mc ms := by
      refine ⟨?_, q2, q3, q4, q5, q6⟩
      obtain ⟨t, ht, -⟩ := State.frames_cons hr
      show ({ U with heap := s₂.heap, slotsUsed := s₂.slotsUsed } : State) = { U.setFrames U.frames with heap := s₂.heap, slotsUsed := s₂.slotsUsed }
      rw [State.setFrames_self ht]
    subst hg
    refine Or.inl ⟨v, ⟨(({ U with heap := s₂.heap, slotsUsed := s₂.slotsUsed } : State).setVm s₂.vm), Ls ++ L, c0 + mc, s0 + ms⟩,
      ⟨X.admits, X.cas, X.clock, X.frames, X.room, X.hears, X.method, X.code, (X.here.setHeapUsed s₂.heap s₂.slotsUsed).setVm hW'.alike, X.tail, State.WarmedH.trans X.warmed hW', X.limits, X.bytes, X.same.trans (hsame.setVm s.vm)⟩,
      ⟨g, mk, s₂, L, rfl, rfl, hqc, rfl, hL, rfl, rfl⟩, ?_⟩
    show Steps p.tables e below _ ((({ U with heap := s₂.heap, slotsUsed := s₂.slotsUsed } : State).setVm s₂.vm).setTop { g with pc := g.pc + len₂, stack := v.toList ++ g.stack })
    rw [← hs₂]
    exact hsteps
  · obtain ⟨e2, q2, q3, q4, q5, q6⟩ := id hsm
    have e3 : s₂ = ({ (U.calling g mk a).setFrames s₂.frames with heap := s₂.heap, slotsUsed := s₂.slotsUsed } : State).setVm s₂.vm := by
      have : s₂ = ({ s₂ with vm := (U.calling g mk a).vm } : State).setVm s₂.vm := rfl
      rw [e2] at this
      exact this
    have hf₂ : s₂.frames = .throwing q :: .java g :: U.frames.tail := hend
    have hW' : U.WarmedH s₂.vm := hW₂
    have hs₂ : s₂ = ((({ U with heap := s₂.heap, slotsUsed := s₂.slotsUsed } : State).setVm s₂.vm).setTop g).pushFrame (.throwing q) := by
      refine e3.trans ?_
      rw [hf₂, State.calling_eq h.top, State.setFrames_setFrames, State.pushFrame, State.frames_setTop _ hr', State.setTop_of_frames _ hr', State.setFrames_setFrames, hr]
      rfl
    have hsame : U.sameButNew ({ U with heap := s₂.heap, slotsUsed := s₂.slotsUsed } : State) L mc ms := by
      refine ⟨?_, q2, q3, q4, q5, q6⟩
      obtain ⟨t, ht, -⟩ := State.frames_cons hr
      show ({ U with heap := s₂.heap, slotsUsed := s₂.slotsUsed } : State) = { U.setFrames U.frames with heap := s₂.heap, slotsUsed := s₂.slotsUsed }
      rw [State.setFrames_self ht]
    subst hg
    refine Or.inr ⟨q, ⟨(({ U with heap := s₂.heap, slotsUsed := s₂.slotsUsed } : State).setVm s₂.vm), Ls ++ L, c0 + mc, s0 + ms⟩,
      ⟨X.admits, X.cas, X.clock, X.frames, X.room, X.hears, X.method, X.code, (X.here.setHeapUsed s₂.heap s₂.slotsUsed).setVm hW'.alike, X.tail, State.WarmedH.trans X.warmed hW', X.limits, X.bytes, X.same.trans (hsame.setVm s.vm)⟩,
      ⟨g, mk, s₂, L, E, ce, rfl, rfl, hx, hce, hcv, hcl, rfl, hL, rfl, rfl⟩, ?_⟩
    show Steps p.tables e below _ (((({ U with heap := s₂.heap, slotsUsed := s₂.slotsUsed } : State).setVm s₂.vm).setTop g).pushFrame (.throwing q))
    rw [← hs₂]
    exact hsteps
end
variable {p : Program} {l : Launch} {e : Env} {R : Room} {s : State} {m : MethodId} {args : Array Value} {below : List Frame} {meth : Method} {c : Code} {T : State} {H : Heap} {locs : List Loc} {cells slots : Nat}
theorem vx_callVX (X : Stand p l e R s m args below meth c T locs cells slots) (hexec : p.tables.exec = Jvm.exec) {own C : String} {index : Nat} {y : MethodName} {bytes : ByteArray} {maxL : Nat} {ret : Option FieldType} {hh : List (Nat × Nat × Nat × Nat)}
    (hown : s.vm.findClass own = some m.cls) (hlink : (Cond.methodLink own index y).before args s = true) (hinst : (Cond.instanceMethod y).before args s = true) (hsel : (Cond.selects C y y).before args s = true)
    (hcode : (Cond.codeWith y bytes maxL ret hh).before args s = true) (hy : y.cls ≠ "java/lang/invoke/MethodHandle" ∧ y.cls ≠ "java/lang/invoke/VarHandle")
    {W9 : Nat} {Pre : Pt → Array Value → Prop} {Post : Pt → Array Value → Option Value → Pt → Prop} {PostX : Pt → Array Value → Addr → Pt → Prop} (hK : vx_Back l R p e below s args y 3 W9 Pre Post PostX)
    {b : Addr} {cellB : Cell} (hcell : T.heap[b]? = some cellB) (hobj : cellB.vm.isStatics = false) (hcls : s.vm.findClass C = some cellB.cls)
    {g : JFrame} (hg : g.method = m) (hsize : g.locals.size = c.maxLocals) {argsL rest : List Value} (hlen : ∀ sig, parseMethodDescriptor y.desc = some sig → argsL.length = sig.parameters.length)
    (hstack : g.stack = argsL.reverse ++ .ref b :: rest) (hW : 2 * g.monitorRoom + (rest.map fun v => v.category).sum ≤ W9) (hdg : decode c.code g.pc = .ok (.invokevirtual index, 3))
    (hpre : ∀ vm₁, s.WarmedH vm₁ → Pre ⟨T.setVm vm₁, locs, cells, slots⟩ (Value.ref b :: argsL).toArray) :
    (∃ (v : Option Value) (vm₁ : Vm) (B : Pt), s.WarmedH vm₁ ∧ Stand p l e R s m args below meth c B.U B.locs B.cells B.slots ∧ Post ⟨T.setVm vm₁, locs, cells, slots⟩ (Value.ref b :: argsL).toArray v B ∧
      ∀ target, Steps p.tables e below (B.U.setTop { g with pc := g.pc + 3, stack := v.toList ++ rest }) target → Steps p.tables e below (T.setTop g) target) ∨
    (∃ (q : Addr) (vm₁ : Vm) (B : Pt), s.WarmedH vm₁ ∧ Stand p l e R s m args below meth c B.U B.locs B.cells B.slots ∧ PostX ⟨T.setVm vm₁, locs, cells, slots⟩ (Value.ref b :: argsL).toArray q B ∧
      Steps p.tables e below (T.setTop g) ((B.U.setTop { g with stack := rest }).pushFrame (.throwing q))) := by
  obtain ⟨mk, methM, hnamed, hmethM, hstM, habM⟩ := Cond.instanceMethod_spec hinst
  obtain ⟨m8, methM', cM, hn8, hmethM', -, -, -, -, -, -, hsigM⟩ := Cond.codeWith_spec hcode
  cases Option.some.inj (hn8.symm.trans hnamed)
  cases hmethM.symm.trans hmethM'
  obtain ⟨c2, r2, m2, q1, q2, q3, q4, kP, hkP, hkPi⟩ := Cond.selects_spec hsel
  cases hcls.symm.trans q1
  cases (State.methodFound?_of_named hnamed hy).symm.trans q2
  cases hnamed.symm.trans q3
  have hselP : selectMethod e.platform s.vm cellB.cls mk = .method mk := by rw [Launch.admits_selectMethod X.admits]; exact q4
  obtain ⟨vm₁, X₁, hstep₁⟩ := X.invokevirtual hexec hown hlink hnamed hmethM hstM hkP hkPi hy (a := b) (cell := cellB) hcell
    (fun z h => by rw [h] at hobj; cases hobj) hselP hmethM habM hkP hkPi (g := g) hg (argsL := argsL) (rest := rest) (hlen _ hsigM) hstack hdg
  rcases hK m meth c ⟨T.setVm vm₁, locs, cells, slots⟩ { g with stack := rest } (.invokevirtual index) mk (Value.ref b :: argsL).toArray X₁ hg hsize hdg hW (X₁.named hnamed) (hpre vm₁ X₁.warmed) with ⟨v, B, X', hpost, hsteps⟩ | ⟨q, B, X', hpost, hsteps⟩
  · exact Or.inl ⟨v, vm₁, B, X₁.warmed, X', hpost, fun target h => hstep₁ _ fun acts => by rw [doInvoke_state]; exact hsteps.trans h⟩
  · exact Or.inr ⟨q, vm₁, B, X₁.warmed, X', hpost, hstep₁ _ fun acts => by rw [doInvoke_state]; exact hsteps⟩
theorem vx_callSX (X : Stand p l e R s m args below meth c T locs cells slots) (hexec : p.tables.exec = Jvm.exec) {own : String} {index : Nat} {y : MethodName} {bytes : ByteArray} {maxL : Nat} {ret : Option FieldType} {hh : List (Nat × Nat × Nat × Nat)}
    (hown : s.vm.findClass own = some m.cls) (hlink : (Cond.methodLink own index y).before args s = true) (hstat : (Cond.static y).before args s = true) (hinit : (Cond.initialized y.cls).before args s = true)
    (hcode : (Cond.codeWith y bytes maxL ret hh).before args s = true) (hy : y.cls ≠ "java/lang/invoke/MethodHandle" ∧ y.cls ≠ "java/lang/invoke/VarHandle")
    {W9 : Nat} {Pre : Pt → Array Value → Prop} {Post : Pt → Array Value → Option Value → Pt → Prop} {PostX : Pt → Array Value → Addr → Pt → Prop} (hK : vx_Back l R p e below s args y 3 W9 Pre Post PostX)
    {g : JFrame} (hg : g.method = m) (hsize : g.locals.size = c.maxLocals) {argsL rest : List Value} (hlen : ∀ sig, parseMethodDescriptor y.desc = some sig → argsL.length = sig.parameters.length)
    (hstack : g.stack = argsL.reverse ++ rest) (hW : 2 * g.monitorRoom + (rest.map fun v => v.category).sum ≤ W9) (hdg : decode c.code g.pc = .ok (.invokestatic index, 3))
    (hpre : ∀ vm₁, s.WarmedH vm₁ → Pre ⟨T.setVm vm₁, locs, cells, slots⟩ argsL.toArray) :
    (∃ (v : Option Value) (vm₁ : Vm) (B : Pt), s.WarmedH vm₁ ∧ Stand p l e R s m args below meth c B.U B.locs B.cells B.slots ∧ Post ⟨T.setVm vm₁, locs, cells, slots⟩ argsL.toArray v B ∧
      ∀ target, Steps p.tables e below (B.U.setTop { g with pc := g.pc + 3, stack := v.toList ++ rest }) target → Steps p.tables e below (T.setTop g) target) ∨
    (∃ (q : Addr) (vm₁ : Vm) (B : Pt), s.WarmedH vm₁ ∧ Stand p l e R s m args below meth c B.U B.locs B.cells B.slots ∧ PostX ⟨T.setVm vm₁, locs, cells, slots⟩ argsL.toArray q B ∧
      Steps p.tables e below (T.setTop g) ((B.U.setTop { g with stack := rest }).pushFrame (.throwing q))) := by
  obtain ⟨mk, methM, cM, hnamed, hmethM, -, -, -, -, -, -, hsigM⟩ := Cond.codeWith_spec hcode
  have hstatic : methM.isStatic = true := Cond.static_spec hnamed hmethM hstat
  obtain ⟨kP, hkP, -⟩ := className_of_methodNamed hnamed
  have hinitP : kP.init = .initialized := Cond.initialized_spec (findClass_of_methodNamed hnamed) hkP hinit
  obtain ⟨vm₁, X₁, hstep₁⟩ := X.invokestatic hexec hown hlink hnamed hmethM hstatic hkP hinitP hy (g := g) hg (argsL := argsL) (rest := rest) (hlen _ hsigM) hstack hdg
  rcases hK m meth c ⟨T.setVm vm₁, locs, cells, slots⟩ { g with stack := rest } (.invokestatic index) mk argsL.toArray X₁ hg hsize hdg hW (X₁.named hnamed) (hpre vm₁ X₁.warmed) with ⟨v, B, X', hpost, hsteps⟩ | ⟨q, B, X', hpost, hsteps⟩
  · exact Or.inl ⟨v, vm₁, B, X₁.warmed, X', hpost, fun target h => hstep₁ _ fun acts => by rw [doInvoke_state]; exact hsteps.trans h⟩
  · exact Or.inr ⟨q, vm₁, B, X₁.warmed, X', hpost, hstep₁ _ fun acts => by rw [doInvoke_state]; exact hsteps⟩
theorem vx_callVW (X : Stand p l e R s m args below meth c T locs cells slots) (hexec : p.tables.exec = Jvm.exec) {own C : String} {index : Nat} {y : MethodName} {bytes : ByteArray} {maxL : Nat} {ret : Option FieldType} {hh : List (Nat × Nat × Nat × Nat)}
    (hown : s.vm.findClass own = some m.cls) (hlink : (Cond.methodLink own index y).before args s = true) (hinst : (Cond.instanceMethod y).before args s = true) (hsel : (Cond.selects C y y).before args s = true)
    (hcode : (Cond.codeWith y bytes maxL ret hh).before args s = true) (hy : y.cls ≠ "java/lang/invoke/MethodHandle" ∧ y.cls ≠ "java/lang/invoke/VarHandle")
    {W9 : Nat} {Pre : Pt → Array Value → Prop} {Post : Pt → Array Value → Option Value → Pt → Prop} (hK : Back l R p e below s args y 3 W9 Pre Post)
    {b : Addr} {cellB : Cell} (hcell : T.heap[b]? = some cellB) (hobj : cellB.vm.isStatics = false) (hcls : s.vm.findClass C = some cellB.cls)
    {g : JFrame} (hg : g.method = m) (hsize : g.locals.size = c.maxLocals) {argsL rest : List Value} (hlen : ∀ sig, parseMethodDescriptor y.desc = some sig → argsL.length = sig.parameters.length)
    (hstack : g.stack = argsL.reverse ++ .ref b :: rest) (hW : 2 * g.monitorRoom + (rest.map fun v => v.category).sum ≤ W9) (hdg : decode c.code g.pc = .ok (.invokevirtual index, 3))
    (hpre : ∀ vm₁, s.WarmedH vm₁ → Pre ⟨T.setVm vm₁, locs, cells, slots⟩ (Value.ref b :: argsL).toArray) :
    ∃ (v : Option Value) (vm₁ : Vm) (B : Pt), s.WarmedH vm₁ ∧ Stand p l e R s m args below meth c B.U B.locs B.cells B.slots ∧ Post ⟨T.setVm vm₁, locs, cells, slots⟩ (Value.ref b :: argsL).toArray v B ∧
      ∀ target, Steps p.tables e below (B.U.setTop { g with pc := g.pc + 3, stack := v.toList ++ rest }) target → Steps p.tables e below (T.setTop g) target := by
  obtain ⟨mk, methM, hnamed, hmethM, hstM, habM⟩ := Cond.instanceMethod_spec hinst
  obtain ⟨m8, methM', cM, hn8, hmethM', -, -, -, -, -, -, hsigM⟩ := Cond.codeWith_spec hcode
  cases Option.some.inj (hn8.symm.trans hnamed)
  cases hmethM.symm.trans hmethM'
  obtain ⟨c2, r2, m2, q1, q2, q3, q4, kP, hkP, hkPi⟩ := Cond.selects_spec hsel
  cases hcls.symm.trans q1
  cases (State.methodFound?_of_named hnamed hy).symm.trans q2
  cases hnamed.symm.trans q3
  have hselP : selectMethod e.platform s.vm cellB.cls mk = .method mk := by rw [Launch.admits_selectMethod X.admits]; exact q4
  obtain ⟨vm₁, X₁, hstep₁⟩ := X.invokevirtual hexec hown hlink hnamed hmethM hstM hkP hkPi hy (a := b) (cell := cellB) hcell
    (fun z h => by rw [h] at hobj; cases hobj) hselP hmethM habM hkP hkPi (g := g) hg (argsL := argsL) (rest := rest) (hlen _ hsigM) hstack hdg
  obtain ⟨v, B, X', hpost, hsteps⟩ := hK m meth c ⟨T.setVm vm₁, locs, cells, slots⟩ { g with stack := rest } (.invokevirtual index) mk (Value.ref b :: argsL).toArray X₁ hg hsize hdg hW (X₁.named hnamed) (hpre vm₁ X₁.warmed)
  exact ⟨v, vm₁, B, X₁.warmed, X', hpost, fun target h => hstep₁ _ fun acts => by rw [doInvoke_state]; exact hsteps.trans h⟩
abbrev vx_CVW (R : Room) (s : State) (args : Array Value) (own C : String) (index : Nat) (y : MethodName) (bytes : ByteArray) (maxL : Nat) (ret : Option FieldType) (hh : List (Nat × Nat × Nat × Nat)) (ws : List Cond) (rm : Room) (mc ms n : Nat) : Prop :=
  (rm.cells = mc ∧ rm.slots = ms ∧ rm.frames + 1 ≤ R.frames ∧ 8 + (maxL + 11) + rm.locals ≤ R.locals ∧ (∀ w ∈ ws, ∀ (a' : Array Value) (U : State), s.WarmedH U.vm → w.before a' U = true) ∧ Cond.codeWith y bytes maxL ret hh ∈ ws) ∧
  (Cond.codeWith y bytes maxL ret hh).before args s = true ∧ (Cond.initialized y.cls).before args s = true ∧ (y.cls ≠ "java/lang/invoke/MethodHandle" ∧ y.cls ≠ "java/lang/invoke/VarHandle") ∧
  (∀ sig, parseMethodDescriptor y.desc = some sig → n = sig.parameters.length) ∧ (Cond.methodLink own index y).before args s = true ∧ (Cond.instanceMethod y).before args s = true ∧ (Cond.selects C y y).before args s = true
theorem vx_cwVW {own C : String} {index maxL mc ms : Nat} {y : MethodName} {bytes : ByteArray} {ret : Option FieldType} {hh : List (Nat × Nat × Nat × Nat)} {Ts ws ws' : List Cond} {rm : Room} (n : Nat) (ht : ∀ w ∈ Ts, w.before args s = true) (hT : GoodIn Ts (wsV own index C y ws)) (hw : ws = Cond.codeWith y bytes maxL ret hh :: ws') (hrc : rm.cells = mc) (hrs : rm.slots = ms)
    (hd : y.cls = C ∧ y.cls ≠ "java/lang/invoke/MethodHandle" ∧ y.cls ≠ "java/lang/invoke/VarHandle" ∧ (parseMethodDescriptor y.desc).map (fun d => d.parameters.length) = some n) (hR : rm.frames + 1 ≤ R.frames ∧ 8 + (maxL + 11) + rm.locals ≤ R.locals) :
    vx_CVW R s args own C index y bytes maxL ret hh ws rm mc ms n := by
  obtain ⟨hC, hd⟩ := hd
  subst hC
  have ok : ∀ w ∈ wsV own index y.cls y ws, w.before args s = true := fun w h => ht w (hT w h).1
  have hG : GoodIn Ts ws := fun w h => hT w (by unfold wsV; exact List.mem_append_right _ h)
  have hc : Cond.codeWith y bytes maxL ret hh ∈ ws := by rw [hw]; exact List.mem_cons_self
  refine ⟨⟨hrc, hrs, hR.1, hR.2, pay_in ht hG, hc⟩, ht _ (hG _ hc).1, ok _ (by simp [wsV]), ⟨hd.1, hd.2.1⟩, fun sig h => ?_, ok _ (by simp [wsV]), ok _ (by simp [wsV]), ok _ (by simp [wsV])⟩
  have h2 := hd.2.2
  rw [h] at h2
  exact (Option.some.inj h2).symm
theorem vx_runVW {y : MethodName} {bytes cc : ByteArray} {maxL nL mc ms n index : Nat} {ret : Option FieldType} {hh : List (Nat × Nat × Nat × Nat)} {ws : List Cond} {rm : Room} {Pc : Array Value → State → Prop} {Qc : Array Value → State → Outcome → State → Prop} {free : Addr → Prop} {Ts : List Cond} {own C : String} {b : Addr} {As rest : List Value} {g : JFrame}
    (S : CallFix p m c cc nL s args Ts own) (hM : Met l y ws rm Pc Qc mc ms free) (cw : vx_CVW R s args own C index y bytes maxL ret hh ws rm mc ms n) (hp : PreV s H C b Pc As)
    (hg : g.method = m) (hn : As.length = n) (hsize : g.locals.size = nL) (hstack : g.stack = As.reverse ++ .ref b :: rest) (hW : 2 * g.monitorRoom + (rest.map fun v => v.category).sum ≤ 8) (hdg : decode cc g.pc = .ok (.invokevirtual index, 3)) (hf : cells + mc ≤ R.cells ∧ slots + ms ≤ R.slots) :
    va_Run p l e R s m args below meth c H locs cells slots mc ms g rest (Qc (Value.ref b :: As).toArray) free := by
  obtain ⟨⟨hrc, hrs, hfr, hlo, hws, hcw⟩, hcode, hini, hy, hlen, hl, hin, hse⟩ := cw
  have hK : Back l R p e below s args y 3 8 (PreOf R mc ms Pc) (PostOf Qc mc ms free) := va_backW (hh := hh) (bytes := bytes) (maxL := maxL) (ret := ret) hM hp.1 hrc hrs hfr hlo hws hcw (fun a' U hW => word_at hW (Or.inl (by first | rfl | simp [Cond.onTables, Cond.keeps, Cond.steady])) hini)
  obtain ⟨hx, hb, hml, ho, -⟩ := S
  obtain ⟨-, ⟨cellB, hcB, hoB, hclB⟩, hPc⟩ := hp
  intro T hT X
  obtain ⟨v, vm₁, ⟨U', l2, c2, s2⟩, hW₁, X', ⟨g', mk, t, L, e1, e2, hq, h1, hL, h2, h3⟩, st⟩ := vx_callVW X hx (C := C) (hh := hh) (bytes := bytes) (maxL := maxL) (ret := ret) ho hl hin hse hcode hy hK (by rw [hT]; exact hcB) hoB hclB hg (hsize.trans hml.symm) (argsL := As) (rest := rest) (fun sig h => hn.trans (hlen sig h)) hstack hW (by rw [hb]; exact hdg)
    (fun vm₁ hW₁ => ⟨hf.1, hf.2, hPc (T.setVm vm₁) hT hW₁⟩)
  dsimp only [Pt.U, Pt.locs, Pt.cells, Pt.slots] at X' e1 e2 h1 h2 h3 st
  subst h1; subst h2; subst h3
  exact ⟨v, (T.setVm vm₁).calling g' mk (Value.ref b :: As).toArray, t, U', L, hT, X', hL, e1, e2, hq, st⟩
section
variable {y : MethodName} {bytes cc : ByteArray} {maxL nL mc ms n index : Nat} {ret : Option FieldType} {ws : List Cond} {rm : Room} {Pc : Array Value → State → Prop} {Qc : Array Value → State → Outcome → State → Prop} {XC : String → State → State → Prop} {free : Addr → Prop} {Ts : List Cond} {own C : String} {b : Addr} {As rest : List Value} {g : JFrame}
theorem vx_runVX {hh : List (Nat × Nat × Nat × Nat)} (S : CallFix p m c cc nL s args Ts own) (hM : vx_Met l y ws rm Pc Qc XC mc ms free) (cw : vx_CVW R s args own C index y bytes maxL ret hh ws rm mc ms n) (hp : PreV s H C b Pc As)
    (hg : g.method = m) (hn : As.length = n) (hsize : g.locals.size = nL) (hstack : g.stack = As.reverse ++ .ref b :: rest) (hW : 2 * g.monitorRoom + (rest.map fun v => v.category).sum ≤ 8) (hdg : decode cc g.pc = .ok (.invokevirtual index, 3)) (hf : cells + mc ≤ R.cells ∧ slots + ms ≤ R.slots) :
    vx_Run p l e R s m args below meth c H locs cells slots mc ms g rest (Qc (Value.ref b :: As).toArray) XC free := by
  obtain ⟨⟨hrc, hrs, hfr, hlo, hws, hcw⟩, hcode, hini, hy, hlen, hl, hin, hse⟩ := cw
  have hK : vx_Back l R p e below s args y 3 8 (PreOf R mc ms Pc) (PostOf Qc mc ms free) (vx_Post XC mc ms free) := vx_backW (hh := hh) (bytes := bytes) (maxL := maxL) (ret := ret) hM hp.1 hrc hrs hfr hlo hws hcw (fun a' U hW => word_at hW (Or.inl (by first | rfl | simp [Cond.onTables, Cond.keeps, Cond.steady])) hini)
  obtain ⟨hx, hb, hml, ho, -⟩ := S
  obtain ⟨-, ⟨cellB, hcB, hoB, hclB⟩, hPc⟩ := hp
  intro T hT X
  rcases vx_callVX X hx (C := C) (hh := hh) (bytes := bytes) (maxL := maxL) (ret := ret) ho hl hin hse hcode hy hK (by rw [hT]; exact hcB) hoB hclB hg (hsize.trans hml.symm) (argsL := As) (rest := rest) (fun sig h => hn.trans (hlen sig h)) hstack hW (by rw [hb]; exact hdg)
    (fun vm₁ hW₁ => ⟨hf.1, hf.2, hPc (T.setVm vm₁) hT hW₁⟩) with ⟨v, vm₁, ⟨U', l2, c2, s2⟩, hW₁, X', ⟨g', mk, t, L, e1, e2, hq, h1, hL, h2, h3⟩, st⟩ | ⟨q, vm₁, ⟨U', l2, c2, s2⟩, hW₁, X', ⟨g', mk, t, L, E, ce, e1, e2, hq, hce, hcv, hcl, h1, hL, h2, h3⟩, st⟩
  · dsimp only [Pt.U, Pt.locs, Pt.cells, Pt.slots] at X' e1 e2 h1 h2 h3 st
    subst h1; subst h2; subst h3
    exact Or.inl ⟨v, (T.setVm vm₁).calling g' mk (Value.ref b :: As).toArray, t, U', L, hT, X', hL, e1, e2, hq, st⟩
  · dsimp only [Pt.U, Pt.locs, Pt.cells, Pt.slots] at X' e1 e2 h1 h2 h3 st hcl
    subst h1; subst h2; subst h3
    exact Or.inr ⟨q, (T.setVm vm₁).calling g' mk (Value.ref b :: As).toArray, t, U', L, E, ce, hT, X', hL, e1, e2, hq, hce, hcv, vx_cls hW₁ hcl, st⟩
theorem vx_runSX {hh : List (Nat × Nat × Nat × Nat)} (S : CallFix p m c cc nL s args Ts own) (hM : vx_Met l y ws rm Pc Qc XC mc ms free) (cw : vx_CSW R s args own index y bytes maxL ret hh ws rm mc ms n) (hp : PreS s H Pc As)
    (hg : g.method = m) (hn : As.length = n) (hsize : g.locals.size = nL) (hstack : g.stack = As.reverse ++ rest) (hW : 2 * g.monitorRoom + (rest.map fun v => v.category).sum ≤ 8) (hdg : decode cc g.pc = .ok (.invokestatic index, 3)) (hf : cells + mc ≤ R.cells ∧ slots + ms ≤ R.slots) :
    vx_Run p l e R s m args below meth c H locs cells slots mc ms g rest (Qc As.toArray) XC free := by
  obtain ⟨⟨hrc, hrs, hfr, hlo, hws, hcw⟩, hcode, hini, hy, hlen, hl, hstt⟩ := cw
  have hK : vx_Back l R p e below s args y 3 8 (PreOf R mc ms Pc) (PostOf Qc mc ms free) (vx_Post XC mc ms free) := vx_backW (hh := hh) (bytes := bytes) (maxL := maxL) (ret := ret) hM hp.1 hrc hrs hfr hlo hws hcw (fun a' U hW => word_at hW (Or.inl (by first | rfl | simp [Cond.onTables, Cond.keeps, Cond.steady])) hini)
  obtain ⟨hx, hb, hml, ho, -⟩ := S
  intro T hT X
  rcases vx_callSX X hx (hh := hh) (bytes := bytes) (maxL := maxL) (ret := ret) ho hl hstt hini hcode hy hK hg (hsize.trans hml.symm) (argsL := As) (rest := rest) (fun sig h => hn.trans (hlen sig h)) hstack hW (by rw [hb]; exact hdg)
    (fun vm₁ hW₁ => ⟨hf.1, hf.2, hp.2 (T.setVm vm₁) hT hW₁⟩) with ⟨v, vm₁, ⟨U', l2, c2, s2⟩, hW₁, X', ⟨g', mk, t, L, e1, e2, hq, h1, hL, h2, h3⟩, st⟩ | ⟨q, vm₁, ⟨U', l2, c2, s2⟩, hW₁, X', ⟨g', mk, t, L, E, ce, e1, e2, hq, hce, hcv, hcl, h1, hL, h2, h3⟩, st⟩
  · dsimp only [Pt.U, Pt.locs, Pt.cells, Pt.slots] at X' e1 e2 h1 h2 h3 st
    subst h1; subst h2; subst h3
    exact Or.inl ⟨v, (T.setVm vm₁).calling g' mk As.toArray, t, U', L, hT, X', hL, e1, e2, hq, st⟩
  · dsimp only [Pt.U, Pt.locs, Pt.cells, Pt.slots] at X' e1 e2 h1 h2 h3 st hcl
    subst h1; subst h2; subst h3
    exact Or.inr ⟨q, (T.setVm vm₁).calling g' mk As.toArray, t, U', L, E, ce, hT, X', hL, e1, e2, hq, hce, hcv, vx_cls hW₁ hcl, st⟩
end
end VXH
theorem vx_ofWH {l : Launch} {y : MethodName} {ws ws' : List Cond} {rm : Room} {Pc : Array Value → State → Prop} {Qc : Array Value → State → Outcome → State → Prop} {XC : String → State → State → Prop} {mc ms : Nat} {free : Addr → Prop} {cc : ByteArray} {maxL : Nat} {ret : Option FieldType} {hh : List (Nat × Nat × Nat × Nat)}
    (hy : plainName y.cls = true) (hw : ws = Cond.codeWith y cc maxL ret hh :: ws')
    (body : ∀ p e s m args below meth c s₁, BodyLoose p l y (headSpec ws rm) cc maxL ret e s m args below meth c s₁ → c.maxLocals = maxL → Pc args s →
      W p l e (headSpec ws rm).room s m args below meth c s.heap [] 0 0 (vx_MQ below Qc XC args s mc ms free) (entryFrame m args maxL)) : vx_Met l y ws rm Pc Qc XC mc ms free := by
  refine MetFree.of_bodyS (code := cc) (maxLocals := maxL) (ret := ret) hy ?_ ?_
  · intro args s m h hn
    obtain ⟨m9, meth, c, hn9, h1, h2, h3, h4, -, h5, h6, -⟩ := Cond.codeWith_spec (atoms_spec (ws := ws) h _ (by rw [hw]; exact List.mem_cons_self))
    cases hn.symm.trans hn9
    exact ⟨meth, c, h1, h2, h3, h4, h5, h6⟩
  · intro p e s m args below meth c s₁ B hml hP _
    have hh0 : s₁.heap = s.heap := by rw [B.state]; rfl
    obtain ⟨t, a1, o, b1, b2, b3⟩ := body p e s m args below meth c s₁ B hml hP s₁ hh0 (Stand.of_body B)
    exact ⟨t, o, a1, b1, b2, b3⟩
/-! ===== END ===== -/

/-! ===== BEGIN printed: names, fields, word lists, decode rows ===== -/
end
section
/-! NAMES of this class, its reference and the law: written by program (wip/whole/gen/names.py) out of the listing and the tables -/
def xAll : List Cond := lw_tbl.filter goodWord
theorem xa_t (i : Nat) {w : Cond} (h : tables_1[i]? = some w) (hg : goodWord w = true) : w ∈ xAll := List.mem_filter.mpr ⟨List.mem_append_right _ (List.mem_of_getElem? h), hg⟩
theorem xa_s (i : Nat) {w : Cond} (h : (k2_sels lw_privs)[i]? = some w) (hg : goodWord w = true) : w ∈ xAll := List.mem_filter.mpr ⟨List.mem_append_left _ (List.mem_of_getElem? h), hg⟩
theorem xAll_good : ∀ w ∈ xAll, (w.onTables && w.keeps) = true ∨ ∃ ty, w = .arrayClass ty := fun w h => good_of_word (List.mem_filter.mp h).2
theorem xAll_tbl : ∀ w ∈ xAll, w ∈ lw_tbl := fun w h => (List.mem_filter.mp h).1
/-- links to private members of nest mates -/
def xIsN : Cond → Bool
  | .fieldLinkNest .. => true
  | .methodLinkNest .. => true
  | .castable .. => true
  | .declares .. => true
  | .arrayOver (.object _) => true
  | _ => false
def xNw : List Cond := tables_1.filter xIsN
theorem xn_t (i : Nat) {w : Cond} (h : tables_1[i]? = some w) (hg : xIsN w = true) : w ∈ xNw := List.mem_filter.mpr ⟨List.mem_of_getElem? h, hg⟩
theorem xNw_tbl : ∀ w ∈ xNw, w ∈ lw_tbl := fun w h => List.mem_append_right _ (List.mem_filter.mp h).1
theorem xNw_same (w : Cond) (h : w ∈ xNw) {u U : State} (hv : u.vm = U.vm) (hZ : va_Nw w u) : va_Nw w U := by
  have h2 := (List.mem_filter.mp h).2
  cases w with
  | fieldLinkNest => exact va_Nw.same rfl hv hZ
  | methodLinkNest => exact va_Nw.same rfl hv hZ
  | castable => exact va_Nw.same rfl hv hZ
  | declares => exact va_Nw.same rfl hv hZ
  | arrayOver ty => cases ty with
    | object C => exact va_AO.moved (by rw [← hv]; exact Vm.Alike.refl _) hZ
    | _ => cases h2
  | _ => cases h2
theorem xNw_warm (w : Cond) (h : w ∈ xNw) {s U : State} (hW : s.WarmedH U.vm) (hZ : va_Nw w s) : va_Nw w U := by
  have h2 := (List.mem_filter.mp h).2
  cases w with
  | fieldLinkNest => exact va_Nw.warmF hW hZ
  | methodLinkNest => exact va_Nw.warmM hW hZ
  | castable => exact va_Nw.warmC hW hZ
  | declares => exact va_Nw.warmD hW hZ
  | arrayOver ty => cases ty with
    | object C => exact va_AO.moved hW.alike hZ
    | _ => cases h2
  | _ => cases h2
/-- the texts that are thrown -/
def xStr : List (String × Nat × String) := [("CareTours", 78, "no such floor or spot"), ("CareTours", 88, "there are 30 places"), ("CareTours", 103, "no such spot or floors"), ("CareTours", 105, "no such wait or speed"), ("CareTours", 110, "there are 6 lifts"), ("CareTours", 128, "no such place, skill or kind"), ("CareTours", 130, "no such days, hours or work"), ("CareTours", 132, "there are 40 parts"), ("CareTours", 142, "no such skills, home or seconds"), ("CareTours", 144, "there are 8 persons"), ("CareTours", 155, "no such part, day or hours"), ("CareTours", 160, "the day is below one that is known"), ("CareTours", 169, "no such kind or number"), ("CareTours", 171, "no such place"), ("CareTours", 177, "no such person or day"), ("CareTours", 211, "no such stop"), ("CareTours", 233, "nothing of that number is told"), ("CareTours", 235, "no such part"), ("CareTours", 243, "no tour under way, or without the skill"), ("CareTours", 249, "there are 20 stops, or it is one of them"), ("CareTours", 266, "no tour under way, or all stops are done"), ("CareTours", 282, "below 0"), ("CareTours", 287, "no such part or day"), ("CareTours", 290, "no such kind or day")]
def sT (A : Nat → Prop) (U : State) : Prop := (∀ q ∈ xStr, ∃ a, vk_R q.1 q.2.1 q.2.2 a U) ∧ vx_Zq Bundle.tN "UNASSIGNED_STACK" Bundle.steD A U U.heap ∧ vx_Zq Bundle.tN "SUPPRESSED_SENTINEL" Bundle.listD A U U.heap
theorem sT_same {A : Nat → Prop} {u U : State} (hv : U.vm = u.vm) (hh : U.heap = u.heap) (h : sT A u) : sT A U := by
  obtain ⟨h1, h2, h3⟩ := h
  have al : u.vm.Alike U.vm := by rw [hv]; exact Vm.Alike.refl _
  refine ⟨fun q hq => ?_, ?_, ?_⟩
  · obtain ⟨a, ha⟩ := h1 q hq
    exact ⟨a, vk_R.same hv ha⟩
  · rw [hh]; exact vx_Zq.moved al h2
  · rw [hh]; exact vx_Zq.moved al h3
theorem sT_at {A : Nat → Prop} {s U : State} {H : Heap} {locs : List Loc} (h : sT A s) (hS : va_S A s.heap H locs) (hU : U.heap = H) (hW : s.WarmedH U.vm) : sT A U := by
  obtain ⟨h1, h2, h3⟩ := h
  refine ⟨fun q hq => ?_, ?_, ?_⟩
  · obtain ⟨a, ha⟩ := h1 q hq
    exact ⟨a, vk_R.warm hW ha⟩
  · rw [hU]; exact vx_Zq.moved hW.alike (vx_Zq.kept h2 hS.2.1)
  · rw [hU]; exact vx_Zq.moved hW.alike (vx_Zq.kept h3 hS.2.1)
def R_Ho : String := "CareTours$House"
def R_Li : String := "CareTours$Lift"
def R_Pt : String := "CareTours$Part"
def R_Pe : String := "CareTours$Person"
def R_Pl : String := "CareTours$Place"
def R_Pn : String := "CareTours$Planner"
def R_To : String := "CareTours$Tour"
def R_Ct : String := "CareTours"
def R_Mo : String := "CareToursModel"
def R_La : String := "CareToursLaw"
def F_Ho : u_T := fun k => match k with
  | 0 => ("CareTours$House", "places", "[LCareTours$Place;", true)
  | 1 => ("CareTours$House", "lifts", "[LCareTours$Lift;", true)
  | 2 => ("CareTours$House", "placeCount", "I", false)
  | _ => ("CareTours$House", "liftCount", "I", false)
def t_Ho : Nat → FieldType := fun k => match k with
  | 0 => (.array (.object "CareTours$Place"))
  | 1 => (.array (.object "CareTours$Lift"))
  | 2 => .int
  | _ => .int
theorem n_Ho : ∀ a, a < 4 → ∀ b, b < 4 → a ≠ b → (F_Ho a).2.1 ≠ (F_Ho b).2.1 := by decide +kernel
theorem tk_Ho : ∀ k, k < 4 → parseFieldDescriptor (F_Ho k).2.2.1 = some (t_Ho k) := by decide +kernel
theorem in_Ho : ∀ w ∈ u_ws R_Ho F_Ho 4, w ∈ xAll := by decide +kernel
def F_Li : u_T := fun k => match k with
  | 0 => ("CareTours$Lift", "x", "I", true)
  | 1 => ("CareTours$Lift", "y", "I", true)
  | 2 => ("CareTours$Lift", "least", "I", true)
  | 3 => ("CareTours$Lift", "greatest", "I", true)
  | 4 => ("CareTours$Lift", "wait", "I", true)
  | _ => ("CareTours$Lift", "speed", "I", true)
def t_Li : Nat → FieldType := fun k => match k with
  | 0 => .int
  | 1 => .int
  | 2 => .int
  | 3 => .int
  | 4 => .int
  | _ => .int
theorem n_Li : ∀ a, a < 6 → ∀ b, b < 6 → a ≠ b → (F_Li a).2.1 ≠ (F_Li b).2.1 := by decide +kernel
theorem tk_Li : ∀ k, k < 6 → parseFieldDescriptor (F_Li k).2.2.1 = some (t_Li k) := by decide +kernel
theorem in_Li : ∀ w ∈ u_ws R_Li F_Li 6, w ∈ xAll := by decide +kernel
def F_Pt : u_T := fun k => match k with
  | 0 => ("CareTours$Part", "number", "I", true)
  | 1 => ("CareTours$Part", "place", "LCareTours$Place;", true)
  | 2 => ("CareTours$Part", "skill", "I", true)
  | 3 => ("CareTours$Part", "kind", "I", true)
  | 4 => ("CareTours$Part", "every", "I", true)
  | 5 => ("CareTours$Part", "hours", "I", true)
  | 6 => ("CareTours$Part", "work", "I", true)
  | 7 => ("CareTours$Part", "testedDay", "I", false)
  | 8 => ("CareTours$Part", "usedHours", "I", false)
  | 9 => ("CareTours$Part", "lastTold", "I", false)
  | _ => ("CareTours$Part", "wornDay", "I", false)
def t_Pt : Nat → FieldType := fun k => match k with
  | 0 => .int
  | 1 => (.object "CareTours$Place")
  | 2 => .int
  | 3 => .int
  | 4 => .int
  | 5 => .int
  | 6 => .int
  | 7 => .int
  | 8 => .int
  | 9 => .int
  | _ => .int
theorem n_Pt : ∀ a, a < 11 → ∀ b, b < 11 → a ≠ b → (F_Pt a).2.1 ≠ (F_Pt b).2.1 := by decide +kernel
theorem tk_Pt : ∀ k, k < 11 → parseFieldDescriptor (F_Pt k).2.2.1 = some (t_Pt k) := by decide +kernel
theorem in_Pt : ∀ w ∈ u_ws R_Pt F_Pt 11, w ∈ xAll := by decide +kernel
def F_Pe : u_T := fun k => match k with
  | 0 => ("CareTours$Person", "number", "I", true)
  | 1 => ("CareTours$Person", "skills", "I", true)
  | 2 => ("CareTours$Person", "home", "LCareTours$Place;", true)
  | _ => ("CareTours$Person", "seconds", "I", true)
def t_Pe : Nat → FieldType := fun k => match k with
  | 0 => .int
  | 1 => .int
  | 2 => (.object "CareTours$Place")
  | _ => .int
theorem n_Pe : ∀ a, a < 4 → ∀ b, b < 4 → a ≠ b → (F_Pe a).2.1 ≠ (F_Pe b).2.1 := by decide +kernel
theorem tk_Pe : ∀ k, k < 4 → parseFieldDescriptor (F_Pe k).2.2.1 = some (t_Pe k) := by decide +kernel
theorem in_Pe : ∀ w ∈ u_ws R_Pe F_Pe 4, w ∈ xAll := by decide +kernel
def F_Pl : u_T := fun k => match k with
  | 0 => ("CareTours$Place", "floor", "I", true)
  | 1 => ("CareTours$Place", "x", "I", true)
  | _ => ("CareTours$Place", "y", "I", true)
def t_Pl : Nat → FieldType := fun k => match k with
  | 0 => .int
  | 1 => .int
  | _ => .int
theorem n_Pl : ∀ a, a < 3 → ∀ b, b < 3 → a ≠ b → (F_Pl a).2.1 ≠ (F_Pl b).2.1 := by decide +kernel
theorem tk_Pl : ∀ k, k < 3 → parseFieldDescriptor (F_Pl k).2.2.1 = some (t_Pl k) := by decide +kernel
theorem in_Pl : ∀ w ∈ u_ws R_Pl F_Pl 3, w ∈ xAll := by decide +kernel
def F_Pn : u_T := fun k => match k with
  | 0 => ("CareTours$Planner", "chosen", "[LCareTours$Part;", true)
  | 1 => ("CareTours$Planner", "legs", "[I", true)
  | 2 => ("CareTours$Planner", "rest", "[I", true)
  | _ => ("CareTours$Planner", "count", "I", false)
def t_Pn : Nat → FieldType := fun k => match k with
  | 0 => (.array (.object "CareTours$Part"))
  | 1 => (.array .int)
  | 2 => (.array .int)
  | _ => .int
theorem n_Pn : ∀ a, a < 4 → ∀ b, b < 4 → a ≠ b → (F_Pn a).2.1 ≠ (F_Pn b).2.1 := by decide +kernel
theorem tk_Pn : ∀ k, k < 4 → parseFieldDescriptor (F_Pn k).2.2.1 = some (t_Pn k) := by decide +kernel
theorem in_Pn : ∀ w ∈ u_ws R_Pn F_Pn 4, w ∈ xAll := by decide +kernel
def F_To : u_T := fun k => match k with
  | 0 => ("CareTours$Tour", "stops", "[LCareTours$Part;", true)
  | 1 => ("CareTours$Tour", "goer", "LCareTours$Person;", false)
  | 2 => ("CareTours$Tour", "day", "I", false)
  | 3 => ("CareTours$Tour", "count", "I", false)
  | 4 => ("CareTours$Tour", "doneCount", "I", false)
  | 5 => ("CareTours$Tour", "walks", "I", false)
  | _ => ("CareTours$Tour", "work", "I", false)
def t_To : Nat → FieldType := fun k => match k with
  | 0 => (.array (.object "CareTours$Part"))
  | 1 => (.object "CareTours$Person")
  | 2 => .int
  | 3 => .int
  | 4 => .int
  | 5 => .int
  | _ => .int
theorem n_To : ∀ a, a < 7 → ∀ b, b < 7 → a ≠ b → (F_To a).2.1 ≠ (F_To b).2.1 := by decide +kernel
theorem tk_To : ∀ k, k < 7 → parseFieldDescriptor (F_To k).2.2.1 = some (t_To k) := by decide +kernel
theorem in_To : ∀ w ∈ u_ws R_To F_To 7, w ∈ xAll := by decide +kernel
def F_Ct : u_T := fun k => match k with
  | 0 => ("CareTours", "rate", "I", true)
  | 1 => ("CareTours", "house", "LCareTours$House;", true)
  | 2 => ("CareTours", "parts", "[LCareTours$Part;", true)
  | 3 => ("CareTours", "ranked", "[LCareTours$Part;", true)
  | 4 => ("CareTours", "persons", "[LCareTours$Person;", true)
  | 5 => ("CareTours", "spares", "[I", true)
  | 6 => ("CareTours", "planner", "LCareTours$Planner;", true)
  | 7 => ("CareTours", "current", "LCareTours$Tour;", true)
  | 8 => ("CareTours", "partCount", "I", false)
  | _ => ("CareTours", "personCount", "I", false)
def t_Ct : Nat → FieldType := fun k => match k with
  | 0 => .int
  | 1 => (.object "CareTours$House")
  | 2 => (.array (.object "CareTours$Part"))
  | 3 => (.array (.object "CareTours$Part"))
  | 4 => (.array (.object "CareTours$Person"))
  | 5 => (.array .int)
  | 6 => (.object "CareTours$Planner")
  | 7 => (.object "CareTours$Tour")
  | 8 => .int
  | _ => .int
theorem n_Ct : ∀ a, a < 10 → ∀ b, b < 10 → a ≠ b → (F_Ct a).2.1 ≠ (F_Ct b).2.1 := by decide +kernel
theorem tk_Ct : ∀ k, k < 10 → parseFieldDescriptor (F_Ct k).2.2.1 = some (t_Ct k) := by decide +kernel
theorem in_Ct : ∀ w ∈ u_ws R_Ct F_Ct 10, w ∈ xAll := by decide +kernel
def F_Mo : u_T := fun k => match k with
  | 0 => ("CareToursModel", "thrown", "I", false)
  | 1 => ("CareToursModel", "rate", "I", true)
  | 2 => ("CareToursModel", "places", "I", false)
  | 3 => ("CareToursModel", "floor", "[I", true)
  | 4 => ("CareToursModel", "px", "[I", true)
  | 5 => ("CareToursModel", "py", "[I", true)
  | 6 => ("CareToursModel", "lifts", "I", false)
  | 7 => ("CareToursModel", "lx", "[I", true)
  | 8 => ("CareToursModel", "ly", "[I", true)
  | 9 => ("CareToursModel", "least", "[I", true)
  | 10 => ("CareToursModel", "greatest", "[I", true)
  | 11 => ("CareToursModel", "waits", "[I", true)
  | 12 => ("CareToursModel", "speeds", "[I", true)
  | 13 => ("CareToursModel", "parts", "I", false)
  | 14 => ("CareToursModel", "at", "[I", true)
  | 15 => ("CareToursModel", "skill", "[I", true)
  | 16 => ("CareToursModel", "kind", "[I", true)
  | 17 => ("CareToursModel", "every", "[I", true)
  | 18 => ("CareToursModel", "most", "[I", true)
  | 19 => ("CareToursModel", "work", "[I", true)
  | 20 => ("CareToursModel", "tested", "[I", true)
  | 21 => ("CareToursModel", "hours", "[I", true)
  | 22 => ("CareToursModel", "lastTold", "[I", true)
  | 23 => ("CareToursModel", "worn", "[I", true)
  | 24 => ("CareToursModel", "persons", "I", false)
  | 25 => ("CareToursModel", "skills", "[I", true)
  | 26 => ("CareToursModel", "home", "[I", true)
  | 27 => ("CareToursModel", "seconds", "[I", true)
  | 28 => ("CareToursModel", "stock", "[I", true)
  | 29 => ("CareToursModel", "who", "I", false)
  | 30 => ("CareToursModel", "dayOf", "I", false)
  | 31 => ("CareToursModel", "stops", "I", false)
  | 32 => ("CareToursModel", "dones", "I", false)
  | 33 => ("CareToursModel", "stop", "[I", true)
  | 34 => ("CareToursModel", "some", "[I", true)
  | 35 => ("CareToursModel", "order", "[I", true)
  | _ => ("CareToursModel", "best", "[I", true)
def t_Mo : Nat → FieldType := fun k => match k with
  | 0 => .int
  | 1 => .int
  | 2 => .int
  | 3 => (.array .int)
  | 4 => (.array .int)
  | 5 => (.array .int)
  | 6 => .int
  | 7 => (.array .int)
  | 8 => (.array .int)
  | 9 => (.array .int)
  | 10 => (.array .int)
  | 11 => (.array .int)
  | 12 => (.array .int)
  | 13 => .int
  | 14 => (.array .int)
  | 15 => (.array .int)
  | 16 => (.array .int)
  | 17 => (.array .int)
  | 18 => (.array .int)
  | 19 => (.array .int)
  | 20 => (.array .int)
  | 21 => (.array .int)
  | 22 => (.array .int)
  | 23 => (.array .int)
  | 24 => .int
  | 25 => (.array .int)
  | 26 => (.array .int)
  | 27 => (.array .int)
  | 28 => (.array .int)
  | 29 => .int
  | 30 => .int
  | 31 => .int
  | 32 => .int
  | 33 => (.array .int)
  | 34 => (.array .int)
  | 35 => (.array .int)
  | _ => (.array .int)
theorem n_Mo : ∀ a, a < 37 → ∀ b, b < 37 → a ≠ b → (F_Mo a).2.1 ≠ (F_Mo b).2.1 := by decide +kernel
theorem tk_Mo : ∀ k, k < 37 → parseFieldDescriptor (F_Mo k).2.2.1 = some (t_Mo k) := by decide +kernel
theorem in_Mo : ∀ w ∈ u_ws R_Mo F_Mo 37, w ∈ xAll := by decide +kernel
abbrev xCl : List vw_C := [(R_Ho, F_Ho, 4), (R_Li, F_Li, 6), (R_Pt, F_Pt, 11), (R_Pe, F_Pe, 4), (R_Pl, F_Pl, 3), (R_Pn, F_Pn, 4), (R_To, F_To, 7), (R_Ct, F_Ct, 10), (R_Mo, F_Mo, 37)]
abbrev b_Ct_init : ByteArray := prog_1_method_1_code
def y_Ct_init : MethodName := ⟨R_Ct, "<init>", "(I)V"⟩
abbrev b_Ct_place : ByteArray := prog_1_method_2_code
def y_Ct_place : MethodName := ⟨R_Ct, "place", "(III)I"⟩
abbrev b_Ct_lift : ByteArray := prog_1_method_3_code
def y_Ct_lift : MethodName := ⟨R_Ct, "lift", "(IIIIII)I"⟩
abbrev b_Ct_part : ByteArray := prog_1_method_4_code
def y_Ct_part : MethodName := ⟨R_Ct, "part", "(IIIIII)I"⟩
abbrev b_Ct_person : ByteArray := prog_1_method_5_code
def y_Ct_person : MethodName := ⟨R_Ct, "person", "(III)I"⟩
abbrev b_Ct_used : ByteArray := prog_1_method_6_code
def y_Ct_used : MethodName := ⟨R_Ct, "used", "(III)I"⟩
abbrev b_Ct_stock : ByteArray := prog_1_method_7_code
def y_Ct_stock : MethodName := ⟨R_Ct, "stock", "(II)I"⟩
abbrev b_Ct_walk : ByteArray := prog_1_method_8_code
def y_Ct_walk : MethodName := ⟨R_Ct, "walk", "(II)I"⟩
abbrev b_Ct_tour : ByteArray := prog_1_method_9_code
def y_Ct_tour : MethodName := ⟨R_Ct, "tour", "(II)I"⟩
abbrev b_Ct_stop : ByteArray := prog_1_method_10_code
def y_Ct_stop : MethodName := ⟨R_Ct, "stop", "(I)I"⟩
abbrev b_Ct_told : ByteArray := prog_1_method_11_code
def y_Ct_told : MethodName := ⟨R_Ct, "told", "(I)I"⟩
abbrev b_Ct_put : ByteArray := prog_1_method_12_code
def y_Ct_put : MethodName := ⟨R_Ct, "put", "(I)I"⟩
abbrev b_Ct_done : ByteArray := prog_1_method_13_code
def y_Ct_done : MethodName := ⟨R_Ct, "done", "()I"⟩
abbrev b_Ct_due : ByteArray := prog_1_method_14_code
def y_Ct_due : MethodName := ⟨R_Ct, "due", "(I)I"⟩
abbrev b_Ct_late : ByteArray := prog_1_method_15_code
def y_Ct_late : MethodName := ⟨R_Ct, "late", "(I)I"⟩
abbrev b_Ct_fine : ByteArray := prog_1_method_16_code
def y_Ct_fine : MethodName := ⟨R_Ct, "fine", "(II)I"⟩
abbrev b_Ct_wanted : ByteArray := prog_1_method_17_code
def y_Ct_wanted : MethodName := ⟨R_Ct, "wanted", "(II)I"⟩
abbrev b_Ct_within : ByteArray := prog_1_method_18_code
def y_Ct_within : MethodName := ⟨R_Ct, "within", "(III)Z"⟩
abbrev b_Ct_isSpot : ByteArray := prog_1_method_19_code
def y_Ct_isSpot : MethodName := ⟨R_Ct, "isSpot", "(II)Z"⟩
abbrev b_Ct_isDay : ByteArray := prog_1_method_20_code
def y_Ct_isDay : MethodName := ⟨R_Ct, "isDay", "(I)Z"⟩
abbrev b_Ct_isKind : ByteArray := prog_1_method_21_code
def y_Ct_isKind : MethodName := ⟨R_Ct, "isKind", "(I)Z"⟩
abbrev b_Ct_isPart : ByteArray := prog_1_method_22_code
def y_Ct_isPart : MethodName := ⟨R_Ct, "isPart", "(I)Z"⟩
abbrev b_Ct_choose : ByteArray := prog_1_method_23_code
def y_Ct_choose : MethodName := ⟨R_Ct, "choose", "(LCareTours$Person;I)V"⟩
abbrev b_Ct_rankByDueDays : ByteArray := prog_1_method_24_code
def y_Ct_rankByDueDays : MethodName := ⟨R_Ct, "rankByDueDays", "()V"⟩
abbrev b_Mo_init : ByteArray := prog_10_method_1_code
def y_Mo_init : MethodName := ⟨R_Mo, "<init>", "(I)V"⟩
abbrev b_Mo_thrown : ByteArray := prog_10_method_2_code
def y_Mo_thrown : MethodName := ⟨R_Mo, "thrown", "()I"⟩
abbrev b_Mo_in : ByteArray := prog_10_method_3_code
def y_Mo_in : MethodName := ⟨R_Mo, "in", "(III)Z"⟩
abbrev b_Mo_place : ByteArray := prog_10_method_4_code
def y_Mo_place : MethodName := ⟨R_Mo, "place", "(III)I"⟩
abbrev b_Mo_lift : ByteArray := prog_10_method_5_code
def y_Mo_lift : MethodName := ⟨R_Mo, "lift", "(IIIIII)I"⟩
abbrev b_Mo_part : ByteArray := prog_10_method_6_code
def y_Mo_part : MethodName := ⟨R_Mo, "part", "(IIIIII)I"⟩
abbrev b_Mo_person : ByteArray := prog_10_method_7_code
def y_Mo_person : MethodName := ⟨R_Mo, "person", "(III)I"⟩
abbrev b_Mo_isPart : ByteArray := prog_10_method_8_code
def y_Mo_isPart : MethodName := ⟨R_Mo, "isPart", "(I)Z"⟩
abbrev b_Mo_used : ByteArray := prog_10_method_9_code
def y_Mo_used : MethodName := ⟨R_Mo, "used", "(III)I"⟩
abbrev b_Mo_stock : ByteArray := prog_10_method_10_code
def y_Mo_stock : MethodName := ⟨R_Mo, "stock", "(II)I"⟩
abbrev b_Mo_apart : ByteArray := prog_10_method_11_code
def y_Mo_apart : MethodName := ⟨R_Mo, "apart", "(II)I"⟩
abbrev b_Mo_way : ByteArray := prog_10_method_12_code
def y_Mo_way : MethodName := ⟨R_Mo, "way", "(II)I"⟩
abbrev b_Mo_walk : ByteArray := prog_10_method_13_code
def y_Mo_walk : MethodName := ⟨R_Mo, "walk", "(II)I"⟩
abbrev b_Mo_dueDay : ByteArray := prog_10_method_14_code
def y_Mo_dueDay : MethodName := ⟨R_Mo, "dueDay", "(I)I"⟩
abbrev b_Mo_isBefore : ByteArray := prog_10_method_15_code
def y_Mo_isBefore : MethodName := ⟨R_Mo, "isBefore", "(II)Z"⟩
abbrev b_Mo_walksOf : ByteArray := prog_10_method_16_code
def y_Mo_walksOf : MethodName := ⟨R_Mo, "walksOf", "([III)I"⟩
abbrev b_Mo_next : ByteArray := prog_10_method_17_code
def y_Mo_next : MethodName := ⟨R_Mo, "next", "(I)Z"⟩
abbrev b_Mo_swap : ByteArray := prog_10_method_18_code
def y_Mo_swap : MethodName := ⟨R_Mo, "swap", "(II)V"⟩
abbrev b_Mo_tour : ByteArray := prog_10_method_19_code
def y_Mo_tour : MethodName := ⟨R_Mo, "tour", "(II)I"⟩
abbrev b_Mo_isTour : ByteArray := prog_10_method_20_code
def y_Mo_isTour : MethodName := ⟨R_Mo, "isTour", "(II)Z"⟩
abbrev b_Mo_stop : ByteArray := prog_10_method_21_code
def y_Mo_stop : MethodName := ⟨R_Mo, "stop", "(I)I"⟩
abbrev b_Mo_told : ByteArray := prog_10_method_22_code
def y_Mo_told : MethodName := ⟨R_Mo, "told", "(I)I"⟩
abbrev b_Mo_put : ByteArray := prog_10_method_23_code
def y_Mo_put : MethodName := ⟨R_Mo, "put", "(I)I"⟩
abbrev b_Mo_done : ByteArray := prog_10_method_24_code
def y_Mo_done : MethodName := ⟨R_Mo, "done", "()I"⟩
abbrev b_Mo_due : ByteArray := prog_10_method_25_code
def y_Mo_due : MethodName := ⟨R_Mo, "due", "(I)I"⟩
abbrev b_Mo_late : ByteArray := prog_10_method_26_code
def y_Mo_late : MethodName := ⟨R_Mo, "late", "(I)I"⟩
abbrev b_Mo_fine : ByteArray := prog_10_method_27_code
def y_Mo_fine : MethodName := ⟨R_Mo, "fine", "(II)I"⟩
abbrev b_Mo_wanted : ByteArray := prog_10_method_28_code
def y_Mo_wanted : MethodName := ⟨R_Mo, "wanted", "(II)I"⟩
abbrev b_Ho_init : ByteArray := prog_2_method_1_code
def y_Ho_init : MethodName := ⟨R_Ho, "<init>", "()V"⟩
abbrev b_Ho_hasPlace : ByteArray := prog_2_method_2_code
def y_Ho_hasPlace : MethodName := ⟨R_Ho, "hasPlace", "(I)Z"⟩
abbrev b_Ho_addPlace : ByteArray := prog_2_method_3_code
def y_Ho_addPlace : MethodName := ⟨R_Ho, "addPlace", "(LCareTours$Place;)I"⟩
abbrev b_Ho_addLift : ByteArray := prog_2_method_4_code
def y_Ho_addLift : MethodName := ⟨R_Ho, "addLift", "(LCareTours$Lift;)I"⟩
abbrev b_Ho_secondsBetween : ByteArray := prog_2_method_5_code
def y_Ho_secondsBetween : MethodName := ⟨R_Ho, "secondsBetween", "(LCareTours$Place;LCareTours$Place;)I"⟩
abbrev b_Li_init : ByteArray := prog_3_method_1_code
def y_Li_init : MethodName := ⟨R_Li, "<init>", "(IIIIII)V"⟩
abbrev b_Li_comesTo : ByteArray := prog_3_method_2_code
def y_Li_comesTo : MethodName := ⟨R_Li, "comesTo", "(LCareTours$Place;)Z"⟩
abbrev b_Li_secondsBetween : ByteArray := prog_3_method_3_code
def y_Li_secondsBetween : MethodName := ⟨R_Li, "secondsBetween", "(LCareTours$Place;LCareTours$Place;)I"⟩
abbrev b_Pt_init : ByteArray := prog_4_method_1_code
def y_Pt_init : MethodName := ⟨R_Pt, "<init>", "(ILCareTours$Place;IIIII)V"⟩
abbrev b_Pt_dueDay : ByteArray := prog_4_method_2_code
def y_Pt_dueDay : MethodName := ⟨R_Pt, "dueDay", "()I"⟩
abbrev b_Pt_addUse : ByteArray := prog_4_method_3_code
def y_Pt_addUse : MethodName := ⟨R_Pt, "addUse", "(II)V"⟩
abbrev b_Pt_renew : ByteArray := prog_4_method_4_code
def y_Pt_renew : MethodName := ⟨R_Pt, "renew", "(I)V"⟩
abbrev b_Pe_init : ByteArray := prog_5_method_1_code
def y_Pe_init : MethodName := ⟨R_Pe, "<init>", "(IILCareTours$Place;I)V"⟩
abbrev b_Pe_has : ByteArray := prog_5_method_2_code
def y_Pe_has : MethodName := ⟨R_Pe, "has", "(I)Z"⟩
abbrev b_Pl_init : ByteArray := prog_6_method_1_code
def y_Pl_init : MethodName := ⟨R_Pl, "<init>", "(III)V"⟩
abbrev b_Pl_secondsTo : ByteArray := prog_6_method_2_code
def y_Pl_secondsTo : MethodName := ⟨R_Pl, "secondsTo", "(II)I"⟩
abbrev b_Pn_init : ByteArray := prog_7_method_1_code
def y_Pn_init : MethodName := ⟨R_Pn, "<init>", "()V"⟩
abbrev b_Pn_clear : ByteArray := prog_7_method_2_code
def y_Pn_clear : MethodName := ⟨R_Pn, "clear", "()V"⟩
abbrev b_Pn_isFull : ByteArray := prog_7_method_3_code
def y_Pn_isFull : MethodName := ⟨R_Pn, "isFull", "()Z"⟩
abbrev b_Pn_add : ByteArray := prog_7_method_4_code
def y_Pn_add : MethodName := ⟨R_Pn, "add", "(LCareTours$Part;)V"⟩
abbrev b_Pn_measure : ByteArray := prog_7_method_5_code
def y_Pn_measure : MethodName := ⟨R_Pn, "measure", "(LCareTours$House;LCareTours$Place;)V"⟩
abbrev b_Pn_legOf : ByteArray := prog_7_method_6_code
def y_Pn_legOf : MethodName := ⟨R_Pn, "legOf", "(LCareTours$House;LCareTours$Place;LCareTours$Place;)I"⟩
abbrev b_Pn_plan : ByteArray := prog_7_method_7_code
def y_Pn_plan : MethodName := ⟨R_Pn, "plan", "()V"⟩
abbrev b_Pn_leastRest : ByteArray := prog_7_method_8_code
def y_Pn_leastRest : MethodName := ⟨R_Pn, "leastRest", "(II)I"⟩
abbrev b_Pn_restBy : ByteArray := prog_7_method_9_code
def y_Pn_restBy : MethodName := ⟨R_Pn, "restBy", "(III)I"⟩
abbrev b_Pn_isIn : ByteArray := prog_7_method_10_code
def y_Pn_isIn : MethodName := ⟨R_Pn, "isIn", "(II)Z"⟩
abbrev b_Pn_firstOnes : ByteArray := prog_7_method_11_code
def y_Pn_firstOnes : MethodName := ⟨R_Pn, "firstOnes", "(I)I"⟩
abbrev b_Pn_leastWalks : ByteArray := prog_7_method_12_code
def y_Pn_leastWalks : MethodName := ⟨R_Pn, "leastWalks", "(I)I"⟩
abbrev b_Pn_stopsWithin : ByteArray := prog_7_method_13_code
def y_Pn_stopsWithin : MethodName := ⟨R_Pn, "stopsWithin", "(I)I"⟩
abbrev b_Pn_fill : ByteArray := prog_7_method_14_code
def y_Pn_fill : MethodName := ⟨R_Pn, "fill", "(LCareTours$Tour;I)V"⟩
abbrev b_Pn_nextNode : ByteArray := prog_7_method_15_code
def y_Pn_nextNode : MethodName := ⟨R_Pn, "nextNode", "(II)I"⟩
abbrev b_To_init : ByteArray := prog_8_method_1_code
def y_To_init : MethodName := ⟨R_To, "<init>", "()V"⟩
abbrev b_To_begin : ByteArray := prog_8_method_2_code
def y_To_begin : MethodName := ⟨R_To, "begin", "(LCareTours$Person;I)V"⟩
abbrev b_To_end : ByteArray := prog_8_method_3_code
def y_To_end : MethodName := ⟨R_To, "end", "()V"⟩
abbrev b_To_isStop : ByteArray := prog_8_method_4_code
def y_To_isStop : MethodName := ⟨R_To, "isStop", "(LCareTours$Part;)Z"⟩
abbrev b_To_insert : ByteArray := prog_8_method_5_code
def y_To_insert : MethodName := ⟨R_To, "insert", "(LCareTours$Part;II)V"⟩
abbrev b_To_shortestGap : ByteArray := prog_8_method_6_code
def y_To_shortestGap : MethodName := ⟨R_To, "shortestGap", "(LCareTours$House;LCareTours$Place;)I"⟩
abbrev b_To_canReach : ByteArray := prog_8_method_7_code
def y_To_canReach : MethodName := ⟨R_To, "canReach", "(LCareTours$House;LCareTours$Place;I)Z"⟩
abbrev b_To_detour : ByteArray := prog_8_method_8_code
def y_To_detour : MethodName := ⟨R_To, "detour", "(LCareTours$House;LCareTours$Place;I)I"⟩
abbrev b_To_placeBefore : ByteArray := prog_8_method_9_code
def y_To_placeBefore : MethodName := ⟨R_To, "placeBefore", "(I)LCareTours$Place;"⟩
abbrev b_To_placeBehind : ByteArray := prog_8_method_10_code
def y_To_placeBehind : MethodName := ⟨R_To, "placeBehind", "(I)LCareTours$Place;"⟩
abbrev b_La_cell : ByteArray := method_2_code
def y_La_cell : MethodName := ⟨R_La, "cell", "([II)I"⟩
abbrev b_La_place : ByteArray := method_3_code
def y_La_place : MethodName := ⟨R_La, "place", "(LCareTours;III[J)I"⟩
abbrev b_La_lift : ByteArray := method_4_code
def y_La_lift : MethodName := ⟨R_La, "lift", "(LCareTours;IIIIII[J)I"⟩
abbrev b_La_part : ByteArray := method_5_code
def y_La_part : MethodName := ⟨R_La, "part", "(LCareTours;IIIIII[J)I"⟩
abbrev b_La_person : ByteArray := method_6_code
def y_La_person : MethodName := ⟨R_La, "person", "(LCareTours;III[J)I"⟩
abbrev b_La_used : ByteArray := method_7_code
def y_La_used : MethodName := ⟨R_La, "used", "(LCareTours;III[J)I"⟩
abbrev b_La_stock : ByteArray := method_8_code
def y_La_stock : MethodName := ⟨R_La, "stock", "(LCareTours;II[J)I"⟩
abbrev b_La_walk : ByteArray := method_9_code
def y_La_walk : MethodName := ⟨R_La, "walk", "(LCareTours;II[J)I"⟩
abbrev b_La_tour : ByteArray := method_10_code
def y_La_tour : MethodName := ⟨R_La, "tour", "(LCareTours;II[J)I"⟩
abbrev b_La_stop : ByteArray := method_11_code
def y_La_stop : MethodName := ⟨R_La, "stop", "(LCareTours;I[J)I"⟩
abbrev b_La_told : ByteArray := method_12_code
def y_La_told : MethodName := ⟨R_La, "told", "(LCareTours;I[J)I"⟩
abbrev b_La_put : ByteArray := method_13_code
def y_La_put : MethodName := ⟨R_La, "put", "(LCareTours;I[J)I"⟩
abbrev b_La_done : ByteArray := method_14_code
def y_La_done : MethodName := ⟨R_La, "done", "(LCareTours;[J)I"⟩
abbrev b_La_due : ByteArray := method_15_code
def y_La_due : MethodName := ⟨R_La, "due", "(LCareTours;I[J)I"⟩
abbrev b_La_late : ByteArray := method_16_code
def y_La_late : MethodName := ⟨R_La, "late", "(LCareTours;I[J)I"⟩
abbrev b_La_fine : ByteArray := method_17_code
def y_La_fine : MethodName := ⟨R_La, "fine", "(LCareTours;II[J)I"⟩
abbrev b_La_wanted : ByteArray := method_18_code
def y_La_wanted : MethodName := ⟨R_La, "wanted", "(LCareTours;II[J)I"⟩
abbrev b_La_law : ByteArray := code
def y_La_law : MethodName := ⟨R_La, "law", "([I)Z"⟩
end
section
theorem d_Ct_init_0 : decode b_Ct_init 0 = .ok (.aload_n 0, 1) := by decide +kernel
theorem d_Ct_init_1 : decode b_Ct_init 1 = .ok (.invokespecial 1, 3) := by decide +kernel
theorem d_Ct_init_4 : decode b_Ct_init 4 = .ok (.aload_n 0, 1) := by decide +kernel
theorem d_Ct_init_5 : decode b_Ct_init 5 = .ok (.new 7, 3) := by decide +kernel
theorem d_Ct_init_8 : decode b_Ct_init 8 = .ok (.dup, 1) := by decide +kernel
theorem d_Ct_init_9 : decode b_Ct_init 9 = .ok (.invokespecial 9, 3) := by decide +kernel
theorem d_Ct_init_12 : decode b_Ct_init 12 = .ok (.putfield 10, 3) := by decide +kernel
theorem d_Ct_init_15 : decode b_Ct_init 15 = .ok (.aload_n 0, 1) := by decide +kernel
theorem d_Ct_init_16 : decode b_Ct_init 16 = .ok (.bipush 40, 2) := by decide +kernel
theorem d_Ct_init_18 : decode b_Ct_init 18 = .ok (.anewarray 16, 3) := by decide +kernel
theorem d_Ct_init_21 : decode b_Ct_init 21 = .ok (.putfield 18, 3) := by decide +kernel
theorem d_Ct_init_24 : decode b_Ct_init 24 = .ok (.aload_n 0, 1) := by decide +kernel
theorem d_Ct_init_25 : decode b_Ct_init 25 = .ok (.bipush 40, 2) := by decide +kernel
theorem d_Ct_init_27 : decode b_Ct_init 27 = .ok (.anewarray 16, 3) := by decide +kernel
theorem d_Ct_init_30 : decode b_Ct_init 30 = .ok (.putfield 22, 3) := by decide +kernel
theorem d_Ct_init_33 : decode b_Ct_init 33 = .ok (.aload_n 0, 1) := by decide +kernel
theorem d_Ct_init_34 : decode b_Ct_init 34 = .ok (.bipush 8, 2) := by decide +kernel
theorem d_Ct_init_36 : decode b_Ct_init 36 = .ok (.anewarray 25, 3) := by decide +kernel
theorem d_Ct_init_39 : decode b_Ct_init 39 = .ok (.putfield 27, 3) := by decide +kernel
theorem d_Ct_init_42 : decode b_Ct_init 42 = .ok (.aload_n 0, 1) := by decide +kernel
theorem d_Ct_init_43 : decode b_Ct_init 43 = .ok (.iconst 5, 1) := by decide +kernel
theorem d_Ct_init_44 : decode b_Ct_init 44 = .ok (.newarray .int, 2) := by decide +kernel
theorem d_Ct_init_46 : decode b_Ct_init 46 = .ok (.putfield 31, 3) := by decide +kernel
theorem d_Ct_init_49 : decode b_Ct_init 49 = .ok (.aload_n 0, 1) := by decide +kernel
theorem d_Ct_init_50 : decode b_Ct_init 50 = .ok (.new 35, 3) := by decide +kernel
theorem d_Ct_init_53 : decode b_Ct_init 53 = .ok (.dup, 1) := by decide +kernel
theorem d_Ct_init_54 : decode b_Ct_init 54 = .ok (.invokespecial 37, 3) := by decide +kernel
theorem d_Ct_init_57 : decode b_Ct_init 57 = .ok (.putfield 38, 3) := by decide +kernel
theorem d_Ct_init_60 : decode b_Ct_init 60 = .ok (.aload_n 0, 1) := by decide +kernel
theorem d_Ct_init_61 : decode b_Ct_init 61 = .ok (.new 42, 3) := by decide +kernel
theorem d_Ct_init_64 : decode b_Ct_init 64 = .ok (.dup, 1) := by decide +kernel
theorem d_Ct_init_65 : decode b_Ct_init 65 = .ok (.invokespecial 44, 3) := by decide +kernel
theorem d_Ct_init_68 : decode b_Ct_init 68 = .ok (.putfield 45, 3) := by decide +kernel
theorem d_Ct_init_71 : decode b_Ct_init 71 = .ok (.aload_n 0, 1) := by decide +kernel
theorem d_Ct_init_72 : decode b_Ct_init 72 = .ok (.iconst 0, 1) := by decide +kernel
theorem d_Ct_init_73 : decode b_Ct_init 73 = .ok (.putfield 49, 3) := by decide +kernel
theorem d_Ct_init_76 : decode b_Ct_init 76 = .ok (.aload_n 0, 1) := by decide +kernel
theorem d_Ct_init_77 : decode b_Ct_init 77 = .ok (.iconst 0, 1) := by decide +kernel
theorem d_Ct_init_78 : decode b_Ct_init 78 = .ok (.putfield 53, 3) := by decide +kernel
theorem d_Ct_init_81 : decode b_Ct_init 81 = .ok (.aload_n 0, 1) := by decide +kernel
theorem d_Ct_init_82 : decode b_Ct_init 82 = .ok (.iconst 0, 1) := by decide +kernel
theorem d_Ct_init_83 : decode b_Ct_init 83 = .ok (.iload_n 1, 1) := by decide +kernel
theorem d_Ct_init_84 : decode b_Ct_init 84 = .ok (.sipush 1000, 3) := by decide +kernel
theorem d_Ct_init_87 : decode b_Ct_init 87 = .ok (.invokestatic 56, 3) := by decide +kernel
theorem d_Ct_init_90 : decode b_Ct_init 90 = .ok (.invokestatic 62, 3) := by decide +kernel
theorem d_Ct_init_93 : decode b_Ct_init 93 = .ok (.putfield 65, 3) := by decide +kernel
theorem d_Ct_init_96 : decode b_Ct_init 96 = .ok (.return_, 1) := by decide +kernel
theorem d_Ct_place_0 : decode b_Ct_place 0 = .ok (.iload_n 1, 1) := by decide +kernel
theorem d_Ct_place_1 : decode b_Ct_place 1 = .ok (.iconst 0, 1) := by decide +kernel
theorem d_Ct_place_2 : decode b_Ct_place 2 = .ok (.bipush 30, 2) := by decide +kernel
theorem d_Ct_place_4 : decode b_Ct_place 4 = .ok (.invokestatic 68, 3) := by decide +kernel
theorem d_Ct_place_7 : decode b_Ct_place 7 = .ok (.ifCond .eq 11, 3) := by decide +kernel
theorem d_Ct_place_10 : decode b_Ct_place 10 = .ok (.iload_n 2, 1) := by decide +kernel
theorem d_Ct_place_11 : decode b_Ct_place 11 = .ok (.iload_n 3, 1) := by decide +kernel
theorem d_Ct_place_12 : decode b_Ct_place 12 = .ok (.invokestatic 72, 3) := by decide +kernel
theorem d_Ct_place_15 : decode b_Ct_place 15 = .ok (.ifCond .ne 13, 3) := by decide +kernel
theorem d_Ct_place_18 : decode b_Ct_place 18 = .ok (.new 76, 3) := by decide +kernel
theorem d_Ct_place_21 : decode b_Ct_place 21 = .ok (.dup, 1) := by decide +kernel
theorem d_Ct_place_22 : decode b_Ct_place 22 = .ok (.ldc 78, 2) := by decide +kernel
theorem d_Ct_place_24 : decode b_Ct_place 24 = .ok (.invokespecial 80, 3) := by decide +kernel
theorem d_Ct_place_27 : decode b_Ct_place 27 = .ok (.athrow, 1) := by decide +kernel
theorem d_Ct_place_28 : decode b_Ct_place 28 = .ok (.aload_n 0, 1) := by decide +kernel
theorem d_Ct_place_29 : decode b_Ct_place 29 = .ok (.getfield 10, 3) := by decide +kernel
theorem d_Ct_place_32 : decode b_Ct_place 32 = .ok (.getfield 83, 3) := by decide +kernel
theorem d_Ct_place_35 : decode b_Ct_place 35 = .ok (.bipush 30, 2) := by decide +kernel
theorem d_Ct_place_37 : decode b_Ct_place 37 = .ok (.if_icmp .lt 13, 3) := by decide +kernel
theorem d_Ct_place_40 : decode b_Ct_place 40 = .ok (.new 86, 3) := by decide +kernel
theorem d_Ct_place_43 : decode b_Ct_place 43 = .ok (.dup, 1) := by decide +kernel
theorem d_Ct_place_44 : decode b_Ct_place 44 = .ok (.ldc 88, 2) := by decide +kernel
theorem d_Ct_place_46 : decode b_Ct_place 46 = .ok (.invokespecial 90, 3) := by decide +kernel
theorem d_Ct_place_49 : decode b_Ct_place 49 = .ok (.athrow, 1) := by decide +kernel
theorem d_Ct_place_50 : decode b_Ct_place 50 = .ok (.aload_n 0, 1) := by decide +kernel
theorem d_Ct_place_51 : decode b_Ct_place 51 = .ok (.getfield 45, 3) := by decide +kernel
theorem d_Ct_place_54 : decode b_Ct_place 54 = .ok (.invokevirtual 91, 3) := by decide +kernel
theorem d_Ct_place_57 : decode b_Ct_place 57 = .ok (.aload_n 0, 1) := by decide +kernel
theorem d_Ct_place_58 : decode b_Ct_place 58 = .ok (.getfield 10, 3) := by decide +kernel
theorem d_Ct_place_61 : decode b_Ct_place 61 = .ok (.new 94, 3) := by decide +kernel
theorem d_Ct_place_64 : decode b_Ct_place 64 = .ok (.dup, 1) := by decide +kernel
theorem d_Ct_place_65 : decode b_Ct_place 65 = .ok (.iload_n 1, 1) := by decide +kernel
theorem d_Ct_place_66 : decode b_Ct_place 66 = .ok (.iload_n 2, 1) := by decide +kernel
theorem d_Ct_place_67 : decode b_Ct_place 67 = .ok (.iload_n 3, 1) := by decide +kernel
theorem d_Ct_place_68 : decode b_Ct_place 68 = .ok (.invokespecial 96, 3) := by decide +kernel
theorem d_Ct_place_71 : decode b_Ct_place 71 = .ok (.invokevirtual 99, 3) := by decide +kernel
theorem d_Ct_place_74 : decode b_Ct_place 74 = .ok (.ireturn, 1) := by decide +kernel
theorem d_Ct_lift_0 : decode b_Ct_lift 0 = .ok (.iload_n 1, 1) := by decide +kernel
theorem d_Ct_lift_1 : decode b_Ct_lift 1 = .ok (.iload_n 2, 1) := by decide +kernel
theorem d_Ct_lift_2 : decode b_Ct_lift 2 = .ok (.invokestatic 72, 3) := by decide +kernel
theorem d_Ct_lift_5 : decode b_Ct_lift 5 = .ok (.ifCond .eq 24, 3) := by decide +kernel
theorem d_Ct_lift_8 : decode b_Ct_lift 8 = .ok (.iload 4, 2) := by decide +kernel
theorem d_Ct_lift_10 : decode b_Ct_lift 10 = .ok (.iconst 0, 1) := by decide +kernel
theorem d_Ct_lift_11 : decode b_Ct_lift 11 = .ok (.bipush 30, 2) := by decide +kernel
theorem d_Ct_lift_13 : decode b_Ct_lift 13 = .ok (.invokestatic 68, 3) := by decide +kernel
theorem d_Ct_lift_16 : decode b_Ct_lift 16 = .ok (.ifCond .eq 13, 3) := by decide +kernel
theorem d_Ct_lift_19 : decode b_Ct_lift 19 = .ok (.iload_n 3, 1) := by decide +kernel
theorem d_Ct_lift_20 : decode b_Ct_lift 20 = .ok (.iconst 0, 1) := by decide +kernel
theorem d_Ct_lift_21 : decode b_Ct_lift 21 = .ok (.iload 4, 2) := by decide +kernel
theorem d_Ct_lift_23 : decode b_Ct_lift 23 = .ok (.invokestatic 68, 3) := by decide +kernel
theorem d_Ct_lift_26 : decode b_Ct_lift 26 = .ok (.ifCond .ne 13, 3) := by decide +kernel
theorem d_Ct_lift_29 : decode b_Ct_lift 29 = .ok (.new 76, 3) := by decide +kernel
theorem d_Ct_lift_32 : decode b_Ct_lift 32 = .ok (.dup, 1) := by decide +kernel
theorem d_Ct_lift_33 : decode b_Ct_lift 33 = .ok (.ldc 103, 2) := by decide +kernel
theorem d_Ct_lift_35 : decode b_Ct_lift 35 = .ok (.invokespecial 80, 3) := by decide +kernel
theorem d_Ct_lift_38 : decode b_Ct_lift 38 = .ok (.athrow, 1) := by decide +kernel
theorem d_Ct_lift_39 : decode b_Ct_lift 39 = .ok (.iload 5, 2) := by decide +kernel
theorem d_Ct_lift_41 : decode b_Ct_lift 41 = .ok (.iconst 0, 1) := by decide +kernel
theorem d_Ct_lift_42 : decode b_Ct_lift 42 = .ok (.bipush 100, 2) := by decide +kernel
theorem d_Ct_lift_44 : decode b_Ct_lift 44 = .ok (.invokestatic 68, 3) := by decide +kernel
theorem d_Ct_lift_47 : decode b_Ct_lift 47 = .ok (.ifCond .eq 14, 3) := by decide +kernel
theorem d_Ct_lift_50 : decode b_Ct_lift 50 = .ok (.iload 6, 2) := by decide +kernel
theorem d_Ct_lift_52 : decode b_Ct_lift 52 = .ok (.iconst 0, 1) := by decide +kernel
theorem d_Ct_lift_53 : decode b_Ct_lift 53 = .ok (.bipush 100, 2) := by decide +kernel
theorem d_Ct_lift_55 : decode b_Ct_lift 55 = .ok (.invokestatic 68, 3) := by decide +kernel
theorem d_Ct_lift_58 : decode b_Ct_lift 58 = .ok (.ifCond .ne 13, 3) := by decide +kernel
theorem d_Ct_lift_61 : decode b_Ct_lift 61 = .ok (.new 76, 3) := by decide +kernel
theorem d_Ct_lift_64 : decode b_Ct_lift 64 = .ok (.dup, 1) := by decide +kernel
theorem d_Ct_lift_65 : decode b_Ct_lift 65 = .ok (.ldc 105, 2) := by decide +kernel
theorem d_Ct_lift_67 : decode b_Ct_lift 67 = .ok (.invokespecial 80, 3) := by decide +kernel
theorem d_Ct_lift_70 : decode b_Ct_lift 70 = .ok (.athrow, 1) := by decide +kernel
theorem d_Ct_lift_71 : decode b_Ct_lift 71 = .ok (.aload_n 0, 1) := by decide +kernel
theorem d_Ct_lift_72 : decode b_Ct_lift 72 = .ok (.getfield 10, 3) := by decide +kernel
theorem d_Ct_lift_75 : decode b_Ct_lift 75 = .ok (.getfield 107, 3) := by decide +kernel
theorem d_Ct_lift_78 : decode b_Ct_lift 78 = .ok (.bipush 6, 2) := by decide +kernel
theorem d_Ct_lift_80 : decode b_Ct_lift 80 = .ok (.if_icmp .lt 13, 3) := by decide +kernel
theorem d_Ct_lift_83 : decode b_Ct_lift 83 = .ok (.new 86, 3) := by decide +kernel
theorem d_Ct_lift_86 : decode b_Ct_lift 86 = .ok (.dup, 1) := by decide +kernel
theorem d_Ct_lift_87 : decode b_Ct_lift 87 = .ok (.ldc 110, 2) := by decide +kernel
theorem d_Ct_lift_89 : decode b_Ct_lift 89 = .ok (.invokespecial 90, 3) := by decide +kernel
theorem d_Ct_lift_92 : decode b_Ct_lift 92 = .ok (.athrow, 1) := by decide +kernel
theorem d_Ct_lift_93 : decode b_Ct_lift 93 = .ok (.aload_n 0, 1) := by decide +kernel
theorem d_Ct_lift_94 : decode b_Ct_lift 94 = .ok (.getfield 45, 3) := by decide +kernel
theorem d_Ct_lift_97 : decode b_Ct_lift 97 = .ok (.invokevirtual 91, 3) := by decide +kernel
theorem d_Ct_lift_100 : decode b_Ct_lift 100 = .ok (.aload_n 0, 1) := by decide +kernel
theorem d_Ct_lift_101 : decode b_Ct_lift 101 = .ok (.getfield 10, 3) := by decide +kernel
theorem d_Ct_lift_104 : decode b_Ct_lift 104 = .ok (.new 112, 3) := by decide +kernel
theorem d_Ct_lift_107 : decode b_Ct_lift 107 = .ok (.dup, 1) := by decide +kernel
theorem d_Ct_lift_108 : decode b_Ct_lift 108 = .ok (.iload_n 1, 1) := by decide +kernel
theorem d_Ct_lift_109 : decode b_Ct_lift 109 = .ok (.iload_n 2, 1) := by decide +kernel
theorem d_Ct_lift_110 : decode b_Ct_lift 110 = .ok (.iload_n 3, 1) := by decide +kernel
theorem d_Ct_lift_111 : decode b_Ct_lift 111 = .ok (.iload 4, 2) := by decide +kernel
theorem d_Ct_lift_113 : decode b_Ct_lift 113 = .ok (.iload 5, 2) := by decide +kernel
theorem d_Ct_lift_115 : decode b_Ct_lift 115 = .ok (.iload 6, 2) := by decide +kernel
theorem d_Ct_lift_117 : decode b_Ct_lift 117 = .ok (.invokespecial 114, 3) := by decide +kernel
theorem d_Ct_lift_120 : decode b_Ct_lift 120 = .ok (.invokevirtual 117, 3) := by decide +kernel
theorem d_Ct_lift_123 : decode b_Ct_lift 123 = .ok (.ireturn, 1) := by decide +kernel
theorem d_Ct_part_0 : decode b_Ct_part 0 = .ok (.aload_n 0, 1) := by decide +kernel
theorem d_Ct_part_1 : decode b_Ct_part 1 = .ok (.getfield 10, 3) := by decide +kernel
theorem d_Ct_part_4 : decode b_Ct_part 4 = .ok (.iload_n 1, 1) := by decide +kernel
theorem d_Ct_part_5 : decode b_Ct_part 5 = .ok (.invokevirtual 121, 3) := by decide +kernel
theorem d_Ct_part_8 : decode b_Ct_part 8 = .ok (.ifCond .eq 20, 3) := by decide +kernel
theorem d_Ct_part_11 : decode b_Ct_part 11 = .ok (.iload_n 2, 1) := by decide +kernel
theorem d_Ct_part_12 : decode b_Ct_part 12 = .ok (.iconst 0, 1) := by decide +kernel
theorem d_Ct_part_13 : decode b_Ct_part 13 = .ok (.bipush 7, 2) := by decide +kernel
theorem d_Ct_part_15 : decode b_Ct_part 15 = .ok (.invokestatic 68, 3) := by decide +kernel
theorem d_Ct_part_18 : decode b_Ct_part 18 = .ok (.ifCond .eq 10, 3) := by decide +kernel
theorem d_Ct_part_21 : decode b_Ct_part 21 = .ok (.iload_n 3, 1) := by decide +kernel
theorem d_Ct_part_22 : decode b_Ct_part 22 = .ok (.invokestatic 125, 3) := by decide +kernel
theorem d_Ct_part_25 : decode b_Ct_part 25 = .ok (.ifCond .ne 13, 3) := by decide +kernel
theorem d_Ct_part_28 : decode b_Ct_part 28 = .ok (.new 76, 3) := by decide +kernel
theorem d_Ct_part_31 : decode b_Ct_part 31 = .ok (.dup, 1) := by decide +kernel
theorem d_Ct_part_32 : decode b_Ct_part 32 = .ok (.ldc 128, 2) := by decide +kernel
theorem d_Ct_part_34 : decode b_Ct_part 34 = .ok (.invokespecial 80, 3) := by decide +kernel
theorem d_Ct_part_37 : decode b_Ct_part 37 = .ok (.athrow, 1) := by decide +kernel
theorem d_Ct_part_38 : decode b_Ct_part 38 = .ok (.iload 4, 2) := by decide +kernel
theorem d_Ct_part_40 : decode b_Ct_part 40 = .ok (.iconst 1, 1) := by decide +kernel
theorem d_Ct_part_41 : decode b_Ct_part 41 = .ok (.sipush 400, 3) := by decide +kernel
theorem d_Ct_part_44 : decode b_Ct_part 44 = .ok (.invokestatic 68, 3) := by decide +kernel
theorem d_Ct_part_47 : decode b_Ct_part 47 = .ok (.ifCond .eq 27, 3) := by decide +kernel
theorem d_Ct_part_50 : decode b_Ct_part 50 = .ok (.iload 5, 2) := by decide +kernel
theorem d_Ct_part_52 : decode b_Ct_part 52 = .ok (.iconst 1, 1) := by decide +kernel
theorem d_Ct_part_53 : decode b_Ct_part 53 = .ok (.sipush 10000, 3) := by decide +kernel
theorem d_Ct_part_56 : decode b_Ct_part 56 = .ok (.invokestatic 68, 3) := by decide +kernel
theorem d_Ct_part_59 : decode b_Ct_part 59 = .ok (.ifCond .eq 15, 3) := by decide +kernel
theorem d_Ct_part_62 : decode b_Ct_part 62 = .ok (.iload 6, 2) := by decide +kernel
theorem d_Ct_part_64 : decode b_Ct_part 64 = .ok (.iconst 1, 1) := by decide +kernel
theorem d_Ct_part_65 : decode b_Ct_part 65 = .ok (.sipush 7200, 3) := by decide +kernel
theorem d_Ct_part_68 : decode b_Ct_part 68 = .ok (.invokestatic 68, 3) := by decide +kernel
theorem d_Ct_part_71 : decode b_Ct_part 71 = .ok (.ifCond .ne 13, 3) := by decide +kernel
theorem d_Ct_part_74 : decode b_Ct_part 74 = .ok (.new 76, 3) := by decide +kernel
theorem d_Ct_part_77 : decode b_Ct_part 77 = .ok (.dup, 1) := by decide +kernel
theorem d_Ct_part_78 : decode b_Ct_part 78 = .ok (.ldc 130, 2) := by decide +kernel
theorem d_Ct_part_80 : decode b_Ct_part 80 = .ok (.invokespecial 80, 3) := by decide +kernel
theorem d_Ct_part_83 : decode b_Ct_part 83 = .ok (.athrow, 1) := by decide +kernel
theorem d_Ct_part_84 : decode b_Ct_part 84 = .ok (.aload_n 0, 1) := by decide +kernel
theorem d_Ct_part_85 : decode b_Ct_part 85 = .ok (.getfield 49, 3) := by decide +kernel
theorem d_Ct_part_88 : decode b_Ct_part 88 = .ok (.bipush 40, 2) := by decide +kernel
theorem d_Ct_part_90 : decode b_Ct_part 90 = .ok (.if_icmp .lt 13, 3) := by decide +kernel
theorem d_Ct_part_93 : decode b_Ct_part 93 = .ok (.new 86, 3) := by decide +kernel
theorem d_Ct_part_96 : decode b_Ct_part 96 = .ok (.dup, 1) := by decide +kernel
theorem d_Ct_part_97 : decode b_Ct_part 97 = .ok (.ldc 132, 2) := by decide +kernel
theorem d_Ct_part_99 : decode b_Ct_part 99 = .ok (.invokespecial 90, 3) := by decide +kernel
theorem d_Ct_part_102 : decode b_Ct_part 102 = .ok (.athrow, 1) := by decide +kernel
theorem d_Ct_part_103 : decode b_Ct_part 103 = .ok (.aload_n 0, 1) := by decide +kernel
theorem d_Ct_part_104 : decode b_Ct_part 104 = .ok (.getfield 49, 3) := by decide +kernel
theorem d_Ct_part_107 : decode b_Ct_part 107 = .ok (.istore 7, 2) := by decide +kernel
theorem d_Ct_part_109 : decode b_Ct_part 109 = .ok (.aload_n 0, 1) := by decide +kernel
theorem d_Ct_part_110 : decode b_Ct_part 110 = .ok (.getfield 18, 3) := by decide +kernel
theorem d_Ct_part_113 : decode b_Ct_part 113 = .ok (.iload 7, 2) := by decide +kernel
theorem d_Ct_part_115 : decode b_Ct_part 115 = .ok (.new 16, 3) := by decide +kernel
theorem d_Ct_part_118 : decode b_Ct_part 118 = .ok (.dup, 1) := by decide +kernel
theorem d_Ct_part_119 : decode b_Ct_part 119 = .ok (.iload 7, 2) := by decide +kernel
theorem d_Ct_part_121 : decode b_Ct_part 121 = .ok (.aload_n 0, 1) := by decide +kernel
theorem d_Ct_part_122 : decode b_Ct_part 122 = .ok (.getfield 10, 3) := by decide +kernel
theorem d_Ct_part_125 : decode b_Ct_part 125 = .ok (.getfield 134, 3) := by decide +kernel
theorem d_Ct_part_128 : decode b_Ct_part 128 = .ok (.iload_n 1, 1) := by decide +kernel
theorem d_Ct_part_129 : decode b_Ct_part 129 = .ok (.aaload, 1) := by decide +kernel
theorem d_Ct_part_130 : decode b_Ct_part 130 = .ok (.iload_n 2, 1) := by decide +kernel
theorem d_Ct_part_131 : decode b_Ct_part 131 = .ok (.iload_n 3, 1) := by decide +kernel
theorem d_Ct_part_132 : decode b_Ct_part 132 = .ok (.iload 4, 2) := by decide +kernel
theorem d_Ct_part_134 : decode b_Ct_part 134 = .ok (.iload 5, 2) := by decide +kernel
theorem d_Ct_part_136 : decode b_Ct_part 136 = .ok (.iload 6, 2) := by decide +kernel
theorem d_Ct_part_138 : decode b_Ct_part 138 = .ok (.invokespecial 138, 3) := by decide +kernel
theorem d_Ct_part_141 : decode b_Ct_part 141 = .ok (.aastore, 1) := by decide +kernel
theorem d_Ct_part_142 : decode b_Ct_part 142 = .ok (.aload_n 0, 1) := by decide +kernel
theorem d_Ct_part_143 : decode b_Ct_part 143 = .ok (.dup, 1) := by decide +kernel
theorem d_Ct_part_144 : decode b_Ct_part 144 = .ok (.getfield 49, 3) := by decide +kernel
theorem d_Ct_part_147 : decode b_Ct_part 147 = .ok (.iconst 1, 1) := by decide +kernel
theorem d_Ct_part_148 : decode b_Ct_part 148 = .ok (.iadd, 1) := by decide +kernel
theorem d_Ct_part_149 : decode b_Ct_part 149 = .ok (.putfield 49, 3) := by decide +kernel
theorem d_Ct_part_152 : decode b_Ct_part 152 = .ok (.iload 7, 2) := by decide +kernel
theorem d_Ct_part_154 : decode b_Ct_part 154 = .ok (.ireturn, 1) := by decide +kernel
theorem d_Ct_person_0 : decode b_Ct_person 0 = .ok (.iload_n 1, 1) := by decide +kernel
theorem d_Ct_person_1 : decode b_Ct_person 1 = .ok (.iconst 0, 1) := by decide +kernel
theorem d_Ct_person_2 : decode b_Ct_person 2 = .ok (.sipush 255, 3) := by decide +kernel
theorem d_Ct_person_5 : decode b_Ct_person 5 = .ok (.invokestatic 68, 3) := by decide +kernel
theorem d_Ct_person_8 : decode b_Ct_person 8 = .ok (.ifCond .eq 24, 3) := by decide +kernel
theorem d_Ct_person_11 : decode b_Ct_person 11 = .ok (.aload_n 0, 1) := by decide +kernel
theorem d_Ct_person_12 : decode b_Ct_person 12 = .ok (.getfield 10, 3) := by decide +kernel
theorem d_Ct_person_15 : decode b_Ct_person 15 = .ok (.iload_n 2, 1) := by decide +kernel
theorem d_Ct_person_16 : decode b_Ct_person 16 = .ok (.invokevirtual 121, 3) := by decide +kernel
theorem d_Ct_person_19 : decode b_Ct_person 19 = .ok (.ifCond .eq 13, 3) := by decide +kernel
theorem d_Ct_person_22 : decode b_Ct_person 22 = .ok (.iload_n 3, 1) := by decide +kernel
theorem d_Ct_person_23 : decode b_Ct_person 23 = .ok (.iconst 0, 1) := by decide +kernel
theorem d_Ct_person_24 : decode b_Ct_person 24 = .ok (.ldc 141, 2) := by decide +kernel
theorem d_Ct_person_26 : decode b_Ct_person 26 = .ok (.invokestatic 68, 3) := by decide +kernel
theorem d_Ct_person_29 : decode b_Ct_person 29 = .ok (.ifCond .ne 13, 3) := by decide +kernel
theorem d_Ct_person_32 : decode b_Ct_person 32 = .ok (.new 76, 3) := by decide +kernel
theorem d_Ct_person_35 : decode b_Ct_person 35 = .ok (.dup, 1) := by decide +kernel
theorem d_Ct_person_36 : decode b_Ct_person 36 = .ok (.ldc 142, 2) := by decide +kernel
theorem d_Ct_person_38 : decode b_Ct_person 38 = .ok (.invokespecial 80, 3) := by decide +kernel
theorem d_Ct_person_41 : decode b_Ct_person 41 = .ok (.athrow, 1) := by decide +kernel
theorem d_Ct_person_42 : decode b_Ct_person 42 = .ok (.aload_n 0, 1) := by decide +kernel
theorem d_Ct_person_43 : decode b_Ct_person 43 = .ok (.getfield 53, 3) := by decide +kernel
theorem d_Ct_person_46 : decode b_Ct_person 46 = .ok (.bipush 8, 2) := by decide +kernel
theorem d_Ct_person_48 : decode b_Ct_person 48 = .ok (.if_icmp .lt 13, 3) := by decide +kernel
theorem d_Ct_person_51 : decode b_Ct_person 51 = .ok (.new 86, 3) := by decide +kernel
theorem d_Ct_person_54 : decode b_Ct_person 54 = .ok (.dup, 1) := by decide +kernel
theorem d_Ct_person_55 : decode b_Ct_person 55 = .ok (.ldc 144, 2) := by decide +kernel
theorem d_Ct_person_57 : decode b_Ct_person 57 = .ok (.invokespecial 90, 3) := by decide +kernel
theorem d_Ct_person_60 : decode b_Ct_person 60 = .ok (.athrow, 1) := by decide +kernel
theorem d_Ct_person_61 : decode b_Ct_person 61 = .ok (.aload_n 0, 1) := by decide +kernel
theorem d_Ct_person_62 : decode b_Ct_person 62 = .ok (.getfield 45, 3) := by decide +kernel
theorem d_Ct_person_65 : decode b_Ct_person 65 = .ok (.invokevirtual 91, 3) := by decide +kernel
theorem d_Ct_person_68 : decode b_Ct_person 68 = .ok (.aload_n 0, 1) := by decide +kernel
theorem d_Ct_person_69 : decode b_Ct_person 69 = .ok (.getfield 53, 3) := by decide +kernel
theorem d_Ct_person_72 : decode b_Ct_person 72 = .ok (.istore 4, 2) := by decide +kernel
theorem d_Ct_person_74 : decode b_Ct_person 74 = .ok (.aload_n 0, 1) := by decide +kernel
theorem d_Ct_person_75 : decode b_Ct_person 75 = .ok (.getfield 27, 3) := by decide +kernel
theorem d_Ct_person_78 : decode b_Ct_person 78 = .ok (.iload 4, 2) := by decide +kernel
theorem d_Ct_person_80 : decode b_Ct_person 80 = .ok (.new 25, 3) := by decide +kernel
theorem d_Ct_person_83 : decode b_Ct_person 83 = .ok (.dup, 1) := by decide +kernel
theorem d_Ct_person_84 : decode b_Ct_person 84 = .ok (.iload 4, 2) := by decide +kernel
theorem d_Ct_person_86 : decode b_Ct_person 86 = .ok (.iload_n 1, 1) := by decide +kernel
theorem d_Ct_person_87 : decode b_Ct_person 87 = .ok (.aload_n 0, 1) := by decide +kernel
theorem d_Ct_person_88 : decode b_Ct_person 88 = .ok (.getfield 10, 3) := by decide +kernel
theorem d_Ct_person_91 : decode b_Ct_person 91 = .ok (.getfield 134, 3) := by decide +kernel
theorem d_Ct_person_94 : decode b_Ct_person 94 = .ok (.iload_n 2, 1) := by decide +kernel
theorem d_Ct_person_95 : decode b_Ct_person 95 = .ok (.aaload, 1) := by decide +kernel
theorem d_Ct_person_96 : decode b_Ct_person 96 = .ok (.iload_n 3, 1) := by decide +kernel
theorem d_Ct_person_97 : decode b_Ct_person 97 = .ok (.invokespecial 146, 3) := by decide +kernel
theorem d_Ct_person_100 : decode b_Ct_person 100 = .ok (.aastore, 1) := by decide +kernel
theorem d_Ct_person_101 : decode b_Ct_person 101 = .ok (.aload_n 0, 1) := by decide +kernel
theorem d_Ct_person_102 : decode b_Ct_person 102 = .ok (.dup, 1) := by decide +kernel
theorem d_Ct_person_103 : decode b_Ct_person 103 = .ok (.getfield 53, 3) := by decide +kernel
theorem d_Ct_person_106 : decode b_Ct_person 106 = .ok (.iconst 1, 1) := by decide +kernel
theorem d_Ct_person_107 : decode b_Ct_person 107 = .ok (.iadd, 1) := by decide +kernel
theorem d_Ct_person_108 : decode b_Ct_person 108 = .ok (.putfield 53, 3) := by decide +kernel
theorem d_Ct_person_111 : decode b_Ct_person 111 = .ok (.iload 4, 2) := by decide +kernel
theorem d_Ct_person_113 : decode b_Ct_person 113 = .ok (.ireturn, 1) := by decide +kernel
theorem d_Ct_used_0 : decode b_Ct_used 0 = .ok (.aload_n 0, 1) := by decide +kernel
theorem d_Ct_used_1 : decode b_Ct_used 1 = .ok (.iload_n 1, 1) := by decide +kernel
theorem d_Ct_used_2 : decode b_Ct_used 2 = .ok (.invokevirtual 149, 3) := by decide +kernel
theorem d_Ct_used_5 : decode b_Ct_used 5 = .ok (.ifCond .eq 21, 3) := by decide +kernel
theorem d_Ct_used_8 : decode b_Ct_used 8 = .ok (.iload_n 2, 1) := by decide +kernel
theorem d_Ct_used_9 : decode b_Ct_used 9 = .ok (.invokestatic 152, 3) := by decide +kernel
theorem d_Ct_used_12 : decode b_Ct_used 12 = .ok (.ifCond .eq 14, 3) := by decide +kernel
theorem d_Ct_used_15 : decode b_Ct_used 15 = .ok (.iload_n 3, 1) := by decide +kernel
theorem d_Ct_used_16 : decode b_Ct_used 16 = .ok (.iconst 1, 1) := by decide +kernel
theorem d_Ct_used_17 : decode b_Ct_used 17 = .ok (.sipush 1000, 3) := by decide +kernel
theorem d_Ct_used_20 : decode b_Ct_used 20 = .ok (.invokestatic 68, 3) := by decide +kernel
theorem d_Ct_used_23 : decode b_Ct_used 23 = .ok (.ifCond .ne 13, 3) := by decide +kernel
theorem d_Ct_used_26 : decode b_Ct_used 26 = .ok (.new 76, 3) := by decide +kernel
theorem d_Ct_used_29 : decode b_Ct_used 29 = .ok (.dup, 1) := by decide +kernel
theorem d_Ct_used_30 : decode b_Ct_used 30 = .ok (.ldc 155, 2) := by decide +kernel
theorem d_Ct_used_32 : decode b_Ct_used 32 = .ok (.invokespecial 80, 3) := by decide +kernel
theorem d_Ct_used_35 : decode b_Ct_used 35 = .ok (.athrow, 1) := by decide +kernel
theorem d_Ct_used_36 : decode b_Ct_used 36 = .ok (.aload_n 0, 1) := by decide +kernel
theorem d_Ct_used_37 : decode b_Ct_used 37 = .ok (.getfield 18, 3) := by decide +kernel
theorem d_Ct_used_40 : decode b_Ct_used 40 = .ok (.iload_n 1, 1) := by decide +kernel
theorem d_Ct_used_41 : decode b_Ct_used 41 = .ok (.aaload, 1) := by decide +kernel
theorem d_Ct_used_42 : decode b_Ct_used 42 = .ok (.astore 4, 2) := by decide +kernel
theorem d_Ct_used_44 : decode b_Ct_used 44 = .ok (.iload_n 2, 1) := by decide +kernel
theorem d_Ct_used_45 : decode b_Ct_used 45 = .ok (.aload 4, 2) := by decide +kernel
theorem d_Ct_used_47 : decode b_Ct_used 47 = .ok (.getfield 157, 3) := by decide +kernel
theorem d_Ct_used_50 : decode b_Ct_used 50 = .ok (.if_icmp .ge 13, 3) := by decide +kernel
theorem d_Ct_used_53 : decode b_Ct_used 53 = .ok (.new 76, 3) := by decide +kernel
theorem d_Ct_used_56 : decode b_Ct_used 56 = .ok (.dup, 1) := by decide +kernel
theorem d_Ct_used_57 : decode b_Ct_used 57 = .ok (.ldc 160, 2) := by decide +kernel
theorem d_Ct_used_59 : decode b_Ct_used 59 = .ok (.invokespecial 80, 3) := by decide +kernel
theorem d_Ct_used_62 : decode b_Ct_used 62 = .ok (.athrow, 1) := by decide +kernel
theorem d_Ct_used_63 : decode b_Ct_used 63 = .ok (.aload 4, 2) := by decide +kernel
theorem d_Ct_used_65 : decode b_Ct_used 65 = .ok (.iload_n 2, 1) := by decide +kernel
theorem d_Ct_used_66 : decode b_Ct_used 66 = .ok (.iload_n 3, 1) := by decide +kernel
theorem d_Ct_used_67 : decode b_Ct_used 67 = .ok (.invokevirtual 162, 3) := by decide +kernel
theorem d_Ct_used_70 : decode b_Ct_used 70 = .ok (.aload 4, 2) := by decide +kernel
theorem d_Ct_used_72 : decode b_Ct_used 72 = .ok (.getfield 166, 3) := by decide +kernel
theorem d_Ct_used_75 : decode b_Ct_used 75 = .ok (.ireturn, 1) := by decide +kernel
theorem d_Ct_stock_0 : decode b_Ct_stock 0 = .ok (.iload_n 1, 1) := by decide +kernel
theorem d_Ct_stock_1 : decode b_Ct_stock 1 = .ok (.invokestatic 125, 3) := by decide +kernel
theorem d_Ct_stock_4 : decode b_Ct_stock 4 = .ok (.ifCond .eq 14, 3) := by decide +kernel
theorem d_Ct_stock_7 : decode b_Ct_stock 7 = .ok (.iload_n 2, 1) := by decide +kernel
theorem d_Ct_stock_8 : decode b_Ct_stock 8 = .ok (.iconst 1, 1) := by decide +kernel
theorem d_Ct_stock_9 : decode b_Ct_stock 9 = .ok (.sipush 1000, 3) := by decide +kernel
theorem d_Ct_stock_12 : decode b_Ct_stock 12 = .ok (.invokestatic 68, 3) := by decide +kernel
theorem d_Ct_stock_15 : decode b_Ct_stock 15 = .ok (.ifCond .ne 13, 3) := by decide +kernel
theorem d_Ct_stock_18 : decode b_Ct_stock 18 = .ok (.new 76, 3) := by decide +kernel
theorem d_Ct_stock_21 : decode b_Ct_stock 21 = .ok (.dup, 1) := by decide +kernel
theorem d_Ct_stock_22 : decode b_Ct_stock 22 = .ok (.ldc 169, 2) := by decide +kernel
theorem d_Ct_stock_24 : decode b_Ct_stock 24 = .ok (.invokespecial 80, 3) := by decide +kernel
theorem d_Ct_stock_27 : decode b_Ct_stock 27 = .ok (.athrow, 1) := by decide +kernel
theorem d_Ct_stock_28 : decode b_Ct_stock 28 = .ok (.aload_n 0, 1) := by decide +kernel
theorem d_Ct_stock_29 : decode b_Ct_stock 29 = .ok (.getfield 31, 3) := by decide +kernel
theorem d_Ct_stock_32 : decode b_Ct_stock 32 = .ok (.iload_n 1, 1) := by decide +kernel
theorem d_Ct_stock_33 : decode b_Ct_stock 33 = .ok (.dup2, 1) := by decide +kernel
theorem d_Ct_stock_34 : decode b_Ct_stock 34 = .ok (.iaload, 1) := by decide +kernel
theorem d_Ct_stock_35 : decode b_Ct_stock 35 = .ok (.iload_n 2, 1) := by decide +kernel
theorem d_Ct_stock_36 : decode b_Ct_stock 36 = .ok (.iadd, 1) := by decide +kernel
theorem d_Ct_stock_37 : decode b_Ct_stock 37 = .ok (.iastore, 1) := by decide +kernel
theorem d_Ct_stock_38 : decode b_Ct_stock 38 = .ok (.aload_n 0, 1) := by decide +kernel
theorem d_Ct_stock_39 : decode b_Ct_stock 39 = .ok (.getfield 31, 3) := by decide +kernel
theorem d_Ct_stock_42 : decode b_Ct_stock 42 = .ok (.iload_n 1, 1) := by decide +kernel
theorem d_Ct_stock_43 : decode b_Ct_stock 43 = .ok (.iaload, 1) := by decide +kernel
theorem d_Ct_stock_44 : decode b_Ct_stock 44 = .ok (.ireturn, 1) := by decide +kernel
theorem d_Ct_walk_0 : decode b_Ct_walk 0 = .ok (.aload_n 0, 1) := by decide +kernel
theorem d_Ct_walk_1 : decode b_Ct_walk 1 = .ok (.getfield 10, 3) := by decide +kernel
theorem d_Ct_walk_4 : decode b_Ct_walk 4 = .ok (.iload_n 1, 1) := by decide +kernel
theorem d_Ct_walk_5 : decode b_Ct_walk 5 = .ok (.invokevirtual 121, 3) := by decide +kernel
theorem d_Ct_walk_8 : decode b_Ct_walk 8 = .ok (.ifCond .eq 14, 3) := by decide +kernel
theorem d_Ct_walk_11 : decode b_Ct_walk 11 = .ok (.aload_n 0, 1) := by decide +kernel
theorem d_Ct_walk_12 : decode b_Ct_walk 12 = .ok (.getfield 10, 3) := by decide +kernel
theorem d_Ct_walk_15 : decode b_Ct_walk 15 = .ok (.iload_n 2, 1) := by decide +kernel
theorem d_Ct_walk_16 : decode b_Ct_walk 16 = .ok (.invokevirtual 121, 3) := by decide +kernel
theorem d_Ct_walk_19 : decode b_Ct_walk 19 = .ok (.ifCond .ne 13, 3) := by decide +kernel
theorem d_Ct_walk_22 : decode b_Ct_walk 22 = .ok (.new 76, 3) := by decide +kernel
theorem d_Ct_walk_25 : decode b_Ct_walk 25 = .ok (.dup, 1) := by decide +kernel
theorem d_Ct_walk_26 : decode b_Ct_walk 26 = .ok (.ldc 171, 2) := by decide +kernel
theorem d_Ct_walk_28 : decode b_Ct_walk 28 = .ok (.invokespecial 80, 3) := by decide +kernel
theorem d_Ct_walk_31 : decode b_Ct_walk 31 = .ok (.athrow, 1) := by decide +kernel
theorem d_Ct_walk_32 : decode b_Ct_walk 32 = .ok (.aload_n 0, 1) := by decide +kernel
theorem d_Ct_walk_33 : decode b_Ct_walk 33 = .ok (.getfield 10, 3) := by decide +kernel
theorem d_Ct_walk_36 : decode b_Ct_walk 36 = .ok (.aload_n 0, 1) := by decide +kernel
theorem d_Ct_walk_37 : decode b_Ct_walk 37 = .ok (.getfield 10, 3) := by decide +kernel
theorem d_Ct_walk_40 : decode b_Ct_walk 40 = .ok (.getfield 134, 3) := by decide +kernel
theorem d_Ct_walk_43 : decode b_Ct_walk 43 = .ok (.iload_n 1, 1) := by decide +kernel
theorem d_Ct_walk_44 : decode b_Ct_walk 44 = .ok (.aaload, 1) := by decide +kernel
theorem d_Ct_walk_45 : decode b_Ct_walk 45 = .ok (.aload_n 0, 1) := by decide +kernel
theorem d_Ct_walk_46 : decode b_Ct_walk 46 = .ok (.getfield 10, 3) := by decide +kernel
theorem d_Ct_walk_49 : decode b_Ct_walk 49 = .ok (.getfield 134, 3) := by decide +kernel
theorem d_Ct_walk_52 : decode b_Ct_walk 52 = .ok (.iload_n 2, 1) := by decide +kernel
theorem d_Ct_walk_53 : decode b_Ct_walk 53 = .ok (.aaload, 1) := by decide +kernel
theorem d_Ct_walk_54 : decode b_Ct_walk 54 = .ok (.invokevirtual 173, 3) := by decide +kernel
theorem d_Ct_walk_57 : decode b_Ct_walk 57 = .ok (.ireturn, 1) := by decide +kernel
theorem d_Ct_tour_0 : decode b_Ct_tour 0 = .ok (.iload_n 1, 1) := by decide +kernel
theorem d_Ct_tour_1 : decode b_Ct_tour 1 = .ok (.iconst 0, 1) := by decide +kernel
theorem d_Ct_tour_2 : decode b_Ct_tour 2 = .ok (.aload_n 0, 1) := by decide +kernel
theorem d_Ct_tour_3 : decode b_Ct_tour 3 = .ok (.getfield 53, 3) := by decide +kernel
theorem d_Ct_tour_6 : decode b_Ct_tour 6 = .ok (.iconst 1, 1) := by decide +kernel
theorem d_Ct_tour_7 : decode b_Ct_tour 7 = .ok (.isub, 1) := by decide +kernel
theorem d_Ct_tour_8 : decode b_Ct_tour 8 = .ok (.invokestatic 68, 3) := by decide +kernel
theorem d_Ct_tour_11 : decode b_Ct_tour 11 = .ok (.ifCond .eq 10, 3) := by decide +kernel
theorem d_Ct_tour_14 : decode b_Ct_tour 14 = .ok (.iload_n 2, 1) := by decide +kernel
theorem d_Ct_tour_15 : decode b_Ct_tour 15 = .ok (.invokestatic 152, 3) := by decide +kernel
theorem d_Ct_tour_18 : decode b_Ct_tour 18 = .ok (.ifCond .ne 13, 3) := by decide +kernel
theorem d_Ct_tour_21 : decode b_Ct_tour 21 = .ok (.new 76, 3) := by decide +kernel
theorem d_Ct_tour_24 : decode b_Ct_tour 24 = .ok (.dup, 1) := by decide +kernel
theorem d_Ct_tour_25 : decode b_Ct_tour 25 = .ok (.ldc 177, 2) := by decide +kernel
theorem d_Ct_tour_27 : decode b_Ct_tour 27 = .ok (.invokespecial 80, 3) := by decide +kernel
theorem d_Ct_tour_30 : decode b_Ct_tour 30 = .ok (.athrow, 1) := by decide +kernel
theorem d_Ct_tour_31 : decode b_Ct_tour 31 = .ok (.aload_n 0, 1) := by decide +kernel
theorem d_Ct_tour_32 : decode b_Ct_tour 32 = .ok (.getfield 27, 3) := by decide +kernel
theorem d_Ct_tour_35 : decode b_Ct_tour 35 = .ok (.iload_n 1, 1) := by decide +kernel
theorem d_Ct_tour_36 : decode b_Ct_tour 36 = .ok (.aaload, 1) := by decide +kernel
theorem d_Ct_tour_37 : decode b_Ct_tour 37 = .ok (.astore_n 3, 1) := by decide +kernel
theorem d_Ct_tour_38 : decode b_Ct_tour 38 = .ok (.aload_n 0, 1) := by decide +kernel
theorem d_Ct_tour_39 : decode b_Ct_tour 39 = .ok (.aload_n 3, 1) := by decide +kernel
theorem d_Ct_tour_40 : decode b_Ct_tour 40 = .ok (.iload_n 2, 1) := by decide +kernel
theorem d_Ct_tour_41 : decode b_Ct_tour 41 = .ok (.invokevirtual 179, 3) := by decide +kernel
theorem d_Ct_tour_44 : decode b_Ct_tour 44 = .ok (.aload_n 0, 1) := by decide +kernel
theorem d_Ct_tour_45 : decode b_Ct_tour 45 = .ok (.getfield 38, 3) := by decide +kernel
theorem d_Ct_tour_48 : decode b_Ct_tour 48 = .ok (.aload_n 0, 1) := by decide +kernel
theorem d_Ct_tour_49 : decode b_Ct_tour 49 = .ok (.getfield 10, 3) := by decide +kernel
theorem d_Ct_tour_52 : decode b_Ct_tour 52 = .ok (.aload_n 3, 1) := by decide +kernel
theorem d_Ct_tour_53 : decode b_Ct_tour 53 = .ok (.getfield 183, 3) := by decide +kernel
theorem d_Ct_tour_56 : decode b_Ct_tour 56 = .ok (.invokevirtual 187, 3) := by decide +kernel
theorem d_Ct_tour_59 : decode b_Ct_tour 59 = .ok (.aload_n 0, 1) := by decide +kernel
theorem d_Ct_tour_60 : decode b_Ct_tour 60 = .ok (.getfield 38, 3) := by decide +kernel
theorem d_Ct_tour_63 : decode b_Ct_tour 63 = .ok (.invokevirtual 191, 3) := by decide +kernel
theorem d_Ct_tour_66 : decode b_Ct_tour 66 = .ok (.aload_n 0, 1) := by decide +kernel
theorem d_Ct_tour_67 : decode b_Ct_tour 67 = .ok (.getfield 45, 3) := by decide +kernel
theorem d_Ct_tour_70 : decode b_Ct_tour 70 = .ok (.aload_n 3, 1) := by decide +kernel
theorem d_Ct_tour_71 : decode b_Ct_tour 71 = .ok (.iload_n 2, 1) := by decide +kernel
theorem d_Ct_tour_72 : decode b_Ct_tour 72 = .ok (.invokevirtual 194, 3) := by decide +kernel
theorem d_Ct_tour_75 : decode b_Ct_tour 75 = .ok (.aload_n 0, 1) := by decide +kernel
theorem d_Ct_tour_76 : decode b_Ct_tour 76 = .ok (.getfield 38, 3) := by decide +kernel
theorem d_Ct_tour_79 : decode b_Ct_tour 79 = .ok (.aload_n 0, 1) := by decide +kernel
theorem d_Ct_tour_80 : decode b_Ct_tour 80 = .ok (.getfield 45, 3) := by decide +kernel
theorem d_Ct_tour_83 : decode b_Ct_tour 83 = .ok (.aload_n 0, 1) := by decide +kernel
theorem d_Ct_tour_84 : decode b_Ct_tour 84 = .ok (.getfield 38, 3) := by decide +kernel
theorem d_Ct_tour_87 : decode b_Ct_tour 87 = .ok (.aload_n 3, 1) := by decide +kernel
theorem d_Ct_tour_88 : decode b_Ct_tour 88 = .ok (.getfield 197, 3) := by decide +kernel
theorem d_Ct_tour_91 : decode b_Ct_tour 91 = .ok (.invokevirtual 200, 3) := by decide +kernel
theorem d_Ct_tour_94 : decode b_Ct_tour 94 = .ok (.invokevirtual 204, 3) := by decide +kernel
theorem d_Ct_tour_97 : decode b_Ct_tour 97 = .ok (.aload_n 0, 1) := by decide +kernel
theorem d_Ct_tour_98 : decode b_Ct_tour 98 = .ok (.getfield 45, 3) := by decide +kernel
theorem d_Ct_tour_101 : decode b_Ct_tour 101 = .ok (.getfield 208, 3) := by decide +kernel
theorem d_Ct_tour_104 : decode b_Ct_tour 104 = .ok (.ireturn, 1) := by decide +kernel
theorem d_Ct_stop_0 : decode b_Ct_stop 0 = .ok (.iload_n 1, 1) := by decide +kernel
theorem d_Ct_stop_1 : decode b_Ct_stop 1 = .ok (.iconst 0, 1) := by decide +kernel
theorem d_Ct_stop_2 : decode b_Ct_stop 2 = .ok (.aload_n 0, 1) := by decide +kernel
theorem d_Ct_stop_3 : decode b_Ct_stop 3 = .ok (.getfield 45, 3) := by decide +kernel
theorem d_Ct_stop_6 : decode b_Ct_stop 6 = .ok (.getfield 208, 3) := by decide +kernel
theorem d_Ct_stop_9 : decode b_Ct_stop 9 = .ok (.iconst 1, 1) := by decide +kernel
theorem d_Ct_stop_10 : decode b_Ct_stop 10 = .ok (.isub, 1) := by decide +kernel
theorem d_Ct_stop_11 : decode b_Ct_stop 11 = .ok (.invokestatic 68, 3) := by decide +kernel
theorem d_Ct_stop_14 : decode b_Ct_stop 14 = .ok (.ifCond .ne 13, 3) := by decide +kernel
theorem d_Ct_stop_17 : decode b_Ct_stop 17 = .ok (.new 76, 3) := by decide +kernel
theorem d_Ct_stop_20 : decode b_Ct_stop 20 = .ok (.dup, 1) := by decide +kernel
theorem d_Ct_stop_21 : decode b_Ct_stop 21 = .ok (.ldc 211, 2) := by decide +kernel
theorem d_Ct_stop_23 : decode b_Ct_stop 23 = .ok (.invokespecial 80, 3) := by decide +kernel
theorem d_Ct_stop_26 : decode b_Ct_stop 26 = .ok (.athrow, 1) := by decide +kernel
theorem d_Ct_stop_27 : decode b_Ct_stop 27 = .ok (.aload_n 0, 1) := by decide +kernel
theorem d_Ct_stop_28 : decode b_Ct_stop 28 = .ok (.getfield 45, 3) := by decide +kernel
theorem d_Ct_stop_31 : decode b_Ct_stop 31 = .ok (.getfield 213, 3) := by decide +kernel
theorem d_Ct_stop_34 : decode b_Ct_stop 34 = .ok (.iload_n 1, 1) := by decide +kernel
theorem d_Ct_stop_35 : decode b_Ct_stop 35 = .ok (.aaload, 1) := by decide +kernel
theorem d_Ct_stop_36 : decode b_Ct_stop 36 = .ok (.getfield 216, 3) := by decide +kernel
theorem d_Ct_stop_39 : decode b_Ct_stop 39 = .ok (.ireturn, 1) := by decide +kernel
theorem d_Ct_told_0 : decode b_Ct_told 0 = .ok (.iload_n 1, 1) := by decide +kernel
theorem d_Ct_told_1 : decode b_Ct_told 1 = .ok (.tableswitch 92 0 4 #[35, 43, 51, 59, 67], 35) := by decide +kernel
theorem d_Ct_told_36 : decode b_Ct_told 36 = .ok (.aload_n 0, 1) := by decide +kernel
theorem d_Ct_told_37 : decode b_Ct_told 37 = .ok (.getfield 45, 3) := by decide +kernel
theorem d_Ct_told_40 : decode b_Ct_told 40 = .ok (.getfield 208, 3) := by decide +kernel
theorem d_Ct_told_43 : decode b_Ct_told 43 = .ok (.ireturn, 1) := by decide +kernel
theorem d_Ct_told_44 : decode b_Ct_told 44 = .ok (.aload_n 0, 1) := by decide +kernel
theorem d_Ct_told_45 : decode b_Ct_told 45 = .ok (.getfield 45, 3) := by decide +kernel
theorem d_Ct_told_48 : decode b_Ct_told 48 = .ok (.getfield 219, 3) := by decide +kernel
theorem d_Ct_told_51 : decode b_Ct_told 51 = .ok (.ireturn, 1) := by decide +kernel
theorem d_Ct_told_52 : decode b_Ct_told 52 = .ok (.aload_n 0, 1) := by decide +kernel
theorem d_Ct_told_53 : decode b_Ct_told 53 = .ok (.getfield 45, 3) := by decide +kernel
theorem d_Ct_told_56 : decode b_Ct_told 56 = .ok (.getfield 222, 3) := by decide +kernel
theorem d_Ct_told_59 : decode b_Ct_told 59 = .ok (.ireturn, 1) := by decide +kernel
theorem d_Ct_told_60 : decode b_Ct_told 60 = .ok (.aload_n 0, 1) := by decide +kernel
theorem d_Ct_told_61 : decode b_Ct_told 61 = .ok (.getfield 45, 3) := by decide +kernel
theorem d_Ct_told_64 : decode b_Ct_told 64 = .ok (.getfield 225, 3) := by decide +kernel
theorem d_Ct_told_67 : decode b_Ct_told 67 = .ok (.ireturn, 1) := by decide +kernel
theorem d_Ct_told_68 : decode b_Ct_told 68 = .ok (.aload_n 0, 1) := by decide +kernel
theorem d_Ct_told_69 : decode b_Ct_told 69 = .ok (.getfield 45, 3) := by decide +kernel
theorem d_Ct_told_72 : decode b_Ct_told 72 = .ok (.getfield 228, 3) := by decide +kernel
theorem d_Ct_told_75 : decode b_Ct_told 75 = .ok (.ifnonnull 7, 3) := by decide +kernel
theorem d_Ct_told_78 : decode b_Ct_told 78 = .ok (.iconst (-1), 1) := by decide +kernel
theorem d_Ct_told_79 : decode b_Ct_told 79 = .ok (.goto 13, 3) := by decide +kernel
theorem d_Ct_told_82 : decode b_Ct_told 82 = .ok (.aload_n 0, 1) := by decide +kernel
theorem d_Ct_told_83 : decode b_Ct_told 83 = .ok (.getfield 45, 3) := by decide +kernel
theorem d_Ct_told_86 : decode b_Ct_told 86 = .ok (.getfield 228, 3) := by decide +kernel
theorem d_Ct_told_89 : decode b_Ct_told 89 = .ok (.getfield 232, 3) := by decide +kernel
theorem d_Ct_told_92 : decode b_Ct_told 92 = .ok (.ireturn, 1) := by decide +kernel
theorem d_Ct_told_93 : decode b_Ct_told 93 = .ok (.new 76, 3) := by decide +kernel
theorem d_Ct_told_96 : decode b_Ct_told 96 = .ok (.dup, 1) := by decide +kernel
theorem d_Ct_told_97 : decode b_Ct_told 97 = .ok (.ldc 233, 2) := by decide +kernel
theorem d_Ct_told_99 : decode b_Ct_told 99 = .ok (.invokespecial 80, 3) := by decide +kernel
theorem d_Ct_told_102 : decode b_Ct_told 102 = .ok (.athrow, 1) := by decide +kernel
theorem d_Ct_put_0 : decode b_Ct_put 0 = .ok (.aload_n 0, 1) := by decide +kernel
theorem d_Ct_put_1 : decode b_Ct_put 1 = .ok (.iload_n 1, 1) := by decide +kernel
theorem d_Ct_put_2 : decode b_Ct_put 2 = .ok (.invokevirtual 149, 3) := by decide +kernel
theorem d_Ct_put_5 : decode b_Ct_put 5 = .ok (.ifCond .ne 13, 3) := by decide +kernel
theorem d_Ct_put_8 : decode b_Ct_put 8 = .ok (.new 76, 3) := by decide +kernel
theorem d_Ct_put_11 : decode b_Ct_put 11 = .ok (.dup, 1) := by decide +kernel
theorem d_Ct_put_12 : decode b_Ct_put 12 = .ok (.ldc 235, 2) := by decide +kernel
theorem d_Ct_put_14 : decode b_Ct_put 14 = .ok (.invokespecial 80, 3) := by decide +kernel
theorem d_Ct_put_17 : decode b_Ct_put 17 = .ok (.athrow, 1) := by decide +kernel
theorem d_Ct_put_18 : decode b_Ct_put 18 = .ok (.aload_n 0, 1) := by decide +kernel
theorem d_Ct_put_19 : decode b_Ct_put 19 = .ok (.getfield 18, 3) := by decide +kernel
theorem d_Ct_put_22 : decode b_Ct_put 22 = .ok (.iload_n 1, 1) := by decide +kernel
theorem d_Ct_put_23 : decode b_Ct_put 23 = .ok (.aaload, 1) := by decide +kernel
theorem d_Ct_put_24 : decode b_Ct_put 24 = .ok (.astore_n 2, 1) := by decide +kernel
theorem d_Ct_put_25 : decode b_Ct_put 25 = .ok (.aload_n 0, 1) := by decide +kernel
theorem d_Ct_put_26 : decode b_Ct_put 26 = .ok (.getfield 45, 3) := by decide +kernel
theorem d_Ct_put_29 : decode b_Ct_put 29 = .ok (.getfield 228, 3) := by decide +kernel
theorem d_Ct_put_32 : decode b_Ct_put 32 = .ok (.ifnull 20, 3) := by decide +kernel
theorem d_Ct_put_35 : decode b_Ct_put 35 = .ok (.aload_n 0, 1) := by decide +kernel
theorem d_Ct_put_36 : decode b_Ct_put 36 = .ok (.getfield 45, 3) := by decide +kernel
theorem d_Ct_put_39 : decode b_Ct_put 39 = .ok (.getfield 228, 3) := by decide +kernel
theorem d_Ct_put_42 : decode b_Ct_put 42 = .ok (.aload_n 2, 1) := by decide +kernel
theorem d_Ct_put_43 : decode b_Ct_put 43 = .ok (.getfield 237, 3) := by decide +kernel
theorem d_Ct_put_46 : decode b_Ct_put 46 = .ok (.invokevirtual 240, 3) := by decide +kernel
theorem d_Ct_put_49 : decode b_Ct_put 49 = .ok (.ifCond .ne 13, 3) := by decide +kernel
theorem d_Ct_put_52 : decode b_Ct_put 52 = .ok (.new 86, 3) := by decide +kernel
theorem d_Ct_put_55 : decode b_Ct_put 55 = .ok (.dup, 1) := by decide +kernel
theorem d_Ct_put_56 : decode b_Ct_put 56 = .ok (.ldc 243, 2) := by decide +kernel
theorem d_Ct_put_58 : decode b_Ct_put 58 = .ok (.invokespecial 90, 3) := by decide +kernel
theorem d_Ct_put_61 : decode b_Ct_put 61 = .ok (.athrow, 1) := by decide +kernel
theorem d_Ct_put_62 : decode b_Ct_put 62 = .ok (.aload_n 0, 1) := by decide +kernel
theorem d_Ct_put_63 : decode b_Ct_put 63 = .ok (.getfield 45, 3) := by decide +kernel
theorem d_Ct_put_66 : decode b_Ct_put 66 = .ok (.getfield 208, 3) := by decide +kernel
theorem d_Ct_put_69 : decode b_Ct_put 69 = .ok (.bipush 20, 2) := by decide +kernel
theorem d_Ct_put_71 : decode b_Ct_put 71 = .ok (.if_icmp .ge 14, 3) := by decide +kernel
theorem d_Ct_put_74 : decode b_Ct_put 74 = .ok (.aload_n 0, 1) := by decide +kernel
theorem d_Ct_put_75 : decode b_Ct_put 75 = .ok (.getfield 45, 3) := by decide +kernel
theorem d_Ct_put_78 : decode b_Ct_put 78 = .ok (.aload_n 2, 1) := by decide +kernel
theorem d_Ct_put_79 : decode b_Ct_put 79 = .ok (.invokevirtual 245, 3) := by decide +kernel
theorem d_Ct_put_82 : decode b_Ct_put 82 = .ok (.ifCond .eq 13, 3) := by decide +kernel
theorem d_Ct_put_85 : decode b_Ct_put 85 = .ok (.new 86, 3) := by decide +kernel
theorem d_Ct_put_88 : decode b_Ct_put 88 = .ok (.dup, 1) := by decide +kernel
theorem d_Ct_put_89 : decode b_Ct_put 89 = .ok (.ldc 249, 2) := by decide +kernel
theorem d_Ct_put_91 : decode b_Ct_put 91 = .ok (.invokespecial 90, 3) := by decide +kernel
theorem d_Ct_put_94 : decode b_Ct_put 94 = .ok (.athrow, 1) := by decide +kernel
theorem d_Ct_put_95 : decode b_Ct_put 95 = .ok (.aload_n 0, 1) := by decide +kernel
theorem d_Ct_put_96 : decode b_Ct_put 96 = .ok (.getfield 45, 3) := by decide +kernel
theorem d_Ct_put_99 : decode b_Ct_put 99 = .ok (.aload_n 0, 1) := by decide +kernel
theorem d_Ct_put_100 : decode b_Ct_put 100 = .ok (.getfield 10, 3) := by decide +kernel
theorem d_Ct_put_103 : decode b_Ct_put 103 = .ok (.aload_n 2, 1) := by decide +kernel
theorem d_Ct_put_104 : decode b_Ct_put 104 = .ok (.getfield 251, 3) := by decide +kernel
theorem d_Ct_put_107 : decode b_Ct_put 107 = .ok (.invokevirtual 254, 3) := by decide +kernel
theorem d_Ct_put_110 : decode b_Ct_put 110 = .ok (.istore_n 3, 1) := by decide +kernel
theorem d_Ct_put_111 : decode b_Ct_put 111 = .ok (.iload_n 3, 1) := by decide +kernel
theorem d_Ct_put_112 : decode b_Ct_put 112 = .ok (.iconst (-1), 1) := by decide +kernel
theorem d_Ct_put_113 : decode b_Ct_put 113 = .ok (.if_icmp .ne 6, 3) := by decide +kernel
theorem d_Ct_put_116 : decode b_Ct_put 116 = .ok (.bipush (-2), 2) := by decide +kernel
theorem d_Ct_put_118 : decode b_Ct_put 118 = .ok (.ireturn, 1) := by decide +kernel
theorem d_Ct_put_119 : decode b_Ct_put 119 = .ok (.aload_n 0, 1) := by decide +kernel
theorem d_Ct_put_120 : decode b_Ct_put 120 = .ok (.getfield 45, 3) := by decide +kernel
theorem d_Ct_put_123 : decode b_Ct_put 123 = .ok (.aload_n 0, 1) := by decide +kernel
theorem d_Ct_put_124 : decode b_Ct_put 124 = .ok (.getfield 10, 3) := by decide +kernel
theorem d_Ct_put_127 : decode b_Ct_put 127 = .ok (.aload_n 2, 1) := by decide +kernel
theorem d_Ct_put_128 : decode b_Ct_put 128 = .ok (.getfield 251, 3) := by decide +kernel
theorem d_Ct_put_131 : decode b_Ct_put 131 = .ok (.iload_n 3, 1) := by decide +kernel
theorem d_Ct_put_132 : decode b_Ct_put 132 = .ok (.invokevirtual 258, 3) := by decide +kernel
theorem d_Ct_put_135 : decode b_Ct_put 135 = .ok (.istore 4, 2) := by decide +kernel
theorem d_Ct_put_137 : decode b_Ct_put 137 = .ok (.aload_n 0, 1) := by decide +kernel
theorem d_Ct_put_138 : decode b_Ct_put 138 = .ok (.getfield 45, 3) := by decide +kernel
theorem d_Ct_put_141 : decode b_Ct_put 141 = .ok (.aload_n 2, 1) := by decide +kernel
theorem d_Ct_put_142 : decode b_Ct_put 142 = .ok (.iload_n 3, 1) := by decide +kernel
theorem d_Ct_put_143 : decode b_Ct_put 143 = .ok (.iload 4, 2) := by decide +kernel
theorem d_Ct_put_145 : decode b_Ct_put 145 = .ok (.invokevirtual 262, 3) := by decide +kernel
theorem d_Ct_put_148 : decode b_Ct_put 148 = .ok (.iload 4, 2) := by decide +kernel
theorem d_Ct_put_150 : decode b_Ct_put 150 = .ok (.ireturn, 1) := by decide +kernel
theorem d_Ct_done_0 : decode b_Ct_done 0 = .ok (.aload_n 0, 1) := by decide +kernel
theorem d_Ct_done_1 : decode b_Ct_done 1 = .ok (.getfield 45, 3) := by decide +kernel
theorem d_Ct_done_4 : decode b_Ct_done 4 = .ok (.getfield 225, 3) := by decide +kernel
theorem d_Ct_done_7 : decode b_Ct_done 7 = .ok (.aload_n 0, 1) := by decide +kernel
theorem d_Ct_done_8 : decode b_Ct_done 8 = .ok (.getfield 45, 3) := by decide +kernel
theorem d_Ct_done_11 : decode b_Ct_done 11 = .ok (.getfield 208, 3) := by decide +kernel
theorem d_Ct_done_14 : decode b_Ct_done 14 = .ok (.if_icmp .lt 14, 3) := by decide +kernel
theorem d_Ct_done_17 : decode b_Ct_done 17 = .ok (.new 86, 3) := by decide +kernel
theorem d_Ct_done_20 : decode b_Ct_done 20 = .ok (.dup, 1) := by decide +kernel
theorem d_Ct_done_21 : decode b_Ct_done 21 = .ok (.ldc_w 266, 3) := by decide +kernel
theorem d_Ct_done_24 : decode b_Ct_done 24 = .ok (.invokespecial 90, 3) := by decide +kernel
theorem d_Ct_done_27 : decode b_Ct_done 27 = .ok (.athrow, 1) := by decide +kernel
theorem d_Ct_done_28 : decode b_Ct_done 28 = .ok (.aload_n 0, 1) := by decide +kernel
theorem d_Ct_done_29 : decode b_Ct_done 29 = .ok (.getfield 45, 3) := by decide +kernel
theorem d_Ct_done_32 : decode b_Ct_done 32 = .ok (.getfield 213, 3) := by decide +kernel
theorem d_Ct_done_35 : decode b_Ct_done 35 = .ok (.aload_n 0, 1) := by decide +kernel
theorem d_Ct_done_36 : decode b_Ct_done 36 = .ok (.getfield 45, 3) := by decide +kernel
theorem d_Ct_done_39 : decode b_Ct_done 39 = .ok (.getfield 225, 3) := by decide +kernel
theorem d_Ct_done_42 : decode b_Ct_done 42 = .ok (.aaload, 1) := by decide +kernel
theorem d_Ct_done_43 : decode b_Ct_done 43 = .ok (.astore_n 1, 1) := by decide +kernel
theorem d_Ct_done_44 : decode b_Ct_done 44 = .ok (.aload_n 0, 1) := by decide +kernel
theorem d_Ct_done_45 : decode b_Ct_done 45 = .ok (.getfield 31, 3) := by decide +kernel
theorem d_Ct_done_48 : decode b_Ct_done 48 = .ok (.aload_n 1, 1) := by decide +kernel
theorem d_Ct_done_49 : decode b_Ct_done 49 = .ok (.getfield 268, 3) := by decide +kernel
theorem d_Ct_done_52 : decode b_Ct_done 52 = .ok (.iaload, 1) := by decide +kernel
theorem d_Ct_done_53 : decode b_Ct_done 53 = .ok (.ifCond .gt 6, 3) := by decide +kernel
theorem d_Ct_done_56 : decode b_Ct_done 56 = .ok (.bipush (-2), 2) := by decide +kernel
theorem d_Ct_done_58 : decode b_Ct_done 58 = .ok (.ireturn, 1) := by decide +kernel
theorem d_Ct_done_59 : decode b_Ct_done 59 = .ok (.aload_n 0, 1) := by decide +kernel
theorem d_Ct_done_60 : decode b_Ct_done 60 = .ok (.getfield 31, 3) := by decide +kernel
theorem d_Ct_done_63 : decode b_Ct_done 63 = .ok (.aload_n 1, 1) := by decide +kernel
theorem d_Ct_done_64 : decode b_Ct_done 64 = .ok (.getfield 268, 3) := by decide +kernel
theorem d_Ct_done_67 : decode b_Ct_done 67 = .ok (.dup2, 1) := by decide +kernel
theorem d_Ct_done_68 : decode b_Ct_done 68 = .ok (.iaload, 1) := by decide +kernel
theorem d_Ct_done_69 : decode b_Ct_done 69 = .ok (.iconst 1, 1) := by decide +kernel
theorem d_Ct_done_70 : decode b_Ct_done 70 = .ok (.isub, 1) := by decide +kernel
theorem d_Ct_done_71 : decode b_Ct_done 71 = .ok (.iastore, 1) := by decide +kernel
theorem d_Ct_done_72 : decode b_Ct_done 72 = .ok (.aload_n 1, 1) := by decide +kernel
theorem d_Ct_done_73 : decode b_Ct_done 73 = .ok (.aload_n 0, 1) := by decide +kernel
theorem d_Ct_done_74 : decode b_Ct_done 74 = .ok (.getfield 45, 3) := by decide +kernel
theorem d_Ct_done_77 : decode b_Ct_done 77 = .ok (.getfield 271, 3) := by decide +kernel
theorem d_Ct_done_80 : decode b_Ct_done 80 = .ok (.invokevirtual 274, 3) := by decide +kernel
theorem d_Ct_done_83 : decode b_Ct_done 83 = .ok (.aload_n 0, 1) := by decide +kernel
theorem d_Ct_done_84 : decode b_Ct_done 84 = .ok (.getfield 45, 3) := by decide +kernel
theorem d_Ct_done_87 : decode b_Ct_done 87 = .ok (.dup, 1) := by decide +kernel
theorem d_Ct_done_88 : decode b_Ct_done 88 = .ok (.getfield 225, 3) := by decide +kernel
theorem d_Ct_done_91 : decode b_Ct_done 91 = .ok (.iconst 1, 1) := by decide +kernel
theorem d_Ct_done_92 : decode b_Ct_done 92 = .ok (.iadd, 1) := by decide +kernel
theorem d_Ct_done_93 : decode b_Ct_done 93 = .ok (.putfield 225, 3) := by decide +kernel
theorem d_Ct_done_96 : decode b_Ct_done 96 = .ok (.aload_n 1, 1) := by decide +kernel
theorem d_Ct_done_97 : decode b_Ct_done 97 = .ok (.getfield 216, 3) := by decide +kernel
theorem d_Ct_done_100 : decode b_Ct_done 100 = .ok (.ireturn, 1) := by decide +kernel
theorem d_Ct_due_0 : decode b_Ct_due 0 = .ok (.aload_n 0, 1) := by decide +kernel
theorem d_Ct_due_1 : decode b_Ct_due 1 = .ok (.iload_n 1, 1) := by decide +kernel
theorem d_Ct_due_2 : decode b_Ct_due 2 = .ok (.invokevirtual 149, 3) := by decide +kernel
theorem d_Ct_due_5 : decode b_Ct_due 5 = .ok (.ifCond .ne 13, 3) := by decide +kernel
theorem d_Ct_due_8 : decode b_Ct_due 8 = .ok (.new 76, 3) := by decide +kernel
theorem d_Ct_due_11 : decode b_Ct_due 11 = .ok (.dup, 1) := by decide +kernel
theorem d_Ct_due_12 : decode b_Ct_due 12 = .ok (.ldc 235, 2) := by decide +kernel
theorem d_Ct_due_14 : decode b_Ct_due 14 = .ok (.invokespecial 80, 3) := by decide +kernel
theorem d_Ct_due_17 : decode b_Ct_due 17 = .ok (.athrow, 1) := by decide +kernel
theorem d_Ct_due_18 : decode b_Ct_due 18 = .ok (.aload_n 0, 1) := by decide +kernel
theorem d_Ct_due_19 : decode b_Ct_due 19 = .ok (.getfield 18, 3) := by decide +kernel
theorem d_Ct_due_22 : decode b_Ct_due 22 = .ok (.iload_n 1, 1) := by decide +kernel
theorem d_Ct_due_23 : decode b_Ct_due 23 = .ok (.aaload, 1) := by decide +kernel
theorem d_Ct_due_24 : decode b_Ct_due 24 = .ok (.invokevirtual 278, 3) := by decide +kernel
theorem d_Ct_due_27 : decode b_Ct_due 27 = .ok (.ireturn, 1) := by decide +kernel
theorem d_Ct_late_0 : decode b_Ct_late 0 = .ok (.iload_n 1, 1) := by decide +kernel
theorem d_Ct_late_1 : decode b_Ct_late 1 = .ok (.ifCond .ge 14, 3) := by decide +kernel
theorem d_Ct_late_4 : decode b_Ct_late 4 = .ok (.new 76, 3) := by decide +kernel
theorem d_Ct_late_7 : decode b_Ct_late 7 = .ok (.dup, 1) := by decide +kernel
theorem d_Ct_late_8 : decode b_Ct_late 8 = .ok (.ldc_w 282, 3) := by decide +kernel
theorem d_Ct_late_11 : decode b_Ct_late 11 = .ok (.invokespecial 80, 3) := by decide +kernel
theorem d_Ct_late_14 : decode b_Ct_late 14 = .ok (.athrow, 1) := by decide +kernel
theorem d_Ct_late_15 : decode b_Ct_late 15 = .ok (.iload_n 1, 1) := by decide +kernel
theorem d_Ct_late_16 : decode b_Ct_late 16 = .ok (.aload_n 0, 1) := by decide +kernel
theorem d_Ct_late_17 : decode b_Ct_late 17 = .ok (.getfield 49, 3) := by decide +kernel
theorem d_Ct_late_20 : decode b_Ct_late 20 = .ok (.if_icmp .lt 5, 3) := by decide +kernel
theorem d_Ct_late_23 : decode b_Ct_late 23 = .ok (.iconst (-1), 1) := by decide +kernel
theorem d_Ct_late_24 : decode b_Ct_late 24 = .ok (.ireturn, 1) := by decide +kernel
theorem d_Ct_late_25 : decode b_Ct_late 25 = .ok (.aload_n 0, 1) := by decide +kernel
theorem d_Ct_late_26 : decode b_Ct_late 26 = .ok (.invokevirtual 284, 3) := by decide +kernel
theorem d_Ct_late_29 : decode b_Ct_late 29 = .ok (.aload_n 0, 1) := by decide +kernel
theorem d_Ct_late_30 : decode b_Ct_late 30 = .ok (.getfield 22, 3) := by decide +kernel
theorem d_Ct_late_33 : decode b_Ct_late 33 = .ok (.iload_n 1, 1) := by decide +kernel
theorem d_Ct_late_34 : decode b_Ct_late 34 = .ok (.aaload, 1) := by decide +kernel
theorem d_Ct_late_35 : decode b_Ct_late 35 = .ok (.getfield 216, 3) := by decide +kernel
theorem d_Ct_late_38 : decode b_Ct_late 38 = .ok (.ireturn, 1) := by decide +kernel
theorem d_Ct_fine_0 : decode b_Ct_fine 0 = .ok (.aload_n 0, 1) := by decide +kernel
theorem d_Ct_fine_1 : decode b_Ct_fine 1 = .ok (.iload_n 1, 1) := by decide +kernel
theorem d_Ct_fine_2 : decode b_Ct_fine 2 = .ok (.invokevirtual 149, 3) := by decide +kernel
theorem d_Ct_fine_5 : decode b_Ct_fine 5 = .ok (.ifCond .eq 10, 3) := by decide +kernel
theorem d_Ct_fine_8 : decode b_Ct_fine 8 = .ok (.iload_n 2, 1) := by decide +kernel
theorem d_Ct_fine_9 : decode b_Ct_fine 9 = .ok (.invokestatic 152, 3) := by decide +kernel
theorem d_Ct_fine_12 : decode b_Ct_fine 12 = .ok (.ifCond .ne 14, 3) := by decide +kernel
theorem d_Ct_fine_15 : decode b_Ct_fine 15 = .ok (.new 76, 3) := by decide +kernel
theorem d_Ct_fine_18 : decode b_Ct_fine 18 = .ok (.dup, 1) := by decide +kernel
theorem d_Ct_fine_19 : decode b_Ct_fine 19 = .ok (.ldc_w 287, 3) := by decide +kernel
theorem d_Ct_fine_22 : decode b_Ct_fine 22 = .ok (.invokespecial 80, 3) := by decide +kernel
theorem d_Ct_fine_25 : decode b_Ct_fine 25 = .ok (.athrow, 1) := by decide +kernel
theorem d_Ct_fine_26 : decode b_Ct_fine 26 = .ok (.iconst 0, 1) := by decide +kernel
theorem d_Ct_fine_27 : decode b_Ct_fine 27 = .ok (.iload_n 2, 1) := by decide +kernel
theorem d_Ct_fine_28 : decode b_Ct_fine 28 = .ok (.aload_n 0, 1) := by decide +kernel
theorem d_Ct_fine_29 : decode b_Ct_fine 29 = .ok (.getfield 18, 3) := by decide +kernel
theorem d_Ct_fine_32 : decode b_Ct_fine 32 = .ok (.iload_n 1, 1) := by decide +kernel
theorem d_Ct_fine_33 : decode b_Ct_fine 33 = .ok (.aaload, 1) := by decide +kernel
theorem d_Ct_fine_34 : decode b_Ct_fine 34 = .ok (.invokevirtual 278, 3) := by decide +kernel
theorem d_Ct_fine_37 : decode b_Ct_fine 37 = .ok (.isub, 1) := by decide +kernel
theorem d_Ct_fine_38 : decode b_Ct_fine 38 = .ok (.invokestatic 62, 3) := by decide +kernel
theorem d_Ct_fine_41 : decode b_Ct_fine 41 = .ok (.istore_n 3, 1) := by decide +kernel
theorem d_Ct_fine_42 : decode b_Ct_fine 42 = .ok (.iload_n 3, 1) := by decide +kernel
theorem d_Ct_fine_43 : decode b_Ct_fine 43 = .ok (.bipush 10, 2) := by decide +kernel
theorem d_Ct_fine_45 : decode b_Ct_fine 45 = .ok (.invokestatic 56, 3) := by decide +kernel
theorem d_Ct_fine_48 : decode b_Ct_fine 48 = .ok (.istore 4, 2) := by decide +kernel
theorem d_Ct_fine_50 : decode b_Ct_fine 50 = .ok (.iload_n 3, 1) := by decide +kernel
theorem d_Ct_fine_51 : decode b_Ct_fine 51 = .ok (.iload 4, 2) := by decide +kernel
theorem d_Ct_fine_53 : decode b_Ct_fine 53 = .ok (.isub, 1) := by decide +kernel
theorem d_Ct_fine_54 : decode b_Ct_fine 54 = .ok (.bipush 20, 2) := by decide +kernel
theorem d_Ct_fine_56 : decode b_Ct_fine 56 = .ok (.invokestatic 56, 3) := by decide +kernel
theorem d_Ct_fine_59 : decode b_Ct_fine 59 = .ok (.istore 5, 2) := by decide +kernel
theorem d_Ct_fine_61 : decode b_Ct_fine 61 = .ok (.iload_n 3, 1) := by decide +kernel
theorem d_Ct_fine_62 : decode b_Ct_fine 62 = .ok (.iload 4, 2) := by decide +kernel
theorem d_Ct_fine_64 : decode b_Ct_fine 64 = .ok (.isub, 1) := by decide +kernel
theorem d_Ct_fine_65 : decode b_Ct_fine 65 = .ok (.iload 5, 2) := by decide +kernel
theorem d_Ct_fine_67 : decode b_Ct_fine 67 = .ok (.isub, 1) := by decide +kernel
theorem d_Ct_fine_68 : decode b_Ct_fine 68 = .ok (.istore 6, 2) := by decide +kernel
theorem d_Ct_fine_70 : decode b_Ct_fine 70 = .ok (.ldc_w 289, 3) := by decide +kernel
theorem d_Ct_fine_73 : decode b_Ct_fine 73 = .ok (.aload_n 0, 1) := by decide +kernel
theorem d_Ct_fine_74 : decode b_Ct_fine 74 = .ok (.getfield 65, 3) := by decide +kernel
theorem d_Ct_fine_77 : decode b_Ct_fine 77 = .ok (.iload 4, 2) := by decide +kernel
theorem d_Ct_fine_79 : decode b_Ct_fine 79 = .ok (.iconst 2, 1) := by decide +kernel
theorem d_Ct_fine_80 : decode b_Ct_fine 80 = .ok (.iload 5, 2) := by decide +kernel
theorem d_Ct_fine_82 : decode b_Ct_fine 82 = .ok (.imul, 1) := by decide +kernel
theorem d_Ct_fine_83 : decode b_Ct_fine 83 = .ok (.iadd, 1) := by decide +kernel
theorem d_Ct_fine_84 : decode b_Ct_fine 84 = .ok (.iconst 4, 1) := by decide +kernel
theorem d_Ct_fine_85 : decode b_Ct_fine 85 = .ok (.iload 6, 2) := by decide +kernel
theorem d_Ct_fine_87 : decode b_Ct_fine 87 = .ok (.imul, 1) := by decide +kernel
theorem d_Ct_fine_88 : decode b_Ct_fine 88 = .ok (.iadd, 1) := by decide +kernel
theorem d_Ct_fine_89 : decode b_Ct_fine 89 = .ok (.imul, 1) := by decide +kernel
theorem d_Ct_fine_90 : decode b_Ct_fine 90 = .ok (.invokestatic 56, 3) := by decide +kernel
theorem d_Ct_fine_93 : decode b_Ct_fine 93 = .ok (.ireturn, 1) := by decide +kernel
theorem d_Ct_wanted_0 : decode b_Ct_wanted 0 = .ok (.iload_n 1, 1) := by decide +kernel
theorem d_Ct_wanted_1 : decode b_Ct_wanted 1 = .ok (.invokestatic 125, 3) := by decide +kernel
theorem d_Ct_wanted_4 : decode b_Ct_wanted 4 = .ok (.ifCond .eq 10, 3) := by decide +kernel
theorem d_Ct_wanted_7 : decode b_Ct_wanted 7 = .ok (.iload_n 2, 1) := by decide +kernel
theorem d_Ct_wanted_8 : decode b_Ct_wanted 8 = .ok (.invokestatic 152, 3) := by decide +kernel
theorem d_Ct_wanted_11 : decode b_Ct_wanted 11 = .ok (.ifCond .ne 14, 3) := by decide +kernel
theorem d_Ct_wanted_14 : decode b_Ct_wanted 14 = .ok (.new 76, 3) := by decide +kernel
theorem d_Ct_wanted_17 : decode b_Ct_wanted 17 = .ok (.dup, 1) := by decide +kernel
theorem d_Ct_wanted_18 : decode b_Ct_wanted 18 = .ok (.ldc_w 290, 3) := by decide +kernel
theorem d_Ct_wanted_21 : decode b_Ct_wanted 21 = .ok (.invokespecial 80, 3) := by decide +kernel
theorem d_Ct_wanted_24 : decode b_Ct_wanted 24 = .ok (.athrow, 1) := by decide +kernel
theorem d_Ct_wanted_25 : decode b_Ct_wanted 25 = .ok (.iconst 0, 1) := by decide +kernel
theorem d_Ct_wanted_26 : decode b_Ct_wanted 26 = .ok (.istore_n 3, 1) := by decide +kernel
theorem d_Ct_wanted_27 : decode b_Ct_wanted 27 = .ok (.iconst 0, 1) := by decide +kernel
theorem d_Ct_wanted_28 : decode b_Ct_wanted 28 = .ok (.istore 4, 2) := by decide +kernel
theorem d_Ct_wanted_30 : decode b_Ct_wanted 30 = .ok (.iload 4, 2) := by decide +kernel
theorem d_Ct_wanted_32 : decode b_Ct_wanted 32 = .ok (.aload_n 0, 1) := by decide +kernel
theorem d_Ct_wanted_33 : decode b_Ct_wanted 33 = .ok (.getfield 49, 3) := by decide +kernel
theorem d_Ct_wanted_36 : decode b_Ct_wanted 36 = .ok (.if_icmp .ge 40, 3) := by decide +kernel
theorem d_Ct_wanted_39 : decode b_Ct_wanted 39 = .ok (.aload_n 0, 1) := by decide +kernel
theorem d_Ct_wanted_40 : decode b_Ct_wanted 40 = .ok (.getfield 18, 3) := by decide +kernel
theorem d_Ct_wanted_43 : decode b_Ct_wanted 43 = .ok (.iload 4, 2) := by decide +kernel
theorem d_Ct_wanted_45 : decode b_Ct_wanted 45 = .ok (.aaload, 1) := by decide +kernel
theorem d_Ct_wanted_46 : decode b_Ct_wanted 46 = .ok (.getfield 268, 3) := by decide +kernel
theorem d_Ct_wanted_49 : decode b_Ct_wanted 49 = .ok (.iload_n 1, 1) := by decide +kernel
theorem d_Ct_wanted_50 : decode b_Ct_wanted 50 = .ok (.if_icmp .ne 20, 3) := by decide +kernel
theorem d_Ct_wanted_53 : decode b_Ct_wanted 53 = .ok (.aload_n 0, 1) := by decide +kernel
theorem d_Ct_wanted_54 : decode b_Ct_wanted 54 = .ok (.getfield 18, 3) := by decide +kernel
theorem d_Ct_wanted_57 : decode b_Ct_wanted 57 = .ok (.iload 4, 2) := by decide +kernel
theorem d_Ct_wanted_59 : decode b_Ct_wanted 59 = .ok (.aaload, 1) := by decide +kernel
theorem d_Ct_wanted_60 : decode b_Ct_wanted 60 = .ok (.invokevirtual 278, 3) := by decide +kernel
theorem d_Ct_wanted_63 : decode b_Ct_wanted 63 = .ok (.iload_n 2, 1) := by decide +kernel
theorem d_Ct_wanted_64 : decode b_Ct_wanted 64 = .ok (.if_icmp .gt 6, 3) := by decide +kernel
theorem d_Ct_wanted_67 : decode b_Ct_wanted 67 = .ok (.iinc 3 1, 3) := by decide +kernel
theorem d_Ct_wanted_70 : decode b_Ct_wanted 70 = .ok (.iinc 4 1, 3) := by decide +kernel
theorem d_Ct_wanted_73 : decode b_Ct_wanted 73 = .ok (.goto (-43), 3) := by decide +kernel
theorem d_Ct_wanted_76 : decode b_Ct_wanted 76 = .ok (.iconst 0, 1) := by decide +kernel
theorem d_Ct_wanted_77 : decode b_Ct_wanted 77 = .ok (.iload_n 3, 1) := by decide +kernel
theorem d_Ct_wanted_78 : decode b_Ct_wanted 78 = .ok (.aload_n 0, 1) := by decide +kernel
theorem d_Ct_wanted_79 : decode b_Ct_wanted 79 = .ok (.getfield 31, 3) := by decide +kernel
theorem d_Ct_wanted_82 : decode b_Ct_wanted 82 = .ok (.iload_n 1, 1) := by decide +kernel
theorem d_Ct_wanted_83 : decode b_Ct_wanted 83 = .ok (.iaload, 1) := by decide +kernel
theorem d_Ct_wanted_84 : decode b_Ct_wanted 84 = .ok (.isub, 1) := by decide +kernel
theorem d_Ct_wanted_85 : decode b_Ct_wanted 85 = .ok (.invokestatic 62, 3) := by decide +kernel
theorem d_Ct_wanted_88 : decode b_Ct_wanted 88 = .ok (.ireturn, 1) := by decide +kernel
theorem d_Ct_within_0 : decode b_Ct_within 0 = .ok (.iload_n 0, 1) := by decide +kernel
theorem d_Ct_within_1 : decode b_Ct_within 1 = .ok (.iload_n 1, 1) := by decide +kernel
theorem d_Ct_within_2 : decode b_Ct_within 2 = .ok (.if_icmp .lt 12, 3) := by decide +kernel
theorem d_Ct_within_5 : decode b_Ct_within 5 = .ok (.iload_n 0, 1) := by decide +kernel
theorem d_Ct_within_6 : decode b_Ct_within 6 = .ok (.iload_n 2, 1) := by decide +kernel
theorem d_Ct_within_7 : decode b_Ct_within 7 = .ok (.if_icmp .gt 7, 3) := by decide +kernel
theorem d_Ct_within_10 : decode b_Ct_within 10 = .ok (.iconst 1, 1) := by decide +kernel
theorem d_Ct_within_11 : decode b_Ct_within 11 = .ok (.goto 4, 3) := by decide +kernel
theorem d_Ct_within_14 : decode b_Ct_within 14 = .ok (.iconst 0, 1) := by decide +kernel
theorem d_Ct_within_15 : decode b_Ct_within 15 = .ok (.ireturn, 1) := by decide +kernel
theorem d_Ct_isSpot_0 : decode b_Ct_isSpot 0 = .ok (.iload_n 0, 1) := by decide +kernel
theorem d_Ct_isSpot_1 : decode b_Ct_isSpot 1 = .ok (.iconst 0, 1) := by decide +kernel
theorem d_Ct_isSpot_2 : decode b_Ct_isSpot 2 = .ok (.bipush 100, 2) := by decide +kernel
theorem d_Ct_isSpot_4 : decode b_Ct_isSpot 4 = .ok (.invokestatic 68, 3) := by decide +kernel
theorem d_Ct_isSpot_7 : decode b_Ct_isSpot 7 = .ok (.ifCond .eq 17, 3) := by decide +kernel
theorem d_Ct_isSpot_10 : decode b_Ct_isSpot 10 = .ok (.iload_n 1, 1) := by decide +kernel
theorem d_Ct_isSpot_11 : decode b_Ct_isSpot 11 = .ok (.iconst 0, 1) := by decide +kernel
theorem d_Ct_isSpot_12 : decode b_Ct_isSpot 12 = .ok (.bipush 100, 2) := by decide +kernel
theorem d_Ct_isSpot_14 : decode b_Ct_isSpot 14 = .ok (.invokestatic 68, 3) := by decide +kernel
theorem d_Ct_isSpot_17 : decode b_Ct_isSpot 17 = .ok (.ifCond .eq 7, 3) := by decide +kernel
theorem d_Ct_isSpot_20 : decode b_Ct_isSpot 20 = .ok (.iconst 1, 1) := by decide +kernel
theorem d_Ct_isSpot_21 : decode b_Ct_isSpot 21 = .ok (.goto 4, 3) := by decide +kernel
theorem d_Ct_isSpot_24 : decode b_Ct_isSpot 24 = .ok (.iconst 0, 1) := by decide +kernel
theorem d_Ct_isSpot_25 : decode b_Ct_isSpot 25 = .ok (.ireturn, 1) := by decide +kernel
theorem d_Ct_isDay_0 : decode b_Ct_isDay 0 = .ok (.iload_n 0, 1) := by decide +kernel
theorem d_Ct_isDay_1 : decode b_Ct_isDay 1 = .ok (.iconst 0, 1) := by decide +kernel
theorem d_Ct_isDay_2 : decode b_Ct_isDay 2 = .ok (.ldc 141, 2) := by decide +kernel
theorem d_Ct_isDay_4 : decode b_Ct_isDay 4 = .ok (.invokestatic 68, 3) := by decide +kernel
theorem d_Ct_isDay_7 : decode b_Ct_isDay 7 = .ok (.ireturn, 1) := by decide +kernel
theorem d_Ct_isKind_0 : decode b_Ct_isKind 0 = .ok (.iload_n 0, 1) := by decide +kernel
theorem d_Ct_isKind_1 : decode b_Ct_isKind 1 = .ok (.iconst 0, 1) := by decide +kernel
theorem d_Ct_isKind_2 : decode b_Ct_isKind 2 = .ok (.iconst 4, 1) := by decide +kernel
theorem d_Ct_isKind_3 : decode b_Ct_isKind 3 = .ok (.invokestatic 68, 3) := by decide +kernel
theorem d_Ct_isKind_6 : decode b_Ct_isKind 6 = .ok (.ireturn, 1) := by decide +kernel
theorem d_Ct_isPart_0 : decode b_Ct_isPart 0 = .ok (.iload_n 1, 1) := by decide +kernel
theorem d_Ct_isPart_1 : decode b_Ct_isPart 1 = .ok (.iconst 0, 1) := by decide +kernel
theorem d_Ct_isPart_2 : decode b_Ct_isPart 2 = .ok (.aload_n 0, 1) := by decide +kernel
theorem d_Ct_isPart_3 : decode b_Ct_isPart 3 = .ok (.getfield 49, 3) := by decide +kernel
theorem d_Ct_isPart_6 : decode b_Ct_isPart 6 = .ok (.iconst 1, 1) := by decide +kernel
theorem d_Ct_isPart_7 : decode b_Ct_isPart 7 = .ok (.isub, 1) := by decide +kernel
theorem d_Ct_isPart_8 : decode b_Ct_isPart 8 = .ok (.invokestatic 68, 3) := by decide +kernel
theorem d_Ct_isPart_11 : decode b_Ct_isPart 11 = .ok (.ireturn, 1) := by decide +kernel
theorem d_Ct_choose_0 : decode b_Ct_choose 0 = .ok (.aload_n 0, 1) := by decide +kernel
theorem d_Ct_choose_1 : decode b_Ct_choose 1 = .ok (.getfield 38, 3) := by decide +kernel
theorem d_Ct_choose_4 : decode b_Ct_choose 4 = .ok (.invokevirtual 292, 3) := by decide +kernel
theorem d_Ct_choose_7 : decode b_Ct_choose 7 = .ok (.aload_n 0, 1) := by decide +kernel
theorem d_Ct_choose_8 : decode b_Ct_choose 8 = .ok (.invokevirtual 284, 3) := by decide +kernel
theorem d_Ct_choose_11 : decode b_Ct_choose 11 = .ok (.iconst 0, 1) := by decide +kernel
theorem d_Ct_choose_12 : decode b_Ct_choose 12 = .ok (.istore_n 3, 1) := by decide +kernel
theorem d_Ct_choose_13 : decode b_Ct_choose 13 = .ok (.iload_n 3, 1) := by decide +kernel
theorem d_Ct_choose_14 : decode b_Ct_choose 14 = .ok (.aload_n 0, 1) := by decide +kernel
theorem d_Ct_choose_15 : decode b_Ct_choose 15 = .ok (.getfield 49, 3) := by decide +kernel
theorem d_Ct_choose_18 : decode b_Ct_choose 18 = .ok (.if_icmp .ge 77, 3) := by decide +kernel
theorem d_Ct_choose_21 : decode b_Ct_choose 21 = .ok (.aload_n 0, 1) := by decide +kernel
theorem d_Ct_choose_22 : decode b_Ct_choose 22 = .ok (.getfield 38, 3) := by decide +kernel
theorem d_Ct_choose_25 : decode b_Ct_choose 25 = .ok (.invokevirtual 295, 3) := by decide +kernel
theorem d_Ct_choose_28 : decode b_Ct_choose 28 = .ok (.ifCond .ne 67, 3) := by decide +kernel
theorem d_Ct_choose_31 : decode b_Ct_choose 31 = .ok (.aload_n 0, 1) := by decide +kernel
theorem d_Ct_choose_32 : decode b_Ct_choose 32 = .ok (.getfield 22, 3) := by decide +kernel
theorem d_Ct_choose_35 : decode b_Ct_choose 35 = .ok (.iload_n 3, 1) := by decide +kernel
theorem d_Ct_choose_36 : decode b_Ct_choose 36 = .ok (.aaload, 1) := by decide +kernel
theorem d_Ct_choose_37 : decode b_Ct_choose 37 = .ok (.astore 4, 2) := by decide +kernel
theorem d_Ct_choose_39 : decode b_Ct_choose 39 = .ok (.aload 4, 2) := by decide +kernel
theorem d_Ct_choose_41 : decode b_Ct_choose 41 = .ok (.invokevirtual 278, 3) := by decide +kernel
theorem d_Ct_choose_44 : decode b_Ct_choose 44 = .ok (.iload_n 2, 1) := by decide +kernel
theorem d_Ct_choose_45 : decode b_Ct_choose 45 = .ok (.if_icmp .gt 44, 3) := by decide +kernel
theorem d_Ct_choose_48 : decode b_Ct_choose 48 = .ok (.aload_n 1, 1) := by decide +kernel
theorem d_Ct_choose_49 : decode b_Ct_choose 49 = .ok (.aload 4, 2) := by decide +kernel
theorem d_Ct_choose_51 : decode b_Ct_choose 51 = .ok (.getfield 237, 3) := by decide +kernel
theorem d_Ct_choose_54 : decode b_Ct_choose 54 = .ok (.invokevirtual 240, 3) := by decide +kernel
theorem d_Ct_choose_57 : decode b_Ct_choose 57 = .ok (.ifCond .eq 32, 3) := by decide +kernel
theorem d_Ct_choose_60 : decode b_Ct_choose 60 = .ok (.aload_n 0, 1) := by decide +kernel
theorem d_Ct_choose_61 : decode b_Ct_choose 61 = .ok (.getfield 10, 3) := by decide +kernel
theorem d_Ct_choose_64 : decode b_Ct_choose 64 = .ok (.aload_n 1, 1) := by decide +kernel
theorem d_Ct_choose_65 : decode b_Ct_choose 65 = .ok (.getfield 183, 3) := by decide +kernel
theorem d_Ct_choose_68 : decode b_Ct_choose 68 = .ok (.aload 4, 2) := by decide +kernel
theorem d_Ct_choose_70 : decode b_Ct_choose 70 = .ok (.getfield 251, 3) := by decide +kernel
theorem d_Ct_choose_73 : decode b_Ct_choose 73 = .ok (.invokevirtual 173, 3) := by decide +kernel
theorem d_Ct_choose_76 : decode b_Ct_choose 76 = .ok (.iconst (-1), 1) := by decide +kernel
theorem d_Ct_choose_77 : decode b_Ct_choose 77 = .ok (.if_icmp .eq 12, 3) := by decide +kernel
theorem d_Ct_choose_80 : decode b_Ct_choose 80 = .ok (.aload_n 0, 1) := by decide +kernel
theorem d_Ct_choose_81 : decode b_Ct_choose 81 = .ok (.getfield 38, 3) := by decide +kernel
theorem d_Ct_choose_84 : decode b_Ct_choose 84 = .ok (.aload 4, 2) := by decide +kernel
theorem d_Ct_choose_86 : decode b_Ct_choose 86 = .ok (.invokevirtual 299, 3) := by decide +kernel
theorem d_Ct_choose_89 : decode b_Ct_choose 89 = .ok (.iinc 3 1, 3) := by decide +kernel
theorem d_Ct_choose_92 : decode b_Ct_choose 92 = .ok (.goto (-79), 3) := by decide +kernel
theorem d_Ct_choose_95 : decode b_Ct_choose 95 = .ok (.return_, 1) := by decide +kernel
theorem d_Ct_rankByDueDays_0 : decode b_Ct_rankByDueDays 0 = .ok (.iconst 0, 1) := by decide +kernel
theorem d_Ct_rankByDueDays_1 : decode b_Ct_rankByDueDays 1 = .ok (.istore_n 1, 1) := by decide +kernel
theorem d_Ct_rankByDueDays_2 : decode b_Ct_rankByDueDays 2 = .ok (.iload_n 1, 1) := by decide +kernel
theorem d_Ct_rankByDueDays_3 : decode b_Ct_rankByDueDays 3 = .ok (.aload_n 0, 1) := by decide +kernel
theorem d_Ct_rankByDueDays_4 : decode b_Ct_rankByDueDays 4 = .ok (.getfield 49, 3) := by decide +kernel
theorem d_Ct_rankByDueDays_7 : decode b_Ct_rankByDueDays 7 = .ok (.if_icmp .ge 72, 3) := by decide +kernel
theorem d_Ct_rankByDueDays_10 : decode b_Ct_rankByDueDays 10 = .ok (.aload_n 0, 1) := by decide +kernel
theorem d_Ct_rankByDueDays_11 : decode b_Ct_rankByDueDays 11 = .ok (.getfield 18, 3) := by decide +kernel
theorem d_Ct_rankByDueDays_14 : decode b_Ct_rankByDueDays 14 = .ok (.iload_n 1, 1) := by decide +kernel
theorem d_Ct_rankByDueDays_15 : decode b_Ct_rankByDueDays 15 = .ok (.aaload, 1) := by decide +kernel
theorem d_Ct_rankByDueDays_16 : decode b_Ct_rankByDueDays 16 = .ok (.invokevirtual 278, 3) := by decide +kernel
theorem d_Ct_rankByDueDays_19 : decode b_Ct_rankByDueDays 19 = .ok (.istore_n 2, 1) := by decide +kernel
theorem d_Ct_rankByDueDays_20 : decode b_Ct_rankByDueDays 20 = .ok (.iload_n 1, 1) := by decide +kernel
theorem d_Ct_rankByDueDays_21 : decode b_Ct_rankByDueDays 21 = .ok (.istore_n 3, 1) := by decide +kernel
theorem d_Ct_rankByDueDays_22 : decode b_Ct_rankByDueDays 22 = .ok (.iload_n 3, 1) := by decide +kernel
theorem d_Ct_rankByDueDays_23 : decode b_Ct_rankByDueDays 23 = .ok (.ifCond .le 38, 3) := by decide +kernel
theorem d_Ct_rankByDueDays_26 : decode b_Ct_rankByDueDays 26 = .ok (.aload_n 0, 1) := by decide +kernel
theorem d_Ct_rankByDueDays_27 : decode b_Ct_rankByDueDays 27 = .ok (.getfield 22, 3) := by decide +kernel
theorem d_Ct_rankByDueDays_30 : decode b_Ct_rankByDueDays 30 = .ok (.iload_n 3, 1) := by decide +kernel
theorem d_Ct_rankByDueDays_31 : decode b_Ct_rankByDueDays 31 = .ok (.iconst 1, 1) := by decide +kernel
theorem d_Ct_rankByDueDays_32 : decode b_Ct_rankByDueDays 32 = .ok (.isub, 1) := by decide +kernel
theorem d_Ct_rankByDueDays_33 : decode b_Ct_rankByDueDays 33 = .ok (.aaload, 1) := by decide +kernel
theorem d_Ct_rankByDueDays_34 : decode b_Ct_rankByDueDays 34 = .ok (.invokevirtual 278, 3) := by decide +kernel
theorem d_Ct_rankByDueDays_37 : decode b_Ct_rankByDueDays 37 = .ok (.iload_n 2, 1) := by decide +kernel
theorem d_Ct_rankByDueDays_38 : decode b_Ct_rankByDueDays 38 = .ok (.if_icmp .le 23, 3) := by decide +kernel
theorem d_Ct_rankByDueDays_41 : decode b_Ct_rankByDueDays 41 = .ok (.aload_n 0, 1) := by decide +kernel
theorem d_Ct_rankByDueDays_42 : decode b_Ct_rankByDueDays 42 = .ok (.getfield 22, 3) := by decide +kernel
theorem d_Ct_rankByDueDays_45 : decode b_Ct_rankByDueDays 45 = .ok (.iload_n 3, 1) := by decide +kernel
theorem d_Ct_rankByDueDays_46 : decode b_Ct_rankByDueDays 46 = .ok (.aload_n 0, 1) := by decide +kernel
theorem d_Ct_rankByDueDays_47 : decode b_Ct_rankByDueDays 47 = .ok (.getfield 22, 3) := by decide +kernel
theorem d_Ct_rankByDueDays_50 : decode b_Ct_rankByDueDays 50 = .ok (.iload_n 3, 1) := by decide +kernel
theorem d_Ct_rankByDueDays_51 : decode b_Ct_rankByDueDays 51 = .ok (.iconst 1, 1) := by decide +kernel
theorem d_Ct_rankByDueDays_52 : decode b_Ct_rankByDueDays 52 = .ok (.isub, 1) := by decide +kernel
theorem d_Ct_rankByDueDays_53 : decode b_Ct_rankByDueDays 53 = .ok (.aaload, 1) := by decide +kernel
theorem d_Ct_rankByDueDays_54 : decode b_Ct_rankByDueDays 54 = .ok (.aastore, 1) := by decide +kernel
theorem d_Ct_rankByDueDays_55 : decode b_Ct_rankByDueDays 55 = .ok (.iinc 3 (-1), 3) := by decide +kernel
theorem d_Ct_rankByDueDays_58 : decode b_Ct_rankByDueDays 58 = .ok (.goto (-36), 3) := by decide +kernel
theorem d_Ct_rankByDueDays_61 : decode b_Ct_rankByDueDays 61 = .ok (.aload_n 0, 1) := by decide +kernel
theorem d_Ct_rankByDueDays_62 : decode b_Ct_rankByDueDays 62 = .ok (.getfield 22, 3) := by decide +kernel
theorem d_Ct_rankByDueDays_65 : decode b_Ct_rankByDueDays 65 = .ok (.iload_n 3, 1) := by decide +kernel
theorem d_Ct_rankByDueDays_66 : decode b_Ct_rankByDueDays 66 = .ok (.aload_n 0, 1) := by decide +kernel
theorem d_Ct_rankByDueDays_67 : decode b_Ct_rankByDueDays 67 = .ok (.getfield 18, 3) := by decide +kernel
theorem d_Ct_rankByDueDays_70 : decode b_Ct_rankByDueDays 70 = .ok (.iload_n 1, 1) := by decide +kernel
theorem d_Ct_rankByDueDays_71 : decode b_Ct_rankByDueDays 71 = .ok (.aaload, 1) := by decide +kernel
theorem d_Ct_rankByDueDays_72 : decode b_Ct_rankByDueDays 72 = .ok (.aastore, 1) := by decide +kernel
theorem d_Ct_rankByDueDays_73 : decode b_Ct_rankByDueDays 73 = .ok (.iinc 1 1, 3) := by decide +kernel
theorem d_Ct_rankByDueDays_76 : decode b_Ct_rankByDueDays 76 = .ok (.goto (-74), 3) := by decide +kernel
theorem d_Ct_rankByDueDays_79 : decode b_Ct_rankByDueDays 79 = .ok (.return_, 1) := by decide +kernel
theorem d_Ho_init_0 : decode b_Ho_init 0 = .ok (.aload_n 0, 1) := by decide +kernel
theorem d_Ho_init_1 : decode b_Ho_init 1 = .ok (.invokespecial 3, 3) := by decide +kernel
theorem d_Ho_init_4 : decode b_Ho_init 4 = .ok (.aload_n 0, 1) := by decide +kernel
theorem d_Ho_init_5 : decode b_Ho_init 5 = .ok (.bipush 30, 2) := by decide +kernel
theorem d_Ho_init_7 : decode b_Ho_init 7 = .ok (.anewarray 9, 3) := by decide +kernel
theorem d_Ho_init_10 : decode b_Ho_init 10 = .ok (.putfield 11, 3) := by decide +kernel
theorem d_Ho_init_13 : decode b_Ho_init 13 = .ok (.aload_n 0, 1) := by decide +kernel
theorem d_Ho_init_14 : decode b_Ho_init 14 = .ok (.bipush 6, 2) := by decide +kernel
theorem d_Ho_init_16 : decode b_Ho_init 16 = .ok (.anewarray 17, 3) := by decide +kernel
theorem d_Ho_init_19 : decode b_Ho_init 19 = .ok (.putfield 19, 3) := by decide +kernel
theorem d_Ho_init_22 : decode b_Ho_init 22 = .ok (.aload_n 0, 1) := by decide +kernel
theorem d_Ho_init_23 : decode b_Ho_init 23 = .ok (.iconst 0, 1) := by decide +kernel
theorem d_Ho_init_24 : decode b_Ho_init 24 = .ok (.putfield 23, 3) := by decide +kernel
theorem d_Ho_init_27 : decode b_Ho_init 27 = .ok (.aload_n 0, 1) := by decide +kernel
theorem d_Ho_init_28 : decode b_Ho_init 28 = .ok (.iconst 0, 1) := by decide +kernel
theorem d_Ho_init_29 : decode b_Ho_init 29 = .ok (.putfield 27, 3) := by decide +kernel
theorem d_Ho_init_32 : decode b_Ho_init 32 = .ok (.return_, 1) := by decide +kernel
theorem d_Ho_hasPlace_0 : decode b_Ho_hasPlace 0 = .ok (.iload_n 1, 1) := by decide +kernel
theorem d_Ho_hasPlace_1 : decode b_Ho_hasPlace 1 = .ok (.iconst 0, 1) := by decide +kernel
theorem d_Ho_hasPlace_2 : decode b_Ho_hasPlace 2 = .ok (.aload_n 0, 1) := by decide +kernel
theorem d_Ho_hasPlace_3 : decode b_Ho_hasPlace 3 = .ok (.getfield 23, 3) := by decide +kernel
theorem d_Ho_hasPlace_6 : decode b_Ho_hasPlace 6 = .ok (.iconst 1, 1) := by decide +kernel
theorem d_Ho_hasPlace_7 : decode b_Ho_hasPlace 7 = .ok (.isub, 1) := by decide +kernel
theorem d_Ho_hasPlace_8 : decode b_Ho_hasPlace 8 = .ok (.invokestatic 30, 3) := by decide +kernel
theorem d_Ho_hasPlace_11 : decode b_Ho_hasPlace 11 = .ok (.ireturn, 1) := by decide +kernel
theorem d_Ho_addPlace_0 : decode b_Ho_addPlace 0 = .ok (.aload_n 0, 1) := by decide +kernel
theorem d_Ho_addPlace_1 : decode b_Ho_addPlace 1 = .ok (.getfield 23, 3) := by decide +kernel
theorem d_Ho_addPlace_4 : decode b_Ho_addPlace 4 = .ok (.istore_n 2, 1) := by decide +kernel
theorem d_Ho_addPlace_5 : decode b_Ho_addPlace 5 = .ok (.aload_n 0, 1) := by decide +kernel
theorem d_Ho_addPlace_6 : decode b_Ho_addPlace 6 = .ok (.getfield 11, 3) := by decide +kernel
theorem d_Ho_addPlace_9 : decode b_Ho_addPlace 9 = .ok (.iload_n 2, 1) := by decide +kernel
theorem d_Ho_addPlace_10 : decode b_Ho_addPlace 10 = .ok (.aload_n 1, 1) := by decide +kernel
theorem d_Ho_addPlace_11 : decode b_Ho_addPlace 11 = .ok (.aastore, 1) := by decide +kernel
theorem d_Ho_addPlace_12 : decode b_Ho_addPlace 12 = .ok (.aload_n 0, 1) := by decide +kernel
theorem d_Ho_addPlace_13 : decode b_Ho_addPlace 13 = .ok (.dup, 1) := by decide +kernel
theorem d_Ho_addPlace_14 : decode b_Ho_addPlace 14 = .ok (.getfield 23, 3) := by decide +kernel
theorem d_Ho_addPlace_17 : decode b_Ho_addPlace 17 = .ok (.iconst 1, 1) := by decide +kernel
theorem d_Ho_addPlace_18 : decode b_Ho_addPlace 18 = .ok (.iadd, 1) := by decide +kernel
theorem d_Ho_addPlace_19 : decode b_Ho_addPlace 19 = .ok (.putfield 23, 3) := by decide +kernel
theorem d_Ho_addPlace_22 : decode b_Ho_addPlace 22 = .ok (.iload_n 2, 1) := by decide +kernel
theorem d_Ho_addPlace_23 : decode b_Ho_addPlace 23 = .ok (.ireturn, 1) := by decide +kernel
theorem d_Ho_addLift_0 : decode b_Ho_addLift 0 = .ok (.aload_n 0, 1) := by decide +kernel
theorem d_Ho_addLift_1 : decode b_Ho_addLift 1 = .ok (.getfield 27, 3) := by decide +kernel
theorem d_Ho_addLift_4 : decode b_Ho_addLift 4 = .ok (.istore_n 2, 1) := by decide +kernel
theorem d_Ho_addLift_5 : decode b_Ho_addLift 5 = .ok (.aload_n 0, 1) := by decide +kernel
theorem d_Ho_addLift_6 : decode b_Ho_addLift 6 = .ok (.getfield 19, 3) := by decide +kernel
theorem d_Ho_addLift_9 : decode b_Ho_addLift 9 = .ok (.iload_n 2, 1) := by decide +kernel
theorem d_Ho_addLift_10 : decode b_Ho_addLift 10 = .ok (.aload_n 1, 1) := by decide +kernel
theorem d_Ho_addLift_11 : decode b_Ho_addLift 11 = .ok (.aastore, 1) := by decide +kernel
theorem d_Ho_addLift_12 : decode b_Ho_addLift 12 = .ok (.aload_n 0, 1) := by decide +kernel
theorem d_Ho_addLift_13 : decode b_Ho_addLift 13 = .ok (.dup, 1) := by decide +kernel
theorem d_Ho_addLift_14 : decode b_Ho_addLift 14 = .ok (.getfield 27, 3) := by decide +kernel
theorem d_Ho_addLift_17 : decode b_Ho_addLift 17 = .ok (.iconst 1, 1) := by decide +kernel
theorem d_Ho_addLift_18 : decode b_Ho_addLift 18 = .ok (.iadd, 1) := by decide +kernel
theorem d_Ho_addLift_19 : decode b_Ho_addLift 19 = .ok (.putfield 27, 3) := by decide +kernel
theorem d_Ho_addLift_22 : decode b_Ho_addLift 22 = .ok (.iload_n 2, 1) := by decide +kernel
theorem d_Ho_addLift_23 : decode b_Ho_addLift 23 = .ok (.ireturn, 1) := by decide +kernel
theorem d_Ho_secondsBetween_0 : decode b_Ho_secondsBetween 0 = .ok (.aload_n 1, 1) := by decide +kernel
theorem d_Ho_secondsBetween_1 : decode b_Ho_secondsBetween 1 = .ok (.getfield 34, 3) := by decide +kernel
theorem d_Ho_secondsBetween_4 : decode b_Ho_secondsBetween 4 = .ok (.aload_n 2, 1) := by decide +kernel
theorem d_Ho_secondsBetween_5 : decode b_Ho_secondsBetween 5 = .ok (.getfield 34, 3) := by decide +kernel
theorem d_Ho_secondsBetween_8 : decode b_Ho_secondsBetween 8 = .ok (.if_icmp .ne 16, 3) := by decide +kernel
theorem d_Ho_secondsBetween_11 : decode b_Ho_secondsBetween 11 = .ok (.aload_n 1, 1) := by decide +kernel
theorem d_Ho_secondsBetween_12 : decode b_Ho_secondsBetween 12 = .ok (.aload_n 2, 1) := by decide +kernel
theorem d_Ho_secondsBetween_13 : decode b_Ho_secondsBetween 13 = .ok (.getfield 37, 3) := by decide +kernel
theorem d_Ho_secondsBetween_16 : decode b_Ho_secondsBetween 16 = .ok (.aload_n 2, 1) := by decide +kernel
theorem d_Ho_secondsBetween_17 : decode b_Ho_secondsBetween 17 = .ok (.getfield 40, 3) := by decide +kernel
theorem d_Ho_secondsBetween_20 : decode b_Ho_secondsBetween 20 = .ok (.invokevirtual 43, 3) := by decide +kernel
theorem d_Ho_secondsBetween_23 : decode b_Ho_secondsBetween 23 = .ok (.ireturn, 1) := by decide +kernel
theorem d_Ho_secondsBetween_24 : decode b_Ho_secondsBetween 24 = .ok (.iconst (-1), 1) := by decide +kernel
theorem d_Ho_secondsBetween_25 : decode b_Ho_secondsBetween 25 = .ok (.istore_n 3, 1) := by decide +kernel
theorem d_Ho_secondsBetween_26 : decode b_Ho_secondsBetween 26 = .ok (.iconst 0, 1) := by decide +kernel
theorem d_Ho_secondsBetween_27 : decode b_Ho_secondsBetween 27 = .ok (.istore 4, 2) := by decide +kernel
theorem d_Ho_secondsBetween_29 : decode b_Ho_secondsBetween 29 = .ok (.iload 4, 2) := by decide +kernel
theorem d_Ho_secondsBetween_31 : decode b_Ho_secondsBetween 31 = .ok (.aload_n 0, 1) := by decide +kernel
theorem d_Ho_secondsBetween_32 : decode b_Ho_secondsBetween 32 = .ok (.getfield 27, 3) := by decide +kernel
theorem d_Ho_secondsBetween_35 : decode b_Ho_secondsBetween 35 = .ok (.if_icmp .ge 68, 3) := by decide +kernel
theorem d_Ho_secondsBetween_38 : decode b_Ho_secondsBetween 38 = .ok (.aload_n 0, 1) := by decide +kernel
theorem d_Ho_secondsBetween_39 : decode b_Ho_secondsBetween 39 = .ok (.getfield 19, 3) := by decide +kernel
theorem d_Ho_secondsBetween_42 : decode b_Ho_secondsBetween 42 = .ok (.iload 4, 2) := by decide +kernel
theorem d_Ho_secondsBetween_44 : decode b_Ho_secondsBetween 44 = .ok (.aaload, 1) := by decide +kernel
theorem d_Ho_secondsBetween_45 : decode b_Ho_secondsBetween 45 = .ok (.aload_n 1, 1) := by decide +kernel
theorem d_Ho_secondsBetween_46 : decode b_Ho_secondsBetween 46 = .ok (.invokevirtual 47, 3) := by decide +kernel
theorem d_Ho_secondsBetween_49 : decode b_Ho_secondsBetween 49 = .ok (.ifCond .eq 48, 3) := by decide +kernel
theorem d_Ho_secondsBetween_52 : decode b_Ho_secondsBetween 52 = .ok (.aload_n 0, 1) := by decide +kernel
theorem d_Ho_secondsBetween_53 : decode b_Ho_secondsBetween 53 = .ok (.getfield 19, 3) := by decide +kernel
theorem d_Ho_secondsBetween_56 : decode b_Ho_secondsBetween 56 = .ok (.iload 4, 2) := by decide +kernel
theorem d_Ho_secondsBetween_58 : decode b_Ho_secondsBetween 58 = .ok (.aaload, 1) := by decide +kernel
theorem d_Ho_secondsBetween_59 : decode b_Ho_secondsBetween 59 = .ok (.aload_n 2, 1) := by decide +kernel
theorem d_Ho_secondsBetween_60 : decode b_Ho_secondsBetween 60 = .ok (.invokevirtual 47, 3) := by decide +kernel
theorem d_Ho_secondsBetween_63 : decode b_Ho_secondsBetween 63 = .ok (.ifCond .eq 34, 3) := by decide +kernel
theorem d_Ho_secondsBetween_66 : decode b_Ho_secondsBetween 66 = .ok (.aload_n 0, 1) := by decide +kernel
theorem d_Ho_secondsBetween_67 : decode b_Ho_secondsBetween 67 = .ok (.getfield 19, 3) := by decide +kernel
theorem d_Ho_secondsBetween_70 : decode b_Ho_secondsBetween 70 = .ok (.iload 4, 2) := by decide +kernel
theorem d_Ho_secondsBetween_72 : decode b_Ho_secondsBetween 72 = .ok (.aaload, 1) := by decide +kernel
theorem d_Ho_secondsBetween_73 : decode b_Ho_secondsBetween 73 = .ok (.aload_n 1, 1) := by decide +kernel
theorem d_Ho_secondsBetween_74 : decode b_Ho_secondsBetween 74 = .ok (.aload_n 2, 1) := by decide +kernel
theorem d_Ho_secondsBetween_75 : decode b_Ho_secondsBetween 75 = .ok (.invokevirtual 51, 3) := by decide +kernel
theorem d_Ho_secondsBetween_78 : decode b_Ho_secondsBetween 78 = .ok (.istore 5, 2) := by decide +kernel
theorem d_Ho_secondsBetween_80 : decode b_Ho_secondsBetween 80 = .ok (.iload_n 3, 1) := by decide +kernel
theorem d_Ho_secondsBetween_81 : decode b_Ho_secondsBetween 81 = .ok (.iconst (-1), 1) := by decide +kernel
theorem d_Ho_secondsBetween_82 : decode b_Ho_secondsBetween 82 = .ok (.if_icmp .ne 8, 3) := by decide +kernel
theorem d_Ho_secondsBetween_85 : decode b_Ho_secondsBetween 85 = .ok (.iload 5, 2) := by decide +kernel
theorem d_Ho_secondsBetween_87 : decode b_Ho_secondsBetween 87 = .ok (.goto 9, 3) := by decide +kernel
theorem d_Ho_secondsBetween_90 : decode b_Ho_secondsBetween 90 = .ok (.iload_n 3, 1) := by decide +kernel
theorem d_Ho_secondsBetween_91 : decode b_Ho_secondsBetween 91 = .ok (.iload 5, 2) := by decide +kernel
theorem d_Ho_secondsBetween_93 : decode b_Ho_secondsBetween 93 = .ok (.invokestatic 55, 3) := by decide +kernel
theorem d_Ho_secondsBetween_96 : decode b_Ho_secondsBetween 96 = .ok (.istore_n 3, 1) := by decide +kernel
theorem d_Ho_secondsBetween_97 : decode b_Ho_secondsBetween 97 = .ok (.iinc 4 1, 3) := by decide +kernel
theorem d_Ho_secondsBetween_100 : decode b_Ho_secondsBetween 100 = .ok (.goto (-71), 3) := by decide +kernel
theorem d_Ho_secondsBetween_103 : decode b_Ho_secondsBetween 103 = .ok (.iload_n 3, 1) := by decide +kernel
theorem d_Ho_secondsBetween_104 : decode b_Ho_secondsBetween 104 = .ok (.ireturn, 1) := by decide +kernel
theorem d_Li_init_0 : decode b_Li_init 0 = .ok (.aload_n 0, 1) := by decide +kernel
theorem d_Li_init_1 : decode b_Li_init 1 = .ok (.invokespecial 1, 3) := by decide +kernel
theorem d_Li_init_4 : decode b_Li_init 4 = .ok (.aload_n 0, 1) := by decide +kernel
theorem d_Li_init_5 : decode b_Li_init 5 = .ok (.iload_n 1, 1) := by decide +kernel
theorem d_Li_init_6 : decode b_Li_init 6 = .ok (.putfield 7, 3) := by decide +kernel
theorem d_Li_init_9 : decode b_Li_init 9 = .ok (.aload_n 0, 1) := by decide +kernel
theorem d_Li_init_10 : decode b_Li_init 10 = .ok (.iload_n 2, 1) := by decide +kernel
theorem d_Li_init_11 : decode b_Li_init 11 = .ok (.putfield 13, 3) := by decide +kernel
theorem d_Li_init_14 : decode b_Li_init 14 = .ok (.aload_n 0, 1) := by decide +kernel
theorem d_Li_init_15 : decode b_Li_init 15 = .ok (.iload_n 3, 1) := by decide +kernel
theorem d_Li_init_16 : decode b_Li_init 16 = .ok (.putfield 16, 3) := by decide +kernel
theorem d_Li_init_19 : decode b_Li_init 19 = .ok (.aload_n 0, 1) := by decide +kernel
theorem d_Li_init_20 : decode b_Li_init 20 = .ok (.iload 4, 2) := by decide +kernel
theorem d_Li_init_22 : decode b_Li_init 22 = .ok (.putfield 19, 3) := by decide +kernel
theorem d_Li_init_25 : decode b_Li_init 25 = .ok (.aload_n 0, 1) := by decide +kernel
theorem d_Li_init_26 : decode b_Li_init 26 = .ok (.iload 5, 2) := by decide +kernel
theorem d_Li_init_28 : decode b_Li_init 28 = .ok (.putfield 22, 3) := by decide +kernel
theorem d_Li_init_31 : decode b_Li_init 31 = .ok (.aload_n 0, 1) := by decide +kernel
theorem d_Li_init_32 : decode b_Li_init 32 = .ok (.iload 6, 2) := by decide +kernel
theorem d_Li_init_34 : decode b_Li_init 34 = .ok (.putfield 25, 3) := by decide +kernel
theorem d_Li_init_37 : decode b_Li_init 37 = .ok (.return_, 1) := by decide +kernel
theorem d_Li_comesTo_0 : decode b_Li_comesTo 0 = .ok (.aload_n 1, 1) := by decide +kernel
theorem d_Li_comesTo_1 : decode b_Li_comesTo 1 = .ok (.getfield 28, 3) := by decide +kernel
theorem d_Li_comesTo_4 : decode b_Li_comesTo 4 = .ok (.aload_n 0, 1) := by decide +kernel
theorem d_Li_comesTo_5 : decode b_Li_comesTo 5 = .ok (.getfield 16, 3) := by decide +kernel
theorem d_Li_comesTo_8 : decode b_Li_comesTo 8 = .ok (.aload_n 0, 1) := by decide +kernel
theorem d_Li_comesTo_9 : decode b_Li_comesTo 9 = .ok (.getfield 19, 3) := by decide +kernel
theorem d_Li_comesTo_12 : decode b_Li_comesTo 12 = .ok (.invokestatic 33, 3) := by decide +kernel
theorem d_Li_comesTo_15 : decode b_Li_comesTo 15 = .ok (.ireturn, 1) := by decide +kernel
theorem d_Li_secondsBetween_0 : decode b_Li_secondsBetween 0 = .ok (.aload_n 0, 1) := by decide +kernel
theorem d_Li_secondsBetween_1 : decode b_Li_secondsBetween 1 = .ok (.getfield 22, 3) := by decide +kernel
theorem d_Li_secondsBetween_4 : decode b_Li_secondsBetween 4 = .ok (.aload_n 0, 1) := by decide +kernel
theorem d_Li_secondsBetween_5 : decode b_Li_secondsBetween 5 = .ok (.getfield 25, 3) := by decide +kernel
theorem d_Li_secondsBetween_8 : decode b_Li_secondsBetween 8 = .ok (.aload_n 1, 1) := by decide +kernel
theorem d_Li_secondsBetween_9 : decode b_Li_secondsBetween 9 = .ok (.getfield 28, 3) := by decide +kernel
theorem d_Li_secondsBetween_12 : decode b_Li_secondsBetween 12 = .ok (.aload_n 2, 1) := by decide +kernel
theorem d_Li_secondsBetween_13 : decode b_Li_secondsBetween 13 = .ok (.getfield 28, 3) := by decide +kernel
theorem d_Li_secondsBetween_16 : decode b_Li_secondsBetween 16 = .ok (.isub, 1) := by decide +kernel
theorem d_Li_secondsBetween_17 : decode b_Li_secondsBetween 17 = .ok (.invokestatic 39, 3) := by decide +kernel
theorem d_Li_secondsBetween_20 : decode b_Li_secondsBetween 20 = .ok (.imul, 1) := by decide +kernel
theorem d_Li_secondsBetween_21 : decode b_Li_secondsBetween 21 = .ok (.iadd, 1) := by decide +kernel
theorem d_Li_secondsBetween_22 : decode b_Li_secondsBetween 22 = .ok (.istore_n 3, 1) := by decide +kernel
theorem d_Li_secondsBetween_23 : decode b_Li_secondsBetween 23 = .ok (.aload_n 1, 1) := by decide +kernel
theorem d_Li_secondsBetween_24 : decode b_Li_secondsBetween 24 = .ok (.aload_n 0, 1) := by decide +kernel
theorem d_Li_secondsBetween_25 : decode b_Li_secondsBetween 25 = .ok (.getfield 7, 3) := by decide +kernel
theorem d_Li_secondsBetween_28 : decode b_Li_secondsBetween 28 = .ok (.aload_n 0, 1) := by decide +kernel
theorem d_Li_secondsBetween_29 : decode b_Li_secondsBetween 29 = .ok (.getfield 13, 3) := by decide +kernel
theorem d_Li_secondsBetween_32 : decode b_Li_secondsBetween 32 = .ok (.invokevirtual 45, 3) := by decide +kernel
theorem d_Li_secondsBetween_35 : decode b_Li_secondsBetween 35 = .ok (.iload_n 3, 1) := by decide +kernel
theorem d_Li_secondsBetween_36 : decode b_Li_secondsBetween 36 = .ok (.iadd, 1) := by decide +kernel
theorem d_Li_secondsBetween_37 : decode b_Li_secondsBetween 37 = .ok (.aload_n 2, 1) := by decide +kernel
theorem d_Li_secondsBetween_38 : decode b_Li_secondsBetween 38 = .ok (.aload_n 0, 1) := by decide +kernel
theorem d_Li_secondsBetween_39 : decode b_Li_secondsBetween 39 = .ok (.getfield 7, 3) := by decide +kernel
theorem d_Li_secondsBetween_42 : decode b_Li_secondsBetween 42 = .ok (.aload_n 0, 1) := by decide +kernel
theorem d_Li_secondsBetween_43 : decode b_Li_secondsBetween 43 = .ok (.getfield 13, 3) := by decide +kernel
theorem d_Li_secondsBetween_46 : decode b_Li_secondsBetween 46 = .ok (.invokevirtual 45, 3) := by decide +kernel
theorem d_Li_secondsBetween_49 : decode b_Li_secondsBetween 49 = .ok (.iadd, 1) := by decide +kernel
theorem d_Li_secondsBetween_50 : decode b_Li_secondsBetween 50 = .ok (.ireturn, 1) := by decide +kernel
theorem d_Pt_init_0 : decode b_Pt_init 0 = .ok (.aload_n 0, 1) := by decide +kernel
theorem d_Pt_init_1 : decode b_Pt_init 1 = .ok (.invokespecial 3, 3) := by decide +kernel
theorem d_Pt_init_4 : decode b_Pt_init 4 = .ok (.aload_n 0, 1) := by decide +kernel
theorem d_Pt_init_5 : decode b_Pt_init 5 = .ok (.iconst 0, 1) := by decide +kernel
theorem d_Pt_init_6 : decode b_Pt_init 6 = .ok (.putfield 9, 3) := by decide +kernel
theorem d_Pt_init_9 : decode b_Pt_init 9 = .ok (.aload_n 0, 1) := by decide +kernel
theorem d_Pt_init_10 : decode b_Pt_init 10 = .ok (.iconst 0, 1) := by decide +kernel
theorem d_Pt_init_11 : decode b_Pt_init 11 = .ok (.putfield 15, 3) := by decide +kernel
theorem d_Pt_init_14 : decode b_Pt_init 14 = .ok (.aload_n 0, 1) := by decide +kernel
theorem d_Pt_init_15 : decode b_Pt_init 15 = .ok (.iconst 0, 1) := by decide +kernel
theorem d_Pt_init_16 : decode b_Pt_init 16 = .ok (.putfield 18, 3) := by decide +kernel
theorem d_Pt_init_19 : decode b_Pt_init 19 = .ok (.aload_n 0, 1) := by decide +kernel
theorem d_Pt_init_20 : decode b_Pt_init 20 = .ok (.iconst (-1), 1) := by decide +kernel
theorem d_Pt_init_21 : decode b_Pt_init 21 = .ok (.putfield 21, 3) := by decide +kernel
theorem d_Pt_init_24 : decode b_Pt_init 24 = .ok (.aload_n 0, 1) := by decide +kernel
theorem d_Pt_init_25 : decode b_Pt_init 25 = .ok (.iload_n 1, 1) := by decide +kernel
theorem d_Pt_init_26 : decode b_Pt_init 26 = .ok (.putfield 24, 3) := by decide +kernel
theorem d_Pt_init_29 : decode b_Pt_init 29 = .ok (.aload_n 0, 1) := by decide +kernel
theorem d_Pt_init_30 : decode b_Pt_init 30 = .ok (.aload_n 2, 1) := by decide +kernel
theorem d_Pt_init_31 : decode b_Pt_init 31 = .ok (.putfield 27, 3) := by decide +kernel
theorem d_Pt_init_34 : decode b_Pt_init 34 = .ok (.aload_n 0, 1) := by decide +kernel
theorem d_Pt_init_35 : decode b_Pt_init 35 = .ok (.iload_n 3, 1) := by decide +kernel
theorem d_Pt_init_36 : decode b_Pt_init 36 = .ok (.putfield 31, 3) := by decide +kernel
theorem d_Pt_init_39 : decode b_Pt_init 39 = .ok (.aload_n 0, 1) := by decide +kernel
theorem d_Pt_init_40 : decode b_Pt_init 40 = .ok (.iload 4, 2) := by decide +kernel
theorem d_Pt_init_42 : decode b_Pt_init 42 = .ok (.putfield 34, 3) := by decide +kernel
theorem d_Pt_init_45 : decode b_Pt_init 45 = .ok (.aload_n 0, 1) := by decide +kernel
theorem d_Pt_init_46 : decode b_Pt_init 46 = .ok (.iload 5, 2) := by decide +kernel
theorem d_Pt_init_48 : decode b_Pt_init 48 = .ok (.putfield 37, 3) := by decide +kernel
theorem d_Pt_init_51 : decode b_Pt_init 51 = .ok (.aload_n 0, 1) := by decide +kernel
theorem d_Pt_init_52 : decode b_Pt_init 52 = .ok (.iload 6, 2) := by decide +kernel
theorem d_Pt_init_54 : decode b_Pt_init 54 = .ok (.putfield 40, 3) := by decide +kernel
theorem d_Pt_init_57 : decode b_Pt_init 57 = .ok (.aload_n 0, 1) := by decide +kernel
theorem d_Pt_init_58 : decode b_Pt_init 58 = .ok (.iload 7, 2) := by decide +kernel
theorem d_Pt_init_60 : decode b_Pt_init 60 = .ok (.putfield 43, 3) := by decide +kernel
theorem d_Pt_init_63 : decode b_Pt_init 63 = .ok (.return_, 1) := by decide +kernel
theorem d_Pt_dueDay_0 : decode b_Pt_dueDay 0 = .ok (.aload_n 0, 1) := by decide +kernel
theorem d_Pt_dueDay_1 : decode b_Pt_dueDay 1 = .ok (.getfield 9, 3) := by decide +kernel
theorem d_Pt_dueDay_4 : decode b_Pt_dueDay 4 = .ok (.aload_n 0, 1) := by decide +kernel
theorem d_Pt_dueDay_5 : decode b_Pt_dueDay 5 = .ok (.getfield 37, 3) := by decide +kernel
theorem d_Pt_dueDay_8 : decode b_Pt_dueDay 8 = .ok (.iadd, 1) := by decide +kernel
theorem d_Pt_dueDay_9 : decode b_Pt_dueDay 9 = .ok (.istore_n 1, 1) := by decide +kernel
theorem d_Pt_dueDay_10 : decode b_Pt_dueDay 10 = .ok (.aload_n 0, 1) := by decide +kernel
theorem d_Pt_dueDay_11 : decode b_Pt_dueDay 11 = .ok (.getfield 21, 3) := by decide +kernel
theorem d_Pt_dueDay_14 : decode b_Pt_dueDay 14 = .ok (.iconst (-1), 1) := by decide +kernel
theorem d_Pt_dueDay_15 : decode b_Pt_dueDay 15 = .ok (.if_icmp .ne 7, 3) := by decide +kernel
theorem d_Pt_dueDay_18 : decode b_Pt_dueDay 18 = .ok (.iload_n 1, 1) := by decide +kernel
theorem d_Pt_dueDay_19 : decode b_Pt_dueDay 19 = .ok (.goto 11, 3) := by decide +kernel
theorem d_Pt_dueDay_22 : decode b_Pt_dueDay 22 = .ok (.iload_n 1, 1) := by decide +kernel
theorem d_Pt_dueDay_23 : decode b_Pt_dueDay 23 = .ok (.aload_n 0, 1) := by decide +kernel
theorem d_Pt_dueDay_24 : decode b_Pt_dueDay 24 = .ok (.getfield 21, 3) := by decide +kernel
theorem d_Pt_dueDay_27 : decode b_Pt_dueDay 27 = .ok (.invokestatic 46, 3) := by decide +kernel
theorem d_Pt_dueDay_30 : decode b_Pt_dueDay 30 = .ok (.ireturn, 1) := by decide +kernel
theorem d_Pt_addUse_0 : decode b_Pt_addUse 0 = .ok (.aload_n 0, 1) := by decide +kernel
theorem d_Pt_addUse_1 : decode b_Pt_addUse 1 = .ok (.dup, 1) := by decide +kernel
theorem d_Pt_addUse_2 : decode b_Pt_addUse 2 = .ok (.getfield 15, 3) := by decide +kernel
theorem d_Pt_addUse_5 : decode b_Pt_addUse 5 = .ok (.iload_n 2, 1) := by decide +kernel
theorem d_Pt_addUse_6 : decode b_Pt_addUse 6 = .ok (.iadd, 1) := by decide +kernel
theorem d_Pt_addUse_7 : decode b_Pt_addUse 7 = .ok (.putfield 15, 3) := by decide +kernel
theorem d_Pt_addUse_10 : decode b_Pt_addUse 10 = .ok (.aload_n 0, 1) := by decide +kernel
theorem d_Pt_addUse_11 : decode b_Pt_addUse 11 = .ok (.iload_n 1, 1) := by decide +kernel
theorem d_Pt_addUse_12 : decode b_Pt_addUse 12 = .ok (.putfield 18, 3) := by decide +kernel
theorem d_Pt_addUse_15 : decode b_Pt_addUse 15 = .ok (.aload_n 0, 1) := by decide +kernel
theorem d_Pt_addUse_16 : decode b_Pt_addUse 16 = .ok (.getfield 21, 3) := by decide +kernel
theorem d_Pt_addUse_19 : decode b_Pt_addUse 19 = .ok (.iconst (-1), 1) := by decide +kernel
theorem d_Pt_addUse_20 : decode b_Pt_addUse 20 = .ok (.if_icmp .ne 19, 3) := by decide +kernel
theorem d_Pt_addUse_23 : decode b_Pt_addUse 23 = .ok (.aload_n 0, 1) := by decide +kernel
theorem d_Pt_addUse_24 : decode b_Pt_addUse 24 = .ok (.getfield 15, 3) := by decide +kernel
theorem d_Pt_addUse_27 : decode b_Pt_addUse 27 = .ok (.aload_n 0, 1) := by decide +kernel
theorem d_Pt_addUse_28 : decode b_Pt_addUse 28 = .ok (.getfield 40, 3) := by decide +kernel
theorem d_Pt_addUse_31 : decode b_Pt_addUse 31 = .ok (.if_icmp .lt 8, 3) := by decide +kernel
theorem d_Pt_addUse_34 : decode b_Pt_addUse 34 = .ok (.aload_n 0, 1) := by decide +kernel
theorem d_Pt_addUse_35 : decode b_Pt_addUse 35 = .ok (.iload_n 1, 1) := by decide +kernel
theorem d_Pt_addUse_36 : decode b_Pt_addUse 36 = .ok (.putfield 21, 3) := by decide +kernel
theorem d_Pt_addUse_39 : decode b_Pt_addUse 39 = .ok (.return_, 1) := by decide +kernel
theorem d_Pt_renew_0 : decode b_Pt_renew 0 = .ok (.aload_n 0, 1) := by decide +kernel
theorem d_Pt_renew_1 : decode b_Pt_renew 1 = .ok (.iload_n 1, 1) := by decide +kernel
theorem d_Pt_renew_2 : decode b_Pt_renew 2 = .ok (.putfield 9, 3) := by decide +kernel
theorem d_Pt_renew_5 : decode b_Pt_renew 5 = .ok (.aload_n 0, 1) := by decide +kernel
theorem d_Pt_renew_6 : decode b_Pt_renew 6 = .ok (.iconst 0, 1) := by decide +kernel
theorem d_Pt_renew_7 : decode b_Pt_renew 7 = .ok (.putfield 15, 3) := by decide +kernel
theorem d_Pt_renew_10 : decode b_Pt_renew 10 = .ok (.aload_n 0, 1) := by decide +kernel
theorem d_Pt_renew_11 : decode b_Pt_renew 11 = .ok (.iload_n 1, 1) := by decide +kernel
theorem d_Pt_renew_12 : decode b_Pt_renew 12 = .ok (.putfield 18, 3) := by decide +kernel
theorem d_Pt_renew_15 : decode b_Pt_renew 15 = .ok (.aload_n 0, 1) := by decide +kernel
theorem d_Pt_renew_16 : decode b_Pt_renew 16 = .ok (.iconst (-1), 1) := by decide +kernel
theorem d_Pt_renew_17 : decode b_Pt_renew 17 = .ok (.putfield 21, 3) := by decide +kernel
theorem d_Pt_renew_20 : decode b_Pt_renew 20 = .ok (.return_, 1) := by decide +kernel
theorem d_Pe_init_0 : decode b_Pe_init 0 = .ok (.aload_n 0, 1) := by decide +kernel
theorem d_Pe_init_1 : decode b_Pe_init 1 = .ok (.invokespecial 1, 3) := by decide +kernel
theorem d_Pe_init_4 : decode b_Pe_init 4 = .ok (.aload_n 0, 1) := by decide +kernel
theorem d_Pe_init_5 : decode b_Pe_init 5 = .ok (.iload_n 1, 1) := by decide +kernel
theorem d_Pe_init_6 : decode b_Pe_init 6 = .ok (.putfield 7, 3) := by decide +kernel
theorem d_Pe_init_9 : decode b_Pe_init 9 = .ok (.aload_n 0, 1) := by decide +kernel
theorem d_Pe_init_10 : decode b_Pe_init 10 = .ok (.iload_n 2, 1) := by decide +kernel
theorem d_Pe_init_11 : decode b_Pe_init 11 = .ok (.putfield 13, 3) := by decide +kernel
theorem d_Pe_init_14 : decode b_Pe_init 14 = .ok (.aload_n 0, 1) := by decide +kernel
theorem d_Pe_init_15 : decode b_Pe_init 15 = .ok (.aload_n 3, 1) := by decide +kernel
theorem d_Pe_init_16 : decode b_Pe_init 16 = .ok (.putfield 16, 3) := by decide +kernel
theorem d_Pe_init_19 : decode b_Pe_init 19 = .ok (.aload_n 0, 1) := by decide +kernel
theorem d_Pe_init_20 : decode b_Pe_init 20 = .ok (.iload 4, 2) := by decide +kernel
theorem d_Pe_init_22 : decode b_Pe_init 22 = .ok (.putfield 20, 3) := by decide +kernel
theorem d_Pe_init_25 : decode b_Pe_init 25 = .ok (.return_, 1) := by decide +kernel
theorem d_Pe_has_0 : decode b_Pe_has 0 = .ok (.aload_n 0, 1) := by decide +kernel
theorem d_Pe_has_1 : decode b_Pe_has 1 = .ok (.getfield 13, 3) := by decide +kernel
theorem d_Pe_has_4 : decode b_Pe_has 4 = .ok (.iload_n 1, 1) := by decide +kernel
theorem d_Pe_has_5 : decode b_Pe_has 5 = .ok (.ishr, 1) := by decide +kernel
theorem d_Pe_has_6 : decode b_Pe_has 6 = .ok (.iconst 1, 1) := by decide +kernel
theorem d_Pe_has_7 : decode b_Pe_has 7 = .ok (.iand, 1) := by decide +kernel
theorem d_Pe_has_8 : decode b_Pe_has 8 = .ok (.iconst 1, 1) := by decide +kernel
theorem d_Pe_has_9 : decode b_Pe_has 9 = .ok (.if_icmp .ne 7, 3) := by decide +kernel
theorem d_Pe_has_12 : decode b_Pe_has 12 = .ok (.iconst 1, 1) := by decide +kernel
theorem d_Pe_has_13 : decode b_Pe_has 13 = .ok (.goto 4, 3) := by decide +kernel
theorem d_Pe_has_16 : decode b_Pe_has 16 = .ok (.iconst 0, 1) := by decide +kernel
theorem d_Pe_has_17 : decode b_Pe_has 17 = .ok (.ireturn, 1) := by decide +kernel
theorem d_Pl_init_0 : decode b_Pl_init 0 = .ok (.aload_n 0, 1) := by decide +kernel
theorem d_Pl_init_1 : decode b_Pl_init 1 = .ok (.invokespecial 1, 3) := by decide +kernel
theorem d_Pl_init_4 : decode b_Pl_init 4 = .ok (.aload_n 0, 1) := by decide +kernel
theorem d_Pl_init_5 : decode b_Pl_init 5 = .ok (.iload_n 1, 1) := by decide +kernel
theorem d_Pl_init_6 : decode b_Pl_init 6 = .ok (.putfield 7, 3) := by decide +kernel
theorem d_Pl_init_9 : decode b_Pl_init 9 = .ok (.aload_n 0, 1) := by decide +kernel
theorem d_Pl_init_10 : decode b_Pl_init 10 = .ok (.iload_n 2, 1) := by decide +kernel
theorem d_Pl_init_11 : decode b_Pl_init 11 = .ok (.putfield 13, 3) := by decide +kernel
theorem d_Pl_init_14 : decode b_Pl_init 14 = .ok (.aload_n 0, 1) := by decide +kernel
theorem d_Pl_init_15 : decode b_Pl_init 15 = .ok (.iload_n 3, 1) := by decide +kernel
theorem d_Pl_init_16 : decode b_Pl_init 16 = .ok (.putfield 16, 3) := by decide +kernel
theorem d_Pl_init_19 : decode b_Pl_init 19 = .ok (.return_, 1) := by decide +kernel
theorem d_Pl_secondsTo_0 : decode b_Pl_secondsTo 0 = .ok (.aload_n 0, 1) := by decide +kernel
theorem d_Pl_secondsTo_1 : decode b_Pl_secondsTo 1 = .ok (.getfield 13, 3) := by decide +kernel
theorem d_Pl_secondsTo_4 : decode b_Pl_secondsTo 4 = .ok (.iload_n 1, 1) := by decide +kernel
theorem d_Pl_secondsTo_5 : decode b_Pl_secondsTo 5 = .ok (.isub, 1) := by decide +kernel
theorem d_Pl_secondsTo_6 : decode b_Pl_secondsTo 6 = .ok (.invokestatic 19, 3) := by decide +kernel
theorem d_Pl_secondsTo_9 : decode b_Pl_secondsTo 9 = .ok (.aload_n 0, 1) := by decide +kernel
theorem d_Pl_secondsTo_10 : decode b_Pl_secondsTo 10 = .ok (.getfield 16, 3) := by decide +kernel
theorem d_Pl_secondsTo_13 : decode b_Pl_secondsTo 13 = .ok (.iload_n 2, 1) := by decide +kernel
theorem d_Pl_secondsTo_14 : decode b_Pl_secondsTo 14 = .ok (.isub, 1) := by decide +kernel
theorem d_Pl_secondsTo_15 : decode b_Pl_secondsTo 15 = .ok (.invokestatic 19, 3) := by decide +kernel
theorem d_Pl_secondsTo_18 : decode b_Pl_secondsTo 18 = .ok (.iadd, 1) := by decide +kernel
theorem d_Pl_secondsTo_19 : decode b_Pl_secondsTo 19 = .ok (.ireturn, 1) := by decide +kernel
theorem d_Pn_init_0 : decode b_Pn_init 0 = .ok (.aload_n 0, 1) := by decide +kernel
theorem d_Pn_init_1 : decode b_Pn_init 1 = .ok (.invokespecial 5, 3) := by decide +kernel
theorem d_Pn_init_4 : decode b_Pn_init 4 = .ok (.aload_n 0, 1) := by decide +kernel
theorem d_Pn_init_5 : decode b_Pn_init 5 = .ok (.bipush 7, 2) := by decide +kernel
theorem d_Pn_init_7 : decode b_Pn_init 7 = .ok (.anewarray 11, 3) := by decide +kernel
theorem d_Pn_init_10 : decode b_Pn_init 10 = .ok (.putfield 13, 3) := by decide +kernel
theorem d_Pn_init_13 : decode b_Pn_init 13 = .ok (.aload_n 0, 1) := by decide +kernel
theorem d_Pn_init_14 : decode b_Pn_init 14 = .ok (.bipush 64, 2) := by decide +kernel
theorem d_Pn_init_16 : decode b_Pn_init 16 = .ok (.newarray .int, 2) := by decide +kernel
theorem d_Pn_init_18 : decode b_Pn_init 18 = .ok (.putfield 17, 3) := by decide +kernel
theorem d_Pn_init_21 : decode b_Pn_init 21 = .ok (.aload_n 0, 1) := by decide +kernel
theorem d_Pn_init_22 : decode b_Pn_init 22 = .ok (.sipush 1024, 3) := by decide +kernel
theorem d_Pn_init_25 : decode b_Pn_init 25 = .ok (.newarray .int, 2) := by decide +kernel
theorem d_Pn_init_27 : decode b_Pn_init 27 = .ok (.putfield 21, 3) := by decide +kernel
theorem d_Pn_init_30 : decode b_Pn_init 30 = .ok (.aload_n 0, 1) := by decide +kernel
theorem d_Pn_init_31 : decode b_Pn_init 31 = .ok (.iconst 0, 1) := by decide +kernel
theorem d_Pn_init_32 : decode b_Pn_init 32 = .ok (.putfield 24, 3) := by decide +kernel
theorem d_Pn_init_35 : decode b_Pn_init 35 = .ok (.return_, 1) := by decide +kernel
theorem d_Pn_clear_0 : decode b_Pn_clear 0 = .ok (.aload_n 0, 1) := by decide +kernel
theorem d_Pn_clear_1 : decode b_Pn_clear 1 = .ok (.iconst 0, 1) := by decide +kernel
theorem d_Pn_clear_2 : decode b_Pn_clear 2 = .ok (.putfield 24, 3) := by decide +kernel
theorem d_Pn_clear_5 : decode b_Pn_clear 5 = .ok (.return_, 1) := by decide +kernel
theorem d_Pn_isFull_0 : decode b_Pn_isFull 0 = .ok (.aload_n 0, 1) := by decide +kernel
theorem d_Pn_isFull_1 : decode b_Pn_isFull 1 = .ok (.getfield 24, 3) := by decide +kernel
theorem d_Pn_isFull_4 : decode b_Pn_isFull 4 = .ok (.bipush 7, 2) := by decide +kernel
theorem d_Pn_isFull_6 : decode b_Pn_isFull 6 = .ok (.if_icmp .lt 7, 3) := by decide +kernel
theorem d_Pn_isFull_9 : decode b_Pn_isFull 9 = .ok (.iconst 1, 1) := by decide +kernel
theorem d_Pn_isFull_10 : decode b_Pn_isFull 10 = .ok (.goto 4, 3) := by decide +kernel
theorem d_Pn_isFull_13 : decode b_Pn_isFull 13 = .ok (.iconst 0, 1) := by decide +kernel
theorem d_Pn_isFull_14 : decode b_Pn_isFull 14 = .ok (.ireturn, 1) := by decide +kernel
theorem d_Pn_add_0 : decode b_Pn_add 0 = .ok (.aload_n 0, 1) := by decide +kernel
theorem d_Pn_add_1 : decode b_Pn_add 1 = .ok (.getfield 13, 3) := by decide +kernel
theorem d_Pn_add_4 : decode b_Pn_add 4 = .ok (.aload_n 0, 1) := by decide +kernel
theorem d_Pn_add_5 : decode b_Pn_add 5 = .ok (.getfield 24, 3) := by decide +kernel
theorem d_Pn_add_8 : decode b_Pn_add 8 = .ok (.aload_n 1, 1) := by decide +kernel
theorem d_Pn_add_9 : decode b_Pn_add 9 = .ok (.aastore, 1) := by decide +kernel
theorem d_Pn_add_10 : decode b_Pn_add 10 = .ok (.aload_n 0, 1) := by decide +kernel
theorem d_Pn_add_11 : decode b_Pn_add 11 = .ok (.dup, 1) := by decide +kernel
theorem d_Pn_add_12 : decode b_Pn_add 12 = .ok (.getfield 24, 3) := by decide +kernel
theorem d_Pn_add_15 : decode b_Pn_add 15 = .ok (.iconst 1, 1) := by decide +kernel
theorem d_Pn_add_16 : decode b_Pn_add 16 = .ok (.iadd, 1) := by decide +kernel
theorem d_Pn_add_17 : decode b_Pn_add 17 = .ok (.putfield 24, 3) := by decide +kernel
theorem d_Pn_add_20 : decode b_Pn_add 20 = .ok (.return_, 1) := by decide +kernel
theorem d_Pn_measure_0 : decode b_Pn_measure 0 = .ok (.iconst 0, 1) := by decide +kernel
theorem d_Pn_measure_1 : decode b_Pn_measure 1 = .ok (.istore_n 3, 1) := by decide +kernel
theorem d_Pn_measure_2 : decode b_Pn_measure 2 = .ok (.iload_n 3, 1) := by decide +kernel
theorem d_Pn_measure_3 : decode b_Pn_measure 3 = .ok (.aload_n 0, 1) := by decide +kernel
theorem d_Pn_measure_4 : decode b_Pn_measure 4 = .ok (.getfield 24, 3) := by decide +kernel
theorem d_Pn_measure_7 : decode b_Pn_measure 7 = .ok (.if_icmp .ge 103, 3) := by decide +kernel
theorem d_Pn_measure_10 : decode b_Pn_measure 10 = .ok (.aload_n 1, 1) := by decide +kernel
theorem d_Pn_measure_11 : decode b_Pn_measure 11 = .ok (.aload_n 2, 1) := by decide +kernel
theorem d_Pn_measure_12 : decode b_Pn_measure 12 = .ok (.aload_n 0, 1) := by decide +kernel
theorem d_Pn_measure_13 : decode b_Pn_measure 13 = .ok (.getfield 13, 3) := by decide +kernel
theorem d_Pn_measure_16 : decode b_Pn_measure 16 = .ok (.iload_n 3, 1) := by decide +kernel
theorem d_Pn_measure_17 : decode b_Pn_measure 17 = .ok (.aaload, 1) := by decide +kernel
theorem d_Pn_measure_18 : decode b_Pn_measure 18 = .ok (.getfield 28, 3) := by decide +kernel
theorem d_Pn_measure_21 : decode b_Pn_measure 21 = .ok (.invokestatic 32, 3) := by decide +kernel
theorem d_Pn_measure_24 : decode b_Pn_measure 24 = .ok (.istore 4, 2) := by decide +kernel
theorem d_Pn_measure_26 : decode b_Pn_measure 26 = .ok (.aload_n 0, 1) := by decide +kernel
theorem d_Pn_measure_27 : decode b_Pn_measure 27 = .ok (.getfield 17, 3) := by decide +kernel
theorem d_Pn_measure_30 : decode b_Pn_measure 30 = .ok (.bipush 56, 2) := by decide +kernel
theorem d_Pn_measure_32 : decode b_Pn_measure 32 = .ok (.iload_n 3, 1) := by decide +kernel
theorem d_Pn_measure_33 : decode b_Pn_measure 33 = .ok (.iadd, 1) := by decide +kernel
theorem d_Pn_measure_34 : decode b_Pn_measure 34 = .ok (.iload 4, 2) := by decide +kernel
theorem d_Pn_measure_36 : decode b_Pn_measure 36 = .ok (.iastore, 1) := by decide +kernel
theorem d_Pn_measure_37 : decode b_Pn_measure 37 = .ok (.aload_n 0, 1) := by decide +kernel
theorem d_Pn_measure_38 : decode b_Pn_measure 38 = .ok (.getfield 17, 3) := by decide +kernel
theorem d_Pn_measure_41 : decode b_Pn_measure 41 = .ok (.iload_n 3, 1) := by decide +kernel
theorem d_Pn_measure_42 : decode b_Pn_measure 42 = .ok (.bipush 8, 2) := by decide +kernel
theorem d_Pn_measure_44 : decode b_Pn_measure 44 = .ok (.imul, 1) := by decide +kernel
theorem d_Pn_measure_45 : decode b_Pn_measure 45 = .ok (.bipush 7, 2) := by decide +kernel
theorem d_Pn_measure_47 : decode b_Pn_measure 47 = .ok (.iadd, 1) := by decide +kernel
theorem d_Pn_measure_48 : decode b_Pn_measure 48 = .ok (.iload 4, 2) := by decide +kernel
theorem d_Pn_measure_50 : decode b_Pn_measure 50 = .ok (.iastore, 1) := by decide +kernel
theorem d_Pn_measure_51 : decode b_Pn_measure 51 = .ok (.iconst 0, 1) := by decide +kernel
theorem d_Pn_measure_52 : decode b_Pn_measure 52 = .ok (.istore 5, 2) := by decide +kernel
theorem d_Pn_measure_54 : decode b_Pn_measure 54 = .ok (.iload 5, 2) := by decide +kernel
theorem d_Pn_measure_56 : decode b_Pn_measure 56 = .ok (.aload_n 0, 1) := by decide +kernel
theorem d_Pn_measure_57 : decode b_Pn_measure 57 = .ok (.getfield 24, 3) := by decide +kernel
theorem d_Pn_measure_60 : decode b_Pn_measure 60 = .ok (.if_icmp .ge 44, 3) := by decide +kernel
theorem d_Pn_measure_63 : decode b_Pn_measure 63 = .ok (.aload_n 0, 1) := by decide +kernel
theorem d_Pn_measure_64 : decode b_Pn_measure 64 = .ok (.getfield 17, 3) := by decide +kernel
theorem d_Pn_measure_67 : decode b_Pn_measure 67 = .ok (.iload_n 3, 1) := by decide +kernel
theorem d_Pn_measure_68 : decode b_Pn_measure 68 = .ok (.bipush 8, 2) := by decide +kernel
theorem d_Pn_measure_70 : decode b_Pn_measure 70 = .ok (.imul, 1) := by decide +kernel
theorem d_Pn_measure_71 : decode b_Pn_measure 71 = .ok (.iload 5, 2) := by decide +kernel
theorem d_Pn_measure_73 : decode b_Pn_measure 73 = .ok (.iadd, 1) := by decide +kernel
theorem d_Pn_measure_74 : decode b_Pn_measure 74 = .ok (.aload_n 1, 1) := by decide +kernel
theorem d_Pn_measure_75 : decode b_Pn_measure 75 = .ok (.aload_n 0, 1) := by decide +kernel
theorem d_Pn_measure_76 : decode b_Pn_measure 76 = .ok (.getfield 13, 3) := by decide +kernel
theorem d_Pn_measure_79 : decode b_Pn_measure 79 = .ok (.iload_n 3, 1) := by decide +kernel
theorem d_Pn_measure_80 : decode b_Pn_measure 80 = .ok (.aaload, 1) := by decide +kernel
theorem d_Pn_measure_81 : decode b_Pn_measure 81 = .ok (.getfield 28, 3) := by decide +kernel
theorem d_Pn_measure_84 : decode b_Pn_measure 84 = .ok (.aload_n 0, 1) := by decide +kernel
theorem d_Pn_measure_85 : decode b_Pn_measure 85 = .ok (.getfield 13, 3) := by decide +kernel
theorem d_Pn_measure_88 : decode b_Pn_measure 88 = .ok (.iload 5, 2) := by decide +kernel
theorem d_Pn_measure_90 : decode b_Pn_measure 90 = .ok (.aaload, 1) := by decide +kernel
theorem d_Pn_measure_91 : decode b_Pn_measure 91 = .ok (.getfield 28, 3) := by decide +kernel
theorem d_Pn_measure_94 : decode b_Pn_measure 94 = .ok (.invokestatic 32, 3) := by decide +kernel
theorem d_Pn_measure_97 : decode b_Pn_measure 97 = .ok (.iastore, 1) := by decide +kernel
theorem d_Pn_measure_98 : decode b_Pn_measure 98 = .ok (.iinc 5 1, 3) := by decide +kernel
theorem d_Pn_measure_101 : decode b_Pn_measure 101 = .ok (.goto (-47), 3) := by decide +kernel
theorem d_Pn_measure_104 : decode b_Pn_measure 104 = .ok (.iinc 3 1, 3) := by decide +kernel
theorem d_Pn_measure_107 : decode b_Pn_measure 107 = .ok (.goto (-105), 3) := by decide +kernel
theorem d_Pn_measure_110 : decode b_Pn_measure 110 = .ok (.return_, 1) := by decide +kernel
theorem d_Pn_legOf_0 : decode b_Pn_legOf 0 = .ok (.aload_n 0, 1) := by decide +kernel
theorem d_Pn_legOf_1 : decode b_Pn_legOf 1 = .ok (.aload_n 1, 1) := by decide +kernel
theorem d_Pn_legOf_2 : decode b_Pn_legOf 2 = .ok (.aload_n 2, 1) := by decide +kernel
theorem d_Pn_legOf_3 : decode b_Pn_legOf 3 = .ok (.invokevirtual 36, 3) := by decide +kernel
theorem d_Pn_legOf_6 : decode b_Pn_legOf 6 = .ok (.istore_n 3, 1) := by decide +kernel
theorem d_Pn_legOf_7 : decode b_Pn_legOf 7 = .ok (.iload_n 3, 1) := by decide +kernel
theorem d_Pn_legOf_8 : decode b_Pn_legOf 8 = .ok (.iconst (-1), 1) := by decide +kernel
theorem d_Pn_legOf_9 : decode b_Pn_legOf 9 = .ok (.if_icmp .ne 8, 3) := by decide +kernel
theorem d_Pn_legOf_12 : decode b_Pn_legOf 12 = .ok (.ldc 42, 2) := by decide +kernel
theorem d_Pn_legOf_14 : decode b_Pn_legOf 14 = .ok (.goto 4, 3) := by decide +kernel
theorem d_Pn_legOf_17 : decode b_Pn_legOf 17 = .ok (.iload_n 3, 1) := by decide +kernel
theorem d_Pn_legOf_18 : decode b_Pn_legOf 18 = .ok (.ireturn, 1) := by decide +kernel
theorem d_Pn_plan_0 : decode b_Pn_plan 0 = .ok (.iconst 0, 1) := by decide +kernel
theorem d_Pn_plan_1 : decode b_Pn_plan 1 = .ok (.istore_n 1, 1) := by decide +kernel
theorem d_Pn_plan_2 : decode b_Pn_plan 2 = .ok (.iload_n 1, 1) := by decide +kernel
theorem d_Pn_plan_3 : decode b_Pn_plan 3 = .ok (.iconst 1, 1) := by decide +kernel
theorem d_Pn_plan_4 : decode b_Pn_plan 4 = .ok (.aload_n 0, 1) := by decide +kernel
theorem d_Pn_plan_5 : decode b_Pn_plan 5 = .ok (.getfield 24, 3) := by decide +kernel
theorem d_Pn_plan_8 : decode b_Pn_plan 8 = .ok (.ishl, 1) := by decide +kernel
theorem d_Pn_plan_9 : decode b_Pn_plan 9 = .ok (.if_icmp .ge 69, 3) := by decide +kernel
theorem d_Pn_plan_12 : decode b_Pn_plan 12 = .ok (.iconst 0, 1) := by decide +kernel
theorem d_Pn_plan_13 : decode b_Pn_plan 13 = .ok (.istore_n 2, 1) := by decide +kernel
theorem d_Pn_plan_14 : decode b_Pn_plan 14 = .ok (.iload_n 2, 1) := by decide +kernel
theorem d_Pn_plan_15 : decode b_Pn_plan 15 = .ok (.aload_n 0, 1) := by decide +kernel
theorem d_Pn_plan_16 : decode b_Pn_plan 16 = .ok (.getfield 24, 3) := by decide +kernel
theorem d_Pn_plan_19 : decode b_Pn_plan 19 = .ok (.if_icmp .ge 34, 3) := by decide +kernel
theorem d_Pn_plan_22 : decode b_Pn_plan 22 = .ok (.iload_n 2, 1) := by decide +kernel
theorem d_Pn_plan_23 : decode b_Pn_plan 23 = .ok (.iload_n 1, 1) := by decide +kernel
theorem d_Pn_plan_24 : decode b_Pn_plan 24 = .ok (.invokestatic 43, 3) := by decide +kernel
theorem d_Pn_plan_27 : decode b_Pn_plan 27 = .ok (.ifCond .ne 20, 3) := by decide +kernel
theorem d_Pn_plan_30 : decode b_Pn_plan 30 = .ok (.aload_n 0, 1) := by decide +kernel
theorem d_Pn_plan_31 : decode b_Pn_plan 31 = .ok (.getfield 21, 3) := by decide +kernel
theorem d_Pn_plan_34 : decode b_Pn_plan 34 = .ok (.iload_n 1, 1) := by decide +kernel
theorem d_Pn_plan_35 : decode b_Pn_plan 35 = .ok (.bipush 8, 2) := by decide +kernel
theorem d_Pn_plan_37 : decode b_Pn_plan 37 = .ok (.imul, 1) := by decide +kernel
theorem d_Pn_plan_38 : decode b_Pn_plan 38 = .ok (.iload_n 2, 1) := by decide +kernel
theorem d_Pn_plan_39 : decode b_Pn_plan 39 = .ok (.iadd, 1) := by decide +kernel
theorem d_Pn_plan_40 : decode b_Pn_plan 40 = .ok (.aload_n 0, 1) := by decide +kernel
theorem d_Pn_plan_41 : decode b_Pn_plan 41 = .ok (.iload_n 2, 1) := by decide +kernel
theorem d_Pn_plan_42 : decode b_Pn_plan 42 = .ok (.iload_n 1, 1) := by decide +kernel
theorem d_Pn_plan_43 : decode b_Pn_plan 43 = .ok (.invokevirtual 47, 3) := by decide +kernel
theorem d_Pn_plan_46 : decode b_Pn_plan 46 = .ok (.iastore, 1) := by decide +kernel
theorem d_Pn_plan_47 : decode b_Pn_plan 47 = .ok (.iinc 2 1, 3) := by decide +kernel
theorem d_Pn_plan_50 : decode b_Pn_plan 50 = .ok (.goto (-36), 3) := by decide +kernel
theorem d_Pn_plan_53 : decode b_Pn_plan 53 = .ok (.aload_n 0, 1) := by decide +kernel
theorem d_Pn_plan_54 : decode b_Pn_plan 54 = .ok (.getfield 21, 3) := by decide +kernel
theorem d_Pn_plan_57 : decode b_Pn_plan 57 = .ok (.iload_n 1, 1) := by decide +kernel
theorem d_Pn_plan_58 : decode b_Pn_plan 58 = .ok (.bipush 8, 2) := by decide +kernel
theorem d_Pn_plan_60 : decode b_Pn_plan 60 = .ok (.imul, 1) := by decide +kernel
theorem d_Pn_plan_61 : decode b_Pn_plan 61 = .ok (.bipush 7, 2) := by decide +kernel
theorem d_Pn_plan_63 : decode b_Pn_plan 63 = .ok (.iadd, 1) := by decide +kernel
theorem d_Pn_plan_64 : decode b_Pn_plan 64 = .ok (.aload_n 0, 1) := by decide +kernel
theorem d_Pn_plan_65 : decode b_Pn_plan 65 = .ok (.bipush 7, 2) := by decide +kernel
theorem d_Pn_plan_67 : decode b_Pn_plan 67 = .ok (.iload_n 1, 1) := by decide +kernel
theorem d_Pn_plan_68 : decode b_Pn_plan 68 = .ok (.invokevirtual 47, 3) := by decide +kernel
theorem d_Pn_plan_71 : decode b_Pn_plan 71 = .ok (.iastore, 1) := by decide +kernel
theorem d_Pn_plan_72 : decode b_Pn_plan 72 = .ok (.iinc 1 1, 3) := by decide +kernel
theorem d_Pn_plan_75 : decode b_Pn_plan 75 = .ok (.goto (-73), 3) := by decide +kernel
theorem d_Pn_plan_78 : decode b_Pn_plan 78 = .ok (.return_, 1) := by decide +kernel
theorem d_Pn_leastRest_0 : decode b_Pn_leastRest 0 = .ok (.iload_n 2, 1) := by decide +kernel
theorem d_Pn_leastRest_1 : decode b_Pn_leastRest 1 = .ok (.ifCond .ne 16, 3) := by decide +kernel
theorem d_Pn_leastRest_4 : decode b_Pn_leastRest 4 = .ok (.aload_n 0, 1) := by decide +kernel
theorem d_Pn_leastRest_5 : decode b_Pn_leastRest 5 = .ok (.getfield 17, 3) := by decide +kernel
theorem d_Pn_leastRest_8 : decode b_Pn_leastRest 8 = .ok (.iload_n 1, 1) := by decide +kernel
theorem d_Pn_leastRest_9 : decode b_Pn_leastRest 9 = .ok (.bipush 8, 2) := by decide +kernel
theorem d_Pn_leastRest_11 : decode b_Pn_leastRest 11 = .ok (.imul, 1) := by decide +kernel
theorem d_Pn_leastRest_12 : decode b_Pn_leastRest 12 = .ok (.bipush 7, 2) := by decide +kernel
theorem d_Pn_leastRest_14 : decode b_Pn_leastRest 14 = .ok (.iadd, 1) := by decide +kernel
theorem d_Pn_leastRest_15 : decode b_Pn_leastRest 15 = .ok (.iaload, 1) := by decide +kernel
theorem d_Pn_leastRest_16 : decode b_Pn_leastRest 16 = .ok (.ireturn, 1) := by decide +kernel
theorem d_Pn_leastRest_17 : decode b_Pn_leastRest 17 = .ok (.ldc 42, 2) := by decide +kernel
theorem d_Pn_leastRest_19 : decode b_Pn_leastRest 19 = .ok (.istore_n 3, 1) := by decide +kernel
theorem d_Pn_leastRest_20 : decode b_Pn_leastRest 20 = .ok (.iconst 0, 1) := by decide +kernel
theorem d_Pn_leastRest_21 : decode b_Pn_leastRest 21 = .ok (.istore 4, 2) := by decide +kernel
theorem d_Pn_leastRest_23 : decode b_Pn_leastRest 23 = .ok (.iload 4, 2) := by decide +kernel
theorem d_Pn_leastRest_25 : decode b_Pn_leastRest 25 = .ok (.aload_n 0, 1) := by decide +kernel
theorem d_Pn_leastRest_26 : decode b_Pn_leastRest 26 = .ok (.getfield 24, 3) := by decide +kernel
theorem d_Pn_leastRest_29 : decode b_Pn_leastRest 29 = .ok (.if_icmp .ge 31, 3) := by decide +kernel
theorem d_Pn_leastRest_32 : decode b_Pn_leastRest 32 = .ok (.iload 4, 2) := by decide +kernel
theorem d_Pn_leastRest_34 : decode b_Pn_leastRest 34 = .ok (.iload_n 2, 1) := by decide +kernel
theorem d_Pn_leastRest_35 : decode b_Pn_leastRest 35 = .ok (.invokestatic 43, 3) := by decide +kernel
theorem d_Pn_leastRest_38 : decode b_Pn_leastRest 38 = .ok (.ifCond .eq 16, 3) := by decide +kernel
theorem d_Pn_leastRest_41 : decode b_Pn_leastRest 41 = .ok (.iload_n 3, 1) := by decide +kernel
theorem d_Pn_leastRest_42 : decode b_Pn_leastRest 42 = .ok (.aload_n 0, 1) := by decide +kernel
theorem d_Pn_leastRest_43 : decode b_Pn_leastRest 43 = .ok (.iload_n 1, 1) := by decide +kernel
theorem d_Pn_leastRest_44 : decode b_Pn_leastRest 44 = .ok (.iload 4, 2) := by decide +kernel
theorem d_Pn_leastRest_46 : decode b_Pn_leastRest 46 = .ok (.iload_n 2, 1) := by decide +kernel
theorem d_Pn_leastRest_47 : decode b_Pn_leastRest 47 = .ok (.invokevirtual 51, 3) := by decide +kernel
theorem d_Pn_leastRest_50 : decode b_Pn_leastRest 50 = .ok (.invokestatic 55, 3) := by decide +kernel
theorem d_Pn_leastRest_53 : decode b_Pn_leastRest 53 = .ok (.istore_n 3, 1) := by decide +kernel
theorem d_Pn_leastRest_54 : decode b_Pn_leastRest 54 = .ok (.iinc 4 1, 3) := by decide +kernel
theorem d_Pn_leastRest_57 : decode b_Pn_leastRest 57 = .ok (.goto (-34), 3) := by decide +kernel
theorem d_Pn_leastRest_60 : decode b_Pn_leastRest 60 = .ok (.iload_n 3, 1) := by decide +kernel
theorem d_Pn_leastRest_61 : decode b_Pn_leastRest 61 = .ok (.ireturn, 1) := by decide +kernel
theorem d_Pn_restBy_0 : decode b_Pn_restBy 0 = .ok (.aload_n 0, 1) := by decide +kernel
theorem d_Pn_restBy_1 : decode b_Pn_restBy 1 = .ok (.getfield 17, 3) := by decide +kernel
theorem d_Pn_restBy_4 : decode b_Pn_restBy 4 = .ok (.iload_n 1, 1) := by decide +kernel
theorem d_Pn_restBy_5 : decode b_Pn_restBy 5 = .ok (.bipush 8, 2) := by decide +kernel
theorem d_Pn_restBy_7 : decode b_Pn_restBy 7 = .ok (.imul, 1) := by decide +kernel
theorem d_Pn_restBy_8 : decode b_Pn_restBy 8 = .ok (.iload_n 2, 1) := by decide +kernel
theorem d_Pn_restBy_9 : decode b_Pn_restBy 9 = .ok (.iadd, 1) := by decide +kernel
theorem d_Pn_restBy_10 : decode b_Pn_restBy 10 = .ok (.iaload, 1) := by decide +kernel
theorem d_Pn_restBy_11 : decode b_Pn_restBy 11 = .ok (.aload_n 0, 1) := by decide +kernel
theorem d_Pn_restBy_12 : decode b_Pn_restBy 12 = .ok (.getfield 21, 3) := by decide +kernel
theorem d_Pn_restBy_15 : decode b_Pn_restBy 15 = .ok (.iload_n 3, 1) := by decide +kernel
theorem d_Pn_restBy_16 : decode b_Pn_restBy 16 = .ok (.iconst 1, 1) := by decide +kernel
theorem d_Pn_restBy_17 : decode b_Pn_restBy 17 = .ok (.iload_n 2, 1) := by decide +kernel
theorem d_Pn_restBy_18 : decode b_Pn_restBy 18 = .ok (.ishl, 1) := by decide +kernel
theorem d_Pn_restBy_19 : decode b_Pn_restBy 19 = .ok (.isub, 1) := by decide +kernel
theorem d_Pn_restBy_20 : decode b_Pn_restBy 20 = .ok (.bipush 8, 2) := by decide +kernel
theorem d_Pn_restBy_22 : decode b_Pn_restBy 22 = .ok (.imul, 1) := by decide +kernel
theorem d_Pn_restBy_23 : decode b_Pn_restBy 23 = .ok (.iload_n 2, 1) := by decide +kernel
theorem d_Pn_restBy_24 : decode b_Pn_restBy 24 = .ok (.iadd, 1) := by decide +kernel
theorem d_Pn_restBy_25 : decode b_Pn_restBy 25 = .ok (.iaload, 1) := by decide +kernel
theorem d_Pn_restBy_26 : decode b_Pn_restBy 26 = .ok (.iadd, 1) := by decide +kernel
theorem d_Pn_restBy_27 : decode b_Pn_restBy 27 = .ok (.ireturn, 1) := by decide +kernel
theorem d_Pn_isIn_0 : decode b_Pn_isIn 0 = .ok (.iload_n 1, 1) := by decide +kernel
theorem d_Pn_isIn_1 : decode b_Pn_isIn 1 = .ok (.iload_n 0, 1) := by decide +kernel
theorem d_Pn_isIn_2 : decode b_Pn_isIn 2 = .ok (.ishr, 1) := by decide +kernel
theorem d_Pn_isIn_3 : decode b_Pn_isIn 3 = .ok (.iconst 1, 1) := by decide +kernel
theorem d_Pn_isIn_4 : decode b_Pn_isIn 4 = .ok (.iand, 1) := by decide +kernel
theorem d_Pn_isIn_5 : decode b_Pn_isIn 5 = .ok (.iconst 1, 1) := by decide +kernel
theorem d_Pn_isIn_6 : decode b_Pn_isIn 6 = .ok (.if_icmp .ne 7, 3) := by decide +kernel
theorem d_Pn_isIn_9 : decode b_Pn_isIn 9 = .ok (.iconst 1, 1) := by decide +kernel
theorem d_Pn_isIn_10 : decode b_Pn_isIn 10 = .ok (.goto 4, 3) := by decide +kernel
theorem d_Pn_isIn_13 : decode b_Pn_isIn 13 = .ok (.iconst 0, 1) := by decide +kernel
theorem d_Pn_isIn_14 : decode b_Pn_isIn 14 = .ok (.ireturn, 1) := by decide +kernel
theorem d_Pn_firstOnes_0 : decode b_Pn_firstOnes 0 = .ok (.iconst 1, 1) := by decide +kernel
theorem d_Pn_firstOnes_1 : decode b_Pn_firstOnes 1 = .ok (.iload_n 0, 1) := by decide +kernel
theorem d_Pn_firstOnes_2 : decode b_Pn_firstOnes 2 = .ok (.ishl, 1) := by decide +kernel
theorem d_Pn_firstOnes_3 : decode b_Pn_firstOnes 3 = .ok (.iconst 1, 1) := by decide +kernel
theorem d_Pn_firstOnes_4 : decode b_Pn_firstOnes 4 = .ok (.isub, 1) := by decide +kernel
theorem d_Pn_firstOnes_5 : decode b_Pn_firstOnes 5 = .ok (.ireturn, 1) := by decide +kernel
theorem d_Pn_leastWalks_0 : decode b_Pn_leastWalks 0 = .ok (.aload_n 0, 1) := by decide +kernel
theorem d_Pn_leastWalks_1 : decode b_Pn_leastWalks 1 = .ok (.getfield 21, 3) := by decide +kernel
theorem d_Pn_leastWalks_4 : decode b_Pn_leastWalks 4 = .ok (.iload_n 1, 1) := by decide +kernel
theorem d_Pn_leastWalks_5 : decode b_Pn_leastWalks 5 = .ok (.invokestatic 60, 3) := by decide +kernel
theorem d_Pn_leastWalks_8 : decode b_Pn_leastWalks 8 = .ok (.bipush 8, 2) := by decide +kernel
theorem d_Pn_leastWalks_10 : decode b_Pn_leastWalks 10 = .ok (.imul, 1) := by decide +kernel
theorem d_Pn_leastWalks_11 : decode b_Pn_leastWalks 11 = .ok (.bipush 7, 2) := by decide +kernel
theorem d_Pn_leastWalks_13 : decode b_Pn_leastWalks 13 = .ok (.iadd, 1) := by decide +kernel
theorem d_Pn_leastWalks_14 : decode b_Pn_leastWalks 14 = .ok (.iaload, 1) := by decide +kernel
theorem d_Pn_leastWalks_15 : decode b_Pn_leastWalks 15 = .ok (.ireturn, 1) := by decide +kernel
theorem d_Pn_stopsWithin_0 : decode b_Pn_stopsWithin 0 = .ok (.iconst 0, 1) := by decide +kernel
theorem d_Pn_stopsWithin_1 : decode b_Pn_stopsWithin 1 = .ok (.istore_n 2, 1) := by decide +kernel
theorem d_Pn_stopsWithin_2 : decode b_Pn_stopsWithin 2 = .ok (.iconst 0, 1) := by decide +kernel
theorem d_Pn_stopsWithin_3 : decode b_Pn_stopsWithin 3 = .ok (.istore_n 3, 1) := by decide +kernel
theorem d_Pn_stopsWithin_4 : decode b_Pn_stopsWithin 4 = .ok (.iload_n 3, 1) := by decide +kernel
theorem d_Pn_stopsWithin_5 : decode b_Pn_stopsWithin 5 = .ok (.aload_n 0, 1) := by decide +kernel
theorem d_Pn_stopsWithin_6 : decode b_Pn_stopsWithin 6 = .ok (.getfield 24, 3) := by decide +kernel
theorem d_Pn_stopsWithin_9 : decode b_Pn_stopsWithin 9 = .ok (.if_icmp .ge 21, 3) := by decide +kernel
theorem d_Pn_stopsWithin_12 : decode b_Pn_stopsWithin 12 = .ok (.iload_n 2, 1) := by decide +kernel
theorem d_Pn_stopsWithin_13 : decode b_Pn_stopsWithin 13 = .ok (.aload_n 0, 1) := by decide +kernel
theorem d_Pn_stopsWithin_14 : decode b_Pn_stopsWithin 14 = .ok (.getfield 13, 3) := by decide +kernel
theorem d_Pn_stopsWithin_17 : decode b_Pn_stopsWithin 17 = .ok (.iload_n 3, 1) := by decide +kernel
theorem d_Pn_stopsWithin_18 : decode b_Pn_stopsWithin 18 = .ok (.aaload, 1) := by decide +kernel
theorem d_Pn_stopsWithin_19 : decode b_Pn_stopsWithin 19 = .ok (.getfield 64, 3) := by decide +kernel
theorem d_Pn_stopsWithin_22 : decode b_Pn_stopsWithin 22 = .ok (.iadd, 1) := by decide +kernel
theorem d_Pn_stopsWithin_23 : decode b_Pn_stopsWithin 23 = .ok (.istore_n 2, 1) := by decide +kernel
theorem d_Pn_stopsWithin_24 : decode b_Pn_stopsWithin 24 = .ok (.iinc 3 1, 3) := by decide +kernel
theorem d_Pn_stopsWithin_27 : decode b_Pn_stopsWithin 27 = .ok (.goto (-23), 3) := by decide +kernel
theorem d_Pn_stopsWithin_30 : decode b_Pn_stopsWithin 30 = .ok (.aload_n 0, 1) := by decide +kernel
theorem d_Pn_stopsWithin_31 : decode b_Pn_stopsWithin 31 = .ok (.getfield 24, 3) := by decide +kernel
theorem d_Pn_stopsWithin_34 : decode b_Pn_stopsWithin 34 = .ok (.istore_n 3, 1) := by decide +kernel
theorem d_Pn_stopsWithin_35 : decode b_Pn_stopsWithin 35 = .ok (.iload_n 3, 1) := by decide +kernel
theorem d_Pn_stopsWithin_36 : decode b_Pn_stopsWithin 36 = .ok (.ifCond .le 47, 3) := by decide +kernel
theorem d_Pn_stopsWithin_39 : decode b_Pn_stopsWithin 39 = .ok (.aload_n 0, 1) := by decide +kernel
theorem d_Pn_stopsWithin_40 : decode b_Pn_stopsWithin 40 = .ok (.iload_n 3, 1) := by decide +kernel
theorem d_Pn_stopsWithin_41 : decode b_Pn_stopsWithin 41 = .ok (.invokevirtual 67, 3) := by decide +kernel
theorem d_Pn_stopsWithin_44 : decode b_Pn_stopsWithin 44 = .ok (.istore 4, 2) := by decide +kernel
theorem d_Pn_stopsWithin_46 : decode b_Pn_stopsWithin 46 = .ok (.iload 4, 2) := by decide +kernel
theorem d_Pn_stopsWithin_48 : decode b_Pn_stopsWithin 48 = .ok (.ldc 42, 2) := by decide +kernel
theorem d_Pn_stopsWithin_50 : decode b_Pn_stopsWithin 50 = .ok (.if_icmp .ge 13, 3) := by decide +kernel
theorem d_Pn_stopsWithin_53 : decode b_Pn_stopsWithin 53 = .ok (.iload 4, 2) := by decide +kernel
theorem d_Pn_stopsWithin_55 : decode b_Pn_stopsWithin 55 = .ok (.iload_n 2, 1) := by decide +kernel
theorem d_Pn_stopsWithin_56 : decode b_Pn_stopsWithin 56 = .ok (.iadd, 1) := by decide +kernel
theorem d_Pn_stopsWithin_57 : decode b_Pn_stopsWithin 57 = .ok (.iload_n 1, 1) := by decide +kernel
theorem d_Pn_stopsWithin_58 : decode b_Pn_stopsWithin 58 = .ok (.if_icmp .gt 5, 3) := by decide +kernel
theorem d_Pn_stopsWithin_61 : decode b_Pn_stopsWithin 61 = .ok (.iload_n 3, 1) := by decide +kernel
theorem d_Pn_stopsWithin_62 : decode b_Pn_stopsWithin 62 = .ok (.ireturn, 1) := by decide +kernel
theorem d_Pn_stopsWithin_63 : decode b_Pn_stopsWithin 63 = .ok (.iload_n 2, 1) := by decide +kernel
theorem d_Pn_stopsWithin_64 : decode b_Pn_stopsWithin 64 = .ok (.aload_n 0, 1) := by decide +kernel
theorem d_Pn_stopsWithin_65 : decode b_Pn_stopsWithin 65 = .ok (.getfield 13, 3) := by decide +kernel
theorem d_Pn_stopsWithin_68 : decode b_Pn_stopsWithin 68 = .ok (.iload_n 3, 1) := by decide +kernel
theorem d_Pn_stopsWithin_69 : decode b_Pn_stopsWithin 69 = .ok (.iconst 1, 1) := by decide +kernel
theorem d_Pn_stopsWithin_70 : decode b_Pn_stopsWithin 70 = .ok (.isub, 1) := by decide +kernel
theorem d_Pn_stopsWithin_71 : decode b_Pn_stopsWithin 71 = .ok (.aaload, 1) := by decide +kernel
theorem d_Pn_stopsWithin_72 : decode b_Pn_stopsWithin 72 = .ok (.getfield 64, 3) := by decide +kernel
theorem d_Pn_stopsWithin_75 : decode b_Pn_stopsWithin 75 = .ok (.isub, 1) := by decide +kernel
theorem d_Pn_stopsWithin_76 : decode b_Pn_stopsWithin 76 = .ok (.istore_n 2, 1) := by decide +kernel
theorem d_Pn_stopsWithin_77 : decode b_Pn_stopsWithin 77 = .ok (.iinc 3 (-1), 3) := by decide +kernel
theorem d_Pn_stopsWithin_80 : decode b_Pn_stopsWithin 80 = .ok (.goto (-45), 3) := by decide +kernel
theorem d_Pn_stopsWithin_83 : decode b_Pn_stopsWithin 83 = .ok (.iconst 0, 1) := by decide +kernel
theorem d_Pn_stopsWithin_84 : decode b_Pn_stopsWithin 84 = .ok (.ireturn, 1) := by decide +kernel
theorem d_Pn_fill_0 : decode b_Pn_fill 0 = .ok (.iload_n 2, 1) := by decide +kernel
theorem d_Pn_fill_1 : decode b_Pn_fill 1 = .ok (.invokestatic 60, 3) := by decide +kernel
theorem d_Pn_fill_4 : decode b_Pn_fill 4 = .ok (.istore_n 3, 1) := by decide +kernel
theorem d_Pn_fill_5 : decode b_Pn_fill 5 = .ok (.aload_n 0, 1) := by decide +kernel
theorem d_Pn_fill_6 : decode b_Pn_fill 6 = .ok (.bipush 7, 2) := by decide +kernel
theorem d_Pn_fill_8 : decode b_Pn_fill 8 = .ok (.iload_n 3, 1) := by decide +kernel
theorem d_Pn_fill_9 : decode b_Pn_fill 9 = .ok (.invokevirtual 70, 3) := by decide +kernel
theorem d_Pn_fill_12 : decode b_Pn_fill 12 = .ok (.istore 4, 2) := by decide +kernel
theorem d_Pn_fill_14 : decode b_Pn_fill 14 = .ok (.iconst 0, 1) := by decide +kernel
theorem d_Pn_fill_15 : decode b_Pn_fill 15 = .ok (.istore 5, 2) := by decide +kernel
theorem d_Pn_fill_17 : decode b_Pn_fill 17 = .ok (.iload 5, 2) := by decide +kernel
theorem d_Pn_fill_19 : decode b_Pn_fill 19 = .ok (.iload_n 2, 1) := by decide +kernel
theorem d_Pn_fill_20 : decode b_Pn_fill 20 = .ok (.if_icmp .ge 45, 3) := by decide +kernel
theorem d_Pn_fill_23 : decode b_Pn_fill 23 = .ok (.iload 4, 2) := by decide +kernel
theorem d_Pn_fill_25 : decode b_Pn_fill 25 = .ok (.iconst (-1), 1) := by decide +kernel
theorem d_Pn_fill_26 : decode b_Pn_fill 26 = .ok (.if_icmp .eq 39, 3) := by decide +kernel
theorem d_Pn_fill_29 : decode b_Pn_fill 29 = .ok (.aload_n 1, 1) := by decide +kernel
theorem d_Pn_fill_30 : decode b_Pn_fill 30 = .ok (.aload_n 0, 1) := by decide +kernel
theorem d_Pn_fill_31 : decode b_Pn_fill 31 = .ok (.getfield 13, 3) := by decide +kernel
theorem d_Pn_fill_34 : decode b_Pn_fill 34 = .ok (.iload 4, 2) := by decide +kernel
theorem d_Pn_fill_36 : decode b_Pn_fill 36 = .ok (.aaload, 1) := by decide +kernel
theorem d_Pn_fill_37 : decode b_Pn_fill 37 = .ok (.iload 5, 2) := by decide +kernel
theorem d_Pn_fill_39 : decode b_Pn_fill 39 = .ok (.iconst 0, 1) := by decide +kernel
theorem d_Pn_fill_40 : decode b_Pn_fill 40 = .ok (.invokevirtual 73, 3) := by decide +kernel
theorem d_Pn_fill_43 : decode b_Pn_fill 43 = .ok (.iload_n 3, 1) := by decide +kernel
theorem d_Pn_fill_44 : decode b_Pn_fill 44 = .ok (.iconst 1, 1) := by decide +kernel
theorem d_Pn_fill_45 : decode b_Pn_fill 45 = .ok (.iload 4, 2) := by decide +kernel
theorem d_Pn_fill_47 : decode b_Pn_fill 47 = .ok (.ishl, 1) := by decide +kernel
theorem d_Pn_fill_48 : decode b_Pn_fill 48 = .ok (.isub, 1) := by decide +kernel
theorem d_Pn_fill_49 : decode b_Pn_fill 49 = .ok (.istore_n 3, 1) := by decide +kernel
theorem d_Pn_fill_50 : decode b_Pn_fill 50 = .ok (.aload_n 0, 1) := by decide +kernel
theorem d_Pn_fill_51 : decode b_Pn_fill 51 = .ok (.iload 4, 2) := by decide +kernel
theorem d_Pn_fill_53 : decode b_Pn_fill 53 = .ok (.iload_n 3, 1) := by decide +kernel
theorem d_Pn_fill_54 : decode b_Pn_fill 54 = .ok (.invokevirtual 70, 3) := by decide +kernel
theorem d_Pn_fill_57 : decode b_Pn_fill 57 = .ok (.istore 4, 2) := by decide +kernel
theorem d_Pn_fill_59 : decode b_Pn_fill 59 = .ok (.iinc 5 1, 3) := by decide +kernel
theorem d_Pn_fill_62 : decode b_Pn_fill 62 = .ok (.goto (-45), 3) := by decide +kernel
theorem d_Pn_fill_65 : decode b_Pn_fill 65 = .ok (.aload_n 1, 1) := by decide +kernel
theorem d_Pn_fill_66 : decode b_Pn_fill 66 = .ok (.aload_n 0, 1) := by decide +kernel
theorem d_Pn_fill_67 : decode b_Pn_fill 67 = .ok (.iload_n 2, 1) := by decide +kernel
theorem d_Pn_fill_68 : decode b_Pn_fill 68 = .ok (.invokevirtual 67, 3) := by decide +kernel
theorem d_Pn_fill_71 : decode b_Pn_fill 71 = .ok (.putfield 79, 3) := by decide +kernel
theorem d_Pn_fill_74 : decode b_Pn_fill 74 = .ok (.return_, 1) := by decide +kernel
theorem d_Pn_nextNode_0 : decode b_Pn_nextNode 0 = .ok (.iconst (-1), 1) := by decide +kernel
theorem d_Pn_nextNode_1 : decode b_Pn_nextNode 1 = .ok (.istore_n 3, 1) := by decide +kernel
theorem d_Pn_nextNode_2 : decode b_Pn_nextNode 2 = .ok (.iconst 0, 1) := by decide +kernel
theorem d_Pn_nextNode_3 : decode b_Pn_nextNode 3 = .ok (.istore 4, 2) := by decide +kernel
theorem d_Pn_nextNode_5 : decode b_Pn_nextNode 5 = .ok (.iload 4, 2) := by decide +kernel
theorem d_Pn_nextNode_7 : decode b_Pn_nextNode 7 = .ok (.aload_n 0, 1) := by decide +kernel
theorem d_Pn_nextNode_8 : decode b_Pn_nextNode 8 = .ok (.getfield 24, 3) := by decide +kernel
theorem d_Pn_nextNode_11 : decode b_Pn_nextNode 11 = .ok (.if_icmp .ge 70, 3) := by decide +kernel
theorem d_Pn_nextNode_14 : decode b_Pn_nextNode 14 = .ok (.iload 4, 2) := by decide +kernel
theorem d_Pn_nextNode_16 : decode b_Pn_nextNode 16 = .ok (.iload_n 2, 1) := by decide +kernel
theorem d_Pn_nextNode_17 : decode b_Pn_nextNode 17 = .ok (.invokestatic 43, 3) := by decide +kernel
theorem d_Pn_nextNode_20 : decode b_Pn_nextNode 20 = .ok (.ifCond .eq 55, 3) := by decide +kernel
theorem d_Pn_nextNode_23 : decode b_Pn_nextNode 23 = .ok (.aload_n 0, 1) := by decide +kernel
theorem d_Pn_nextNode_24 : decode b_Pn_nextNode 24 = .ok (.iload_n 1, 1) := by decide +kernel
theorem d_Pn_nextNode_25 : decode b_Pn_nextNode 25 = .ok (.iload 4, 2) := by decide +kernel
theorem d_Pn_nextNode_27 : decode b_Pn_nextNode 27 = .ok (.iload_n 2, 1) := by decide +kernel
theorem d_Pn_nextNode_28 : decode b_Pn_nextNode 28 = .ok (.invokevirtual 51, 3) := by decide +kernel
theorem d_Pn_nextNode_31 : decode b_Pn_nextNode 31 = .ok (.aload_n 0, 1) := by decide +kernel
theorem d_Pn_nextNode_32 : decode b_Pn_nextNode 32 = .ok (.getfield 21, 3) := by decide +kernel
theorem d_Pn_nextNode_35 : decode b_Pn_nextNode 35 = .ok (.iload_n 2, 1) := by decide +kernel
theorem d_Pn_nextNode_36 : decode b_Pn_nextNode 36 = .ok (.bipush 8, 2) := by decide +kernel
theorem d_Pn_nextNode_38 : decode b_Pn_nextNode 38 = .ok (.imul, 1) := by decide +kernel
theorem d_Pn_nextNode_39 : decode b_Pn_nextNode 39 = .ok (.iload_n 1, 1) := by decide +kernel
theorem d_Pn_nextNode_40 : decode b_Pn_nextNode 40 = .ok (.iadd, 1) := by decide +kernel
theorem d_Pn_nextNode_41 : decode b_Pn_nextNode 41 = .ok (.iaload, 1) := by decide +kernel
theorem d_Pn_nextNode_42 : decode b_Pn_nextNode 42 = .ok (.if_icmp .ne 33, 3) := by decide +kernel
theorem d_Pn_nextNode_45 : decode b_Pn_nextNode 45 = .ok (.iload_n 3, 1) := by decide +kernel
theorem d_Pn_nextNode_46 : decode b_Pn_nextNode 46 = .ok (.iconst (-1), 1) := by decide +kernel
theorem d_Pn_nextNode_47 : decode b_Pn_nextNode 47 = .ok (.if_icmp .eq 25, 3) := by decide +kernel
theorem d_Pn_nextNode_50 : decode b_Pn_nextNode 50 = .ok (.aload_n 0, 1) := by decide +kernel
theorem d_Pn_nextNode_51 : decode b_Pn_nextNode 51 = .ok (.getfield 13, 3) := by decide +kernel
theorem d_Pn_nextNode_54 : decode b_Pn_nextNode 54 = .ok (.iload 4, 2) := by decide +kernel
theorem d_Pn_nextNode_56 : decode b_Pn_nextNode 56 = .ok (.aaload, 1) := by decide +kernel
theorem d_Pn_nextNode_57 : decode b_Pn_nextNode 57 = .ok (.getfield 82, 3) := by decide +kernel
theorem d_Pn_nextNode_60 : decode b_Pn_nextNode 60 = .ok (.aload_n 0, 1) := by decide +kernel
theorem d_Pn_nextNode_61 : decode b_Pn_nextNode 61 = .ok (.getfield 13, 3) := by decide +kernel
theorem d_Pn_nextNode_64 : decode b_Pn_nextNode 64 = .ok (.iload_n 3, 1) := by decide +kernel
theorem d_Pn_nextNode_65 : decode b_Pn_nextNode 65 = .ok (.aaload, 1) := by decide +kernel
theorem d_Pn_nextNode_66 : decode b_Pn_nextNode 66 = .ok (.getfield 82, 3) := by decide +kernel
theorem d_Pn_nextNode_69 : decode b_Pn_nextNode 69 = .ok (.if_icmp .ge 6, 3) := by decide +kernel
theorem d_Pn_nextNode_72 : decode b_Pn_nextNode 72 = .ok (.iload 4, 2) := by decide +kernel
theorem d_Pn_nextNode_74 : decode b_Pn_nextNode 74 = .ok (.istore_n 3, 1) := by decide +kernel
theorem d_Pn_nextNode_75 : decode b_Pn_nextNode 75 = .ok (.iinc 4 1, 3) := by decide +kernel
theorem d_Pn_nextNode_78 : decode b_Pn_nextNode 78 = .ok (.goto (-73), 3) := by decide +kernel
theorem d_Pn_nextNode_81 : decode b_Pn_nextNode 81 = .ok (.iload_n 3, 1) := by decide +kernel
theorem d_Pn_nextNode_82 : decode b_Pn_nextNode 82 = .ok (.ireturn, 1) := by decide +kernel
theorem d_To_init_0 : decode b_To_init 0 = .ok (.aload_n 0, 1) := by decide +kernel
theorem d_To_init_1 : decode b_To_init 1 = .ok (.invokespecial 3, 3) := by decide +kernel
theorem d_To_init_4 : decode b_To_init 4 = .ok (.aload_n 0, 1) := by decide +kernel
theorem d_To_init_5 : decode b_To_init 5 = .ok (.bipush 20, 2) := by decide +kernel
theorem d_To_init_7 : decode b_To_init 7 = .ok (.anewarray 9, 3) := by decide +kernel
theorem d_To_init_10 : decode b_To_init 10 = .ok (.putfield 11, 3) := by decide +kernel
theorem d_To_init_13 : decode b_To_init 13 = .ok (.aload_n 0, 1) := by decide +kernel
theorem d_To_init_14 : decode b_To_init 14 = .ok (.aconst_null, 1) := by decide +kernel
theorem d_To_init_15 : decode b_To_init 15 = .ok (.putfield 17, 3) := by decide +kernel
theorem d_To_init_18 : decode b_To_init 18 = .ok (.aload_n 0, 1) := by decide +kernel
theorem d_To_init_19 : decode b_To_init 19 = .ok (.iconst 0, 1) := by decide +kernel
theorem d_To_init_20 : decode b_To_init 20 = .ok (.putfield 21, 3) := by decide +kernel
theorem d_To_init_23 : decode b_To_init 23 = .ok (.aload_n 0, 1) := by decide +kernel
theorem d_To_init_24 : decode b_To_init 24 = .ok (.iconst 0, 1) := by decide +kernel
theorem d_To_init_25 : decode b_To_init 25 = .ok (.putfield 25, 3) := by decide +kernel
theorem d_To_init_28 : decode b_To_init 28 = .ok (.aload_n 0, 1) := by decide +kernel
theorem d_To_init_29 : decode b_To_init 29 = .ok (.iconst 0, 1) := by decide +kernel
theorem d_To_init_30 : decode b_To_init 30 = .ok (.putfield 28, 3) := by decide +kernel
theorem d_To_init_33 : decode b_To_init 33 = .ok (.aload_n 0, 1) := by decide +kernel
theorem d_To_init_34 : decode b_To_init 34 = .ok (.iconst 0, 1) := by decide +kernel
theorem d_To_init_35 : decode b_To_init 35 = .ok (.putfield 31, 3) := by decide +kernel
theorem d_To_init_38 : decode b_To_init 38 = .ok (.aload_n 0, 1) := by decide +kernel
theorem d_To_init_39 : decode b_To_init 39 = .ok (.iconst 0, 1) := by decide +kernel
theorem d_To_init_40 : decode b_To_init 40 = .ok (.putfield 34, 3) := by decide +kernel
theorem d_To_init_43 : decode b_To_init 43 = .ok (.return_, 1) := by decide +kernel
theorem d_To_begin_0 : decode b_To_begin 0 = .ok (.aload_n 0, 1) := by decide +kernel
theorem d_To_begin_1 : decode b_To_begin 1 = .ok (.invokevirtual 37, 3) := by decide +kernel
theorem d_To_begin_4 : decode b_To_begin 4 = .ok (.aload_n 0, 1) := by decide +kernel
theorem d_To_begin_5 : decode b_To_begin 5 = .ok (.aload_n 1, 1) := by decide +kernel
theorem d_To_begin_6 : decode b_To_begin 6 = .ok (.putfield 17, 3) := by decide +kernel
theorem d_To_begin_9 : decode b_To_begin 9 = .ok (.aload_n 0, 1) := by decide +kernel
theorem d_To_begin_10 : decode b_To_begin 10 = .ok (.iload_n 2, 1) := by decide +kernel
theorem d_To_begin_11 : decode b_To_begin 11 = .ok (.putfield 21, 3) := by decide +kernel
theorem d_To_begin_14 : decode b_To_begin 14 = .ok (.return_, 1) := by decide +kernel
theorem d_To_end_0 : decode b_To_end 0 = .ok (.aload_n 0, 1) := by decide +kernel
theorem d_To_end_1 : decode b_To_end 1 = .ok (.aconst_null, 1) := by decide +kernel
theorem d_To_end_2 : decode b_To_end 2 = .ok (.putfield 17, 3) := by decide +kernel
theorem d_To_end_5 : decode b_To_end 5 = .ok (.aload_n 0, 1) := by decide +kernel
theorem d_To_end_6 : decode b_To_end 6 = .ok (.iconst 0, 1) := by decide +kernel
theorem d_To_end_7 : decode b_To_end 7 = .ok (.putfield 25, 3) := by decide +kernel
theorem d_To_end_10 : decode b_To_end 10 = .ok (.aload_n 0, 1) := by decide +kernel
theorem d_To_end_11 : decode b_To_end 11 = .ok (.iconst 0, 1) := by decide +kernel
theorem d_To_end_12 : decode b_To_end 12 = .ok (.putfield 28, 3) := by decide +kernel
theorem d_To_end_15 : decode b_To_end 15 = .ok (.aload_n 0, 1) := by decide +kernel
theorem d_To_end_16 : decode b_To_end 16 = .ok (.iconst 0, 1) := by decide +kernel
theorem d_To_end_17 : decode b_To_end 17 = .ok (.putfield 31, 3) := by decide +kernel
theorem d_To_end_20 : decode b_To_end 20 = .ok (.aload_n 0, 1) := by decide +kernel
theorem d_To_end_21 : decode b_To_end 21 = .ok (.iconst 0, 1) := by decide +kernel
theorem d_To_end_22 : decode b_To_end 22 = .ok (.putfield 34, 3) := by decide +kernel
theorem d_To_end_25 : decode b_To_end 25 = .ok (.return_, 1) := by decide +kernel
theorem d_To_isStop_0 : decode b_To_isStop 0 = .ok (.iconst 0, 1) := by decide +kernel
theorem d_To_isStop_1 : decode b_To_isStop 1 = .ok (.istore_n 2, 1) := by decide +kernel
theorem d_To_isStop_2 : decode b_To_isStop 2 = .ok (.iload_n 2, 1) := by decide +kernel
theorem d_To_isStop_3 : decode b_To_isStop 3 = .ok (.aload_n 0, 1) := by decide +kernel
theorem d_To_isStop_4 : decode b_To_isStop 4 = .ok (.getfield 25, 3) := by decide +kernel
theorem d_To_isStop_7 : decode b_To_isStop 7 = .ok (.if_icmp .ge 27, 3) := by decide +kernel
theorem d_To_isStop_10 : decode b_To_isStop 10 = .ok (.aload_n 0, 1) := by decide +kernel
theorem d_To_isStop_11 : decode b_To_isStop 11 = .ok (.getfield 11, 3) := by decide +kernel
theorem d_To_isStop_14 : decode b_To_isStop 14 = .ok (.iload_n 2, 1) := by decide +kernel
theorem d_To_isStop_15 : decode b_To_isStop 15 = .ok (.aaload, 1) := by decide +kernel
theorem d_To_isStop_16 : decode b_To_isStop 16 = .ok (.getfield 40, 3) := by decide +kernel
theorem d_To_isStop_19 : decode b_To_isStop 19 = .ok (.aload_n 1, 1) := by decide +kernel
theorem d_To_isStop_20 : decode b_To_isStop 20 = .ok (.getfield 40, 3) := by decide +kernel
theorem d_To_isStop_23 : decode b_To_isStop 23 = .ok (.if_icmp .ne 5, 3) := by decide +kernel
theorem d_To_isStop_26 : decode b_To_isStop 26 = .ok (.iconst 1, 1) := by decide +kernel
theorem d_To_isStop_27 : decode b_To_isStop 27 = .ok (.ireturn, 1) := by decide +kernel
theorem d_To_isStop_28 : decode b_To_isStop 28 = .ok (.iinc 2 1, 3) := by decide +kernel
theorem d_To_isStop_31 : decode b_To_isStop 31 = .ok (.goto (-29), 3) := by decide +kernel
theorem d_To_isStop_34 : decode b_To_isStop 34 = .ok (.iconst 0, 1) := by decide +kernel
theorem d_To_isStop_35 : decode b_To_isStop 35 = .ok (.ireturn, 1) := by decide +kernel
theorem d_To_insert_0 : decode b_To_insert 0 = .ok (.aload_n 0, 1) := by decide +kernel
theorem d_To_insert_1 : decode b_To_insert 1 = .ok (.getfield 25, 3) := by decide +kernel
theorem d_To_insert_4 : decode b_To_insert 4 = .ok (.istore 4, 2) := by decide +kernel
theorem d_To_insert_6 : decode b_To_insert 6 = .ok (.iload 4, 2) := by decide +kernel
theorem d_To_insert_8 : decode b_To_insert 8 = .ok (.iload_n 2, 1) := by decide +kernel
theorem d_To_insert_9 : decode b_To_insert 9 = .ok (.if_icmp .le 25, 3) := by decide +kernel
theorem d_To_insert_12 : decode b_To_insert 12 = .ok (.aload_n 0, 1) := by decide +kernel
theorem d_To_insert_13 : decode b_To_insert 13 = .ok (.getfield 11, 3) := by decide +kernel
theorem d_To_insert_16 : decode b_To_insert 16 = .ok (.iload 4, 2) := by decide +kernel
theorem d_To_insert_18 : decode b_To_insert 18 = .ok (.aload_n 0, 1) := by decide +kernel
theorem d_To_insert_19 : decode b_To_insert 19 = .ok (.getfield 11, 3) := by decide +kernel
theorem d_To_insert_22 : decode b_To_insert 22 = .ok (.iload 4, 2) := by decide +kernel
theorem d_To_insert_24 : decode b_To_insert 24 = .ok (.iconst 1, 1) := by decide +kernel
theorem d_To_insert_25 : decode b_To_insert 25 = .ok (.isub, 1) := by decide +kernel
theorem d_To_insert_26 : decode b_To_insert 26 = .ok (.aaload, 1) := by decide +kernel
theorem d_To_insert_27 : decode b_To_insert 27 = .ok (.aastore, 1) := by decide +kernel
theorem d_To_insert_28 : decode b_To_insert 28 = .ok (.iinc 4 (-1), 3) := by decide +kernel
theorem d_To_insert_31 : decode b_To_insert 31 = .ok (.goto (-25), 3) := by decide +kernel
theorem d_To_insert_34 : decode b_To_insert 34 = .ok (.aload_n 0, 1) := by decide +kernel
theorem d_To_insert_35 : decode b_To_insert 35 = .ok (.getfield 11, 3) := by decide +kernel
theorem d_To_insert_38 : decode b_To_insert 38 = .ok (.iload_n 2, 1) := by decide +kernel
theorem d_To_insert_39 : decode b_To_insert 39 = .ok (.aload_n 1, 1) := by decide +kernel
theorem d_To_insert_40 : decode b_To_insert 40 = .ok (.aastore, 1) := by decide +kernel
theorem d_To_insert_41 : decode b_To_insert 41 = .ok (.aload_n 0, 1) := by decide +kernel
theorem d_To_insert_42 : decode b_To_insert 42 = .ok (.dup, 1) := by decide +kernel
theorem d_To_insert_43 : decode b_To_insert 43 = .ok (.getfield 25, 3) := by decide +kernel
theorem d_To_insert_46 : decode b_To_insert 46 = .ok (.iconst 1, 1) := by decide +kernel
theorem d_To_insert_47 : decode b_To_insert 47 = .ok (.iadd, 1) := by decide +kernel
theorem d_To_insert_48 : decode b_To_insert 48 = .ok (.putfield 25, 3) := by decide +kernel
theorem d_To_insert_51 : decode b_To_insert 51 = .ok (.aload_n 0, 1) := by decide +kernel
theorem d_To_insert_52 : decode b_To_insert 52 = .ok (.dup, 1) := by decide +kernel
theorem d_To_insert_53 : decode b_To_insert 53 = .ok (.getfield 31, 3) := by decide +kernel
theorem d_To_insert_56 : decode b_To_insert 56 = .ok (.iload_n 3, 1) := by decide +kernel
theorem d_To_insert_57 : decode b_To_insert 57 = .ok (.iadd, 1) := by decide +kernel
theorem d_To_insert_58 : decode b_To_insert 58 = .ok (.putfield 31, 3) := by decide +kernel
theorem d_To_insert_61 : decode b_To_insert 61 = .ok (.aload_n 0, 1) := by decide +kernel
theorem d_To_insert_62 : decode b_To_insert 62 = .ok (.dup, 1) := by decide +kernel
theorem d_To_insert_63 : decode b_To_insert 63 = .ok (.getfield 34, 3) := by decide +kernel
theorem d_To_insert_66 : decode b_To_insert 66 = .ok (.aload_n 1, 1) := by decide +kernel
theorem d_To_insert_67 : decode b_To_insert 67 = .ok (.getfield 43, 3) := by decide +kernel
theorem d_To_insert_70 : decode b_To_insert 70 = .ok (.iadd, 1) := by decide +kernel
theorem d_To_insert_71 : decode b_To_insert 71 = .ok (.putfield 34, 3) := by decide +kernel
theorem d_To_insert_74 : decode b_To_insert 74 = .ok (.return_, 1) := by decide +kernel
theorem d_To_shortestGap_0 : decode b_To_shortestGap 0 = .ok (.iconst (-1), 1) := by decide +kernel
theorem d_To_shortestGap_1 : decode b_To_shortestGap 1 = .ok (.istore_n 3, 1) := by decide +kernel
theorem d_To_shortestGap_2 : decode b_To_shortestGap 2 = .ok (.iconst 0, 1) := by decide +kernel
theorem d_To_shortestGap_3 : decode b_To_shortestGap 3 = .ok (.istore 4, 2) := by decide +kernel
theorem d_To_shortestGap_5 : decode b_To_shortestGap 5 = .ok (.aload_n 0, 1) := by decide +kernel
theorem d_To_shortestGap_6 : decode b_To_shortestGap 6 = .ok (.getfield 28, 3) := by decide +kernel
theorem d_To_shortestGap_9 : decode b_To_shortestGap 9 = .ok (.istore 5, 2) := by decide +kernel
theorem d_To_shortestGap_11 : decode b_To_shortestGap 11 = .ok (.iload 5, 2) := by decide +kernel
theorem d_To_shortestGap_13 : decode b_To_shortestGap 13 = .ok (.aload_n 0, 1) := by decide +kernel
theorem d_To_shortestGap_14 : decode b_To_shortestGap 14 = .ok (.getfield 25, 3) := by decide +kernel
theorem d_To_shortestGap_17 : decode b_To_shortestGap 17 = .ok (.if_icmp .gt 49, 3) := by decide +kernel
theorem d_To_shortestGap_20 : decode b_To_shortestGap 20 = .ok (.aload_n 0, 1) := by decide +kernel
theorem d_To_shortestGap_21 : decode b_To_shortestGap 21 = .ok (.aload_n 1, 1) := by decide +kernel
theorem d_To_shortestGap_22 : decode b_To_shortestGap 22 = .ok (.aload_n 2, 1) := by decide +kernel
theorem d_To_shortestGap_23 : decode b_To_shortestGap 23 = .ok (.iload 5, 2) := by decide +kernel
theorem d_To_shortestGap_25 : decode b_To_shortestGap 25 = .ok (.invokevirtual 44, 3) := by decide +kernel
theorem d_To_shortestGap_28 : decode b_To_shortestGap 28 = .ok (.ifCond .eq 32, 3) := by decide +kernel
theorem d_To_shortestGap_31 : decode b_To_shortestGap 31 = .ok (.aload_n 0, 1) := by decide +kernel
theorem d_To_shortestGap_32 : decode b_To_shortestGap 32 = .ok (.aload_n 1, 1) := by decide +kernel
theorem d_To_shortestGap_33 : decode b_To_shortestGap 33 = .ok (.aload_n 2, 1) := by decide +kernel
theorem d_To_shortestGap_34 : decode b_To_shortestGap 34 = .ok (.iload 5, 2) := by decide +kernel
theorem d_To_shortestGap_36 : decode b_To_shortestGap 36 = .ok (.invokevirtual 48, 3) := by decide +kernel
theorem d_To_shortestGap_39 : decode b_To_shortestGap 39 = .ok (.istore 6, 2) := by decide +kernel
theorem d_To_shortestGap_41 : decode b_To_shortestGap 41 = .ok (.iload_n 3, 1) := by decide +kernel
theorem d_To_shortestGap_42 : decode b_To_shortestGap 42 = .ok (.iconst (-1), 1) := by decide +kernel
theorem d_To_shortestGap_43 : decode b_To_shortestGap 43 = .ok (.if_icmp .eq 10, 3) := by decide +kernel
theorem d_To_shortestGap_46 : decode b_To_shortestGap 46 = .ok (.iload 6, 2) := by decide +kernel
theorem d_To_shortestGap_48 : decode b_To_shortestGap 48 = .ok (.iload 4, 2) := by decide +kernel
theorem d_To_shortestGap_50 : decode b_To_shortestGap 50 = .ok (.if_icmp .ge 10, 3) := by decide +kernel
theorem d_To_shortestGap_53 : decode b_To_shortestGap 53 = .ok (.iload 5, 2) := by decide +kernel
theorem d_To_shortestGap_55 : decode b_To_shortestGap 55 = .ok (.istore_n 3, 1) := by decide +kernel
theorem d_To_shortestGap_56 : decode b_To_shortestGap 56 = .ok (.iload 6, 2) := by decide +kernel
theorem d_To_shortestGap_58 : decode b_To_shortestGap 58 = .ok (.istore 4, 2) := by decide +kernel
theorem d_To_shortestGap_60 : decode b_To_shortestGap 60 = .ok (.iinc 5 1, 3) := by decide +kernel
theorem d_To_shortestGap_63 : decode b_To_shortestGap 63 = .ok (.goto (-52), 3) := by decide +kernel
theorem d_To_shortestGap_66 : decode b_To_shortestGap 66 = .ok (.iload_n 3, 1) := by decide +kernel
theorem d_To_shortestGap_67 : decode b_To_shortestGap 67 = .ok (.ireturn, 1) := by decide +kernel
theorem d_To_canReach_0 : decode b_To_canReach 0 = .ok (.aload_n 1, 1) := by decide +kernel
theorem d_To_canReach_1 : decode b_To_canReach 1 = .ok (.aload_n 0, 1) := by decide +kernel
theorem d_To_canReach_2 : decode b_To_canReach 2 = .ok (.iload_n 3, 1) := by decide +kernel
theorem d_To_canReach_3 : decode b_To_canReach 3 = .ok (.invokevirtual 52, 3) := by decide +kernel
theorem d_To_canReach_6 : decode b_To_canReach 6 = .ok (.aload_n 2, 1) := by decide +kernel
theorem d_To_canReach_7 : decode b_To_canReach 7 = .ok (.invokevirtual 56, 3) := by decide +kernel
theorem d_To_canReach_10 : decode b_To_canReach 10 = .ok (.iconst (-1), 1) := by decide +kernel
theorem d_To_canReach_11 : decode b_To_canReach 11 = .ok (.if_icmp .eq 21, 3) := by decide +kernel
theorem d_To_canReach_14 : decode b_To_canReach 14 = .ok (.aload_n 1, 1) := by decide +kernel
theorem d_To_canReach_15 : decode b_To_canReach 15 = .ok (.aload_n 2, 1) := by decide +kernel
theorem d_To_canReach_16 : decode b_To_canReach 16 = .ok (.aload_n 0, 1) := by decide +kernel
theorem d_To_canReach_17 : decode b_To_canReach 17 = .ok (.iload_n 3, 1) := by decide +kernel
theorem d_To_canReach_18 : decode b_To_canReach 18 = .ok (.invokevirtual 62, 3) := by decide +kernel
theorem d_To_canReach_21 : decode b_To_canReach 21 = .ok (.invokevirtual 56, 3) := by decide +kernel
theorem d_To_canReach_24 : decode b_To_canReach 24 = .ok (.iconst (-1), 1) := by decide +kernel
theorem d_To_canReach_25 : decode b_To_canReach 25 = .ok (.if_icmp .eq 7, 3) := by decide +kernel
theorem d_To_canReach_28 : decode b_To_canReach 28 = .ok (.iconst 1, 1) := by decide +kernel
theorem d_To_canReach_29 : decode b_To_canReach 29 = .ok (.goto 4, 3) := by decide +kernel
theorem d_To_canReach_32 : decode b_To_canReach 32 = .ok (.iconst 0, 1) := by decide +kernel
theorem d_To_canReach_33 : decode b_To_canReach 33 = .ok (.ireturn, 1) := by decide +kernel
theorem d_To_detour_0 : decode b_To_detour 0 = .ok (.aload_n 0, 1) := by decide +kernel
theorem d_To_detour_1 : decode b_To_detour 1 = .ok (.iload_n 3, 1) := by decide +kernel
theorem d_To_detour_2 : decode b_To_detour 2 = .ok (.invokevirtual 52, 3) := by decide +kernel
theorem d_To_detour_5 : decode b_To_detour 5 = .ok (.astore 4, 2) := by decide +kernel
theorem d_To_detour_7 : decode b_To_detour 7 = .ok (.aload_n 0, 1) := by decide +kernel
theorem d_To_detour_8 : decode b_To_detour 8 = .ok (.iload_n 3, 1) := by decide +kernel
theorem d_To_detour_9 : decode b_To_detour 9 = .ok (.invokevirtual 62, 3) := by decide +kernel
theorem d_To_detour_12 : decode b_To_detour 12 = .ok (.astore 5, 2) := by decide +kernel
theorem d_To_detour_14 : decode b_To_detour 14 = .ok (.aload_n 1, 1) := by decide +kernel
theorem d_To_detour_15 : decode b_To_detour 15 = .ok (.aload 4, 2) := by decide +kernel
theorem d_To_detour_17 : decode b_To_detour 17 = .ok (.aload_n 2, 1) := by decide +kernel
theorem d_To_detour_18 : decode b_To_detour 18 = .ok (.invokevirtual 56, 3) := by decide +kernel
theorem d_To_detour_21 : decode b_To_detour 21 = .ok (.aload_n 1, 1) := by decide +kernel
theorem d_To_detour_22 : decode b_To_detour 22 = .ok (.aload_n 2, 1) := by decide +kernel
theorem d_To_detour_23 : decode b_To_detour 23 = .ok (.aload 5, 2) := by decide +kernel
theorem d_To_detour_25 : decode b_To_detour 25 = .ok (.invokevirtual 56, 3) := by decide +kernel
theorem d_To_detour_28 : decode b_To_detour 28 = .ok (.iadd, 1) := by decide +kernel
theorem d_To_detour_29 : decode b_To_detour 29 = .ok (.aload_n 1, 1) := by decide +kernel
theorem d_To_detour_30 : decode b_To_detour 30 = .ok (.aload 4, 2) := by decide +kernel
theorem d_To_detour_32 : decode b_To_detour 32 = .ok (.aload 5, 2) := by decide +kernel
theorem d_To_detour_34 : decode b_To_detour 34 = .ok (.invokevirtual 56, 3) := by decide +kernel
theorem d_To_detour_37 : decode b_To_detour 37 = .ok (.isub, 1) := by decide +kernel
theorem d_To_detour_38 : decode b_To_detour 38 = .ok (.ireturn, 1) := by decide +kernel
theorem d_To_placeBefore_0 : decode b_To_placeBefore 0 = .ok (.iload_n 1, 1) := by decide +kernel
theorem d_To_placeBefore_1 : decode b_To_placeBefore 1 = .ok (.ifCond .le 17, 3) := by decide +kernel
theorem d_To_placeBefore_4 : decode b_To_placeBefore 4 = .ok (.aload_n 0, 1) := by decide +kernel
theorem d_To_placeBefore_5 : decode b_To_placeBefore 5 = .ok (.getfield 11, 3) := by decide +kernel
theorem d_To_placeBefore_8 : decode b_To_placeBefore 8 = .ok (.iload_n 1, 1) := by decide +kernel
theorem d_To_placeBefore_9 : decode b_To_placeBefore 9 = .ok (.iconst 1, 1) := by decide +kernel
theorem d_To_placeBefore_10 : decode b_To_placeBefore 10 = .ok (.isub, 1) := by decide +kernel
theorem d_To_placeBefore_11 : decode b_To_placeBefore 11 = .ok (.aaload, 1) := by decide +kernel
theorem d_To_placeBefore_12 : decode b_To_placeBefore 12 = .ok (.getfield 65, 3) := by decide +kernel
theorem d_To_placeBefore_15 : decode b_To_placeBefore 15 = .ok (.goto 10, 3) := by decide +kernel
theorem d_To_placeBefore_18 : decode b_To_placeBefore 18 = .ok (.aload_n 0, 1) := by decide +kernel
theorem d_To_placeBefore_19 : decode b_To_placeBefore 19 = .ok (.getfield 17, 3) := by decide +kernel
theorem d_To_placeBefore_22 : decode b_To_placeBefore 22 = .ok (.getfield 69, 3) := by decide +kernel
theorem d_To_placeBefore_25 : decode b_To_placeBefore 25 = .ok (.areturn, 1) := by decide +kernel
theorem d_To_placeBehind_0 : decode b_To_placeBehind 0 = .ok (.iload_n 1, 1) := by decide +kernel
theorem d_To_placeBehind_1 : decode b_To_placeBehind 1 = .ok (.aload_n 0, 1) := by decide +kernel
theorem d_To_placeBehind_2 : decode b_To_placeBehind 2 = .ok (.getfield 25, 3) := by decide +kernel
theorem d_To_placeBehind_5 : decode b_To_placeBehind 5 = .ok (.if_icmp .ge 15, 3) := by decide +kernel
theorem d_To_placeBehind_8 : decode b_To_placeBehind 8 = .ok (.aload_n 0, 1) := by decide +kernel
theorem d_To_placeBehind_9 : decode b_To_placeBehind 9 = .ok (.getfield 11, 3) := by decide +kernel
theorem d_To_placeBehind_12 : decode b_To_placeBehind 12 = .ok (.iload_n 1, 1) := by decide +kernel
theorem d_To_placeBehind_13 : decode b_To_placeBehind 13 = .ok (.aaload, 1) := by decide +kernel
theorem d_To_placeBehind_14 : decode b_To_placeBehind 14 = .ok (.getfield 65, 3) := by decide +kernel
theorem d_To_placeBehind_17 : decode b_To_placeBehind 17 = .ok (.goto 10, 3) := by decide +kernel
theorem d_To_placeBehind_20 : decode b_To_placeBehind 20 = .ok (.aload_n 0, 1) := by decide +kernel
theorem d_To_placeBehind_21 : decode b_To_placeBehind 21 = .ok (.getfield 17, 3) := by decide +kernel
theorem d_To_placeBehind_24 : decode b_To_placeBehind 24 = .ok (.getfield 69, 3) := by decide +kernel
theorem d_To_placeBehind_27 : decode b_To_placeBehind 27 = .ok (.areturn, 1) := by decide +kernel
end
section
theorem d_Mo_init_0 : decode b_Mo_init 0 = .ok (.aload_n 0, 1) := by decide +kernel
theorem d_Mo_init_1 : decode b_Mo_init 1 = .ok (.invokespecial 1, 3) := by decide +kernel
theorem d_Mo_init_4 : decode b_Mo_init 4 = .ok (.aload_n 0, 1) := by decide +kernel
theorem d_Mo_init_5 : decode b_Mo_init 5 = .ok (.bipush 30, 2) := by decide +kernel
theorem d_Mo_init_7 : decode b_Mo_init 7 = .ok (.newarray .int, 2) := by decide +kernel
theorem d_Mo_init_9 : decode b_Mo_init 9 = .ok (.putfield 7, 3) := by decide +kernel
theorem d_Mo_init_12 : decode b_Mo_init 12 = .ok (.aload_n 0, 1) := by decide +kernel
theorem d_Mo_init_13 : decode b_Mo_init 13 = .ok (.bipush 30, 2) := by decide +kernel
theorem d_Mo_init_15 : decode b_Mo_init 15 = .ok (.newarray .int, 2) := by decide +kernel
theorem d_Mo_init_17 : decode b_Mo_init 17 = .ok (.putfield 13, 3) := by decide +kernel
theorem d_Mo_init_20 : decode b_Mo_init 20 = .ok (.aload_n 0, 1) := by decide +kernel
theorem d_Mo_init_21 : decode b_Mo_init 21 = .ok (.bipush 30, 2) := by decide +kernel
theorem d_Mo_init_23 : decode b_Mo_init 23 = .ok (.newarray .int, 2) := by decide +kernel
theorem d_Mo_init_25 : decode b_Mo_init 25 = .ok (.putfield 16, 3) := by decide +kernel
theorem d_Mo_init_28 : decode b_Mo_init 28 = .ok (.aload_n 0, 1) := by decide +kernel
theorem d_Mo_init_29 : decode b_Mo_init 29 = .ok (.bipush 6, 2) := by decide +kernel
theorem d_Mo_init_31 : decode b_Mo_init 31 = .ok (.newarray .int, 2) := by decide +kernel
theorem d_Mo_init_33 : decode b_Mo_init 33 = .ok (.putfield 19, 3) := by decide +kernel
theorem d_Mo_init_36 : decode b_Mo_init 36 = .ok (.aload_n 0, 1) := by decide +kernel
theorem d_Mo_init_37 : decode b_Mo_init 37 = .ok (.bipush 6, 2) := by decide +kernel
theorem d_Mo_init_39 : decode b_Mo_init 39 = .ok (.newarray .int, 2) := by decide +kernel
theorem d_Mo_init_41 : decode b_Mo_init 41 = .ok (.putfield 22, 3) := by decide +kernel
theorem d_Mo_init_44 : decode b_Mo_init 44 = .ok (.aload_n 0, 1) := by decide +kernel
theorem d_Mo_init_45 : decode b_Mo_init 45 = .ok (.bipush 6, 2) := by decide +kernel
theorem d_Mo_init_47 : decode b_Mo_init 47 = .ok (.newarray .int, 2) := by decide +kernel
theorem d_Mo_init_49 : decode b_Mo_init 49 = .ok (.putfield 25, 3) := by decide +kernel
theorem d_Mo_init_52 : decode b_Mo_init 52 = .ok (.aload_n 0, 1) := by decide +kernel
theorem d_Mo_init_53 : decode b_Mo_init 53 = .ok (.bipush 6, 2) := by decide +kernel
theorem d_Mo_init_55 : decode b_Mo_init 55 = .ok (.newarray .int, 2) := by decide +kernel
theorem d_Mo_init_57 : decode b_Mo_init 57 = .ok (.putfield 28, 3) := by decide +kernel
theorem d_Mo_init_60 : decode b_Mo_init 60 = .ok (.aload_n 0, 1) := by decide +kernel
theorem d_Mo_init_61 : decode b_Mo_init 61 = .ok (.bipush 6, 2) := by decide +kernel
theorem d_Mo_init_63 : decode b_Mo_init 63 = .ok (.newarray .int, 2) := by decide +kernel
theorem d_Mo_init_65 : decode b_Mo_init 65 = .ok (.putfield 31, 3) := by decide +kernel
theorem d_Mo_init_68 : decode b_Mo_init 68 = .ok (.aload_n 0, 1) := by decide +kernel
theorem d_Mo_init_69 : decode b_Mo_init 69 = .ok (.bipush 6, 2) := by decide +kernel
theorem d_Mo_init_71 : decode b_Mo_init 71 = .ok (.newarray .int, 2) := by decide +kernel
theorem d_Mo_init_73 : decode b_Mo_init 73 = .ok (.putfield 34, 3) := by decide +kernel
theorem d_Mo_init_76 : decode b_Mo_init 76 = .ok (.aload_n 0, 1) := by decide +kernel
theorem d_Mo_init_77 : decode b_Mo_init 77 = .ok (.bipush 40, 2) := by decide +kernel
theorem d_Mo_init_79 : decode b_Mo_init 79 = .ok (.newarray .int, 2) := by decide +kernel
theorem d_Mo_init_81 : decode b_Mo_init 81 = .ok (.putfield 37, 3) := by decide +kernel
theorem d_Mo_init_84 : decode b_Mo_init 84 = .ok (.aload_n 0, 1) := by decide +kernel
theorem d_Mo_init_85 : decode b_Mo_init 85 = .ok (.bipush 40, 2) := by decide +kernel
theorem d_Mo_init_87 : decode b_Mo_init 87 = .ok (.newarray .int, 2) := by decide +kernel
theorem d_Mo_init_89 : decode b_Mo_init 89 = .ok (.putfield 40, 3) := by decide +kernel
theorem d_Mo_init_92 : decode b_Mo_init 92 = .ok (.aload_n 0, 1) := by decide +kernel
theorem d_Mo_init_93 : decode b_Mo_init 93 = .ok (.bipush 40, 2) := by decide +kernel
theorem d_Mo_init_95 : decode b_Mo_init 95 = .ok (.newarray .int, 2) := by decide +kernel
theorem d_Mo_init_97 : decode b_Mo_init 97 = .ok (.putfield 43, 3) := by decide +kernel
theorem d_Mo_init_100 : decode b_Mo_init 100 = .ok (.aload_n 0, 1) := by decide +kernel
theorem d_Mo_init_101 : decode b_Mo_init 101 = .ok (.bipush 40, 2) := by decide +kernel
theorem d_Mo_init_103 : decode b_Mo_init 103 = .ok (.newarray .int, 2) := by decide +kernel
theorem d_Mo_init_105 : decode b_Mo_init 105 = .ok (.putfield 46, 3) := by decide +kernel
theorem d_Mo_init_108 : decode b_Mo_init 108 = .ok (.aload_n 0, 1) := by decide +kernel
theorem d_Mo_init_109 : decode b_Mo_init 109 = .ok (.bipush 40, 2) := by decide +kernel
theorem d_Mo_init_111 : decode b_Mo_init 111 = .ok (.newarray .int, 2) := by decide +kernel
theorem d_Mo_init_113 : decode b_Mo_init 113 = .ok (.putfield 49, 3) := by decide +kernel
theorem d_Mo_init_116 : decode b_Mo_init 116 = .ok (.aload_n 0, 1) := by decide +kernel
theorem d_Mo_init_117 : decode b_Mo_init 117 = .ok (.bipush 40, 2) := by decide +kernel
theorem d_Mo_init_119 : decode b_Mo_init 119 = .ok (.newarray .int, 2) := by decide +kernel
theorem d_Mo_init_121 : decode b_Mo_init 121 = .ok (.putfield 52, 3) := by decide +kernel
theorem d_Mo_init_124 : decode b_Mo_init 124 = .ok (.aload_n 0, 1) := by decide +kernel
theorem d_Mo_init_125 : decode b_Mo_init 125 = .ok (.bipush 40, 2) := by decide +kernel
theorem d_Mo_init_127 : decode b_Mo_init 127 = .ok (.newarray .int, 2) := by decide +kernel
theorem d_Mo_init_129 : decode b_Mo_init 129 = .ok (.putfield 55, 3) := by decide +kernel
theorem d_Mo_init_132 : decode b_Mo_init 132 = .ok (.aload_n 0, 1) := by decide +kernel
theorem d_Mo_init_133 : decode b_Mo_init 133 = .ok (.bipush 40, 2) := by decide +kernel
theorem d_Mo_init_135 : decode b_Mo_init 135 = .ok (.newarray .int, 2) := by decide +kernel
theorem d_Mo_init_137 : decode b_Mo_init 137 = .ok (.putfield 58, 3) := by decide +kernel
theorem d_Mo_init_140 : decode b_Mo_init 140 = .ok (.aload_n 0, 1) := by decide +kernel
theorem d_Mo_init_141 : decode b_Mo_init 141 = .ok (.bipush 40, 2) := by decide +kernel
theorem d_Mo_init_143 : decode b_Mo_init 143 = .ok (.newarray .int, 2) := by decide +kernel
theorem d_Mo_init_145 : decode b_Mo_init 145 = .ok (.putfield 61, 3) := by decide +kernel
theorem d_Mo_init_148 : decode b_Mo_init 148 = .ok (.aload_n 0, 1) := by decide +kernel
theorem d_Mo_init_149 : decode b_Mo_init 149 = .ok (.bipush 40, 2) := by decide +kernel
theorem d_Mo_init_151 : decode b_Mo_init 151 = .ok (.newarray .int, 2) := by decide +kernel
theorem d_Mo_init_153 : decode b_Mo_init 153 = .ok (.putfield 64, 3) := by decide +kernel
theorem d_Mo_init_156 : decode b_Mo_init 156 = .ok (.aload_n 0, 1) := by decide +kernel
theorem d_Mo_init_157 : decode b_Mo_init 157 = .ok (.bipush 8, 2) := by decide +kernel
theorem d_Mo_init_159 : decode b_Mo_init 159 = .ok (.newarray .int, 2) := by decide +kernel
theorem d_Mo_init_161 : decode b_Mo_init 161 = .ok (.putfield 67, 3) := by decide +kernel
theorem d_Mo_init_164 : decode b_Mo_init 164 = .ok (.aload_n 0, 1) := by decide +kernel
theorem d_Mo_init_165 : decode b_Mo_init 165 = .ok (.bipush 8, 2) := by decide +kernel
theorem d_Mo_init_167 : decode b_Mo_init 167 = .ok (.newarray .int, 2) := by decide +kernel
theorem d_Mo_init_169 : decode b_Mo_init 169 = .ok (.putfield 70, 3) := by decide +kernel
theorem d_Mo_init_172 : decode b_Mo_init 172 = .ok (.aload_n 0, 1) := by decide +kernel
theorem d_Mo_init_173 : decode b_Mo_init 173 = .ok (.bipush 8, 2) := by decide +kernel
theorem d_Mo_init_175 : decode b_Mo_init 175 = .ok (.newarray .int, 2) := by decide +kernel
theorem d_Mo_init_177 : decode b_Mo_init 177 = .ok (.putfield 73, 3) := by decide +kernel
theorem d_Mo_init_180 : decode b_Mo_init 180 = .ok (.aload_n 0, 1) := by decide +kernel
theorem d_Mo_init_181 : decode b_Mo_init 181 = .ok (.iconst 5, 1) := by decide +kernel
theorem d_Mo_init_182 : decode b_Mo_init 182 = .ok (.newarray .int, 2) := by decide +kernel
theorem d_Mo_init_184 : decode b_Mo_init 184 = .ok (.putfield 76, 3) := by decide +kernel
theorem d_Mo_init_187 : decode b_Mo_init 187 = .ok (.aload_n 0, 1) := by decide +kernel
theorem d_Mo_init_188 : decode b_Mo_init 188 = .ok (.iconst (-1), 1) := by decide +kernel
theorem d_Mo_init_189 : decode b_Mo_init 189 = .ok (.putfield 79, 3) := by decide +kernel
theorem d_Mo_init_192 : decode b_Mo_init 192 = .ok (.aload_n 0, 1) := by decide +kernel
theorem d_Mo_init_193 : decode b_Mo_init 193 = .ok (.bipush 20, 2) := by decide +kernel
theorem d_Mo_init_195 : decode b_Mo_init 195 = .ok (.newarray .int, 2) := by decide +kernel
theorem d_Mo_init_197 : decode b_Mo_init 197 = .ok (.putfield 83, 3) := by decide +kernel
theorem d_Mo_init_200 : decode b_Mo_init 200 = .ok (.aload_n 0, 1) := by decide +kernel
theorem d_Mo_init_201 : decode b_Mo_init 201 = .ok (.bipush 7, 2) := by decide +kernel
theorem d_Mo_init_203 : decode b_Mo_init 203 = .ok (.newarray .int, 2) := by decide +kernel
theorem d_Mo_init_205 : decode b_Mo_init 205 = .ok (.putfield 86, 3) := by decide +kernel
theorem d_Mo_init_208 : decode b_Mo_init 208 = .ok (.aload_n 0, 1) := by decide +kernel
theorem d_Mo_init_209 : decode b_Mo_init 209 = .ok (.bipush 7, 2) := by decide +kernel
theorem d_Mo_init_211 : decode b_Mo_init 211 = .ok (.newarray .int, 2) := by decide +kernel
theorem d_Mo_init_213 : decode b_Mo_init 213 = .ok (.putfield 89, 3) := by decide +kernel
theorem d_Mo_init_216 : decode b_Mo_init 216 = .ok (.aload_n 0, 1) := by decide +kernel
theorem d_Mo_init_217 : decode b_Mo_init 217 = .ok (.bipush 7, 2) := by decide +kernel
theorem d_Mo_init_219 : decode b_Mo_init 219 = .ok (.newarray .int, 2) := by decide +kernel
theorem d_Mo_init_221 : decode b_Mo_init 221 = .ok (.putfield 92, 3) := by decide +kernel
theorem d_Mo_init_224 : decode b_Mo_init 224 = .ok (.aload_n 0, 1) := by decide +kernel
theorem d_Mo_init_225 : decode b_Mo_init 225 = .ok (.iload_n 1, 1) := by decide +kernel
theorem d_Mo_init_226 : decode b_Mo_init 226 = .ok (.ifCond .ge 7, 3) := by decide +kernel
theorem d_Mo_init_229 : decode b_Mo_init 229 = .ok (.iconst 0, 1) := by decide +kernel
theorem d_Mo_init_230 : decode b_Mo_init 230 = .ok (.goto 17, 3) := by decide +kernel
theorem d_Mo_init_233 : decode b_Mo_init 233 = .ok (.iload_n 1, 1) := by decide +kernel
theorem d_Mo_init_234 : decode b_Mo_init 234 = .ok (.sipush 1000, 3) := by decide +kernel
theorem d_Mo_init_237 : decode b_Mo_init 237 = .ok (.if_icmp .le 9, 3) := by decide +kernel
theorem d_Mo_init_240 : decode b_Mo_init 240 = .ok (.sipush 1000, 3) := by decide +kernel
theorem d_Mo_init_243 : decode b_Mo_init 243 = .ok (.goto 4, 3) := by decide +kernel
theorem d_Mo_init_246 : decode b_Mo_init 246 = .ok (.iload_n 1, 1) := by decide +kernel
theorem d_Mo_init_247 : decode b_Mo_init 247 = .ok (.putfield 95, 3) := by decide +kernel
theorem d_Mo_init_250 : decode b_Mo_init 250 = .ok (.return_, 1) := by decide +kernel
theorem d_Mo_thrown_0 : decode b_Mo_thrown 0 = .ok (.aload_n 0, 1) := by decide +kernel
theorem d_Mo_thrown_1 : decode b_Mo_thrown 1 = .ok (.getfield 98, 3) := by decide +kernel
theorem d_Mo_thrown_4 : decode b_Mo_thrown 4 = .ok (.ireturn, 1) := by decide +kernel
theorem d_Mo_in_0 : decode b_Mo_in 0 = .ok (.iload_n 0, 1) := by decide +kernel
theorem d_Mo_in_1 : decode b_Mo_in 1 = .ok (.iload_n 1, 1) := by decide +kernel
theorem d_Mo_in_2 : decode b_Mo_in 2 = .ok (.if_icmp .lt 12, 3) := by decide +kernel
theorem d_Mo_in_5 : decode b_Mo_in 5 = .ok (.iload_n 0, 1) := by decide +kernel
theorem d_Mo_in_6 : decode b_Mo_in 6 = .ok (.iload_n 2, 1) := by decide +kernel
theorem d_Mo_in_7 : decode b_Mo_in 7 = .ok (.if_icmp .gt 7, 3) := by decide +kernel
theorem d_Mo_in_10 : decode b_Mo_in 10 = .ok (.iconst 1, 1) := by decide +kernel
theorem d_Mo_in_11 : decode b_Mo_in 11 = .ok (.goto 4, 3) := by decide +kernel
theorem d_Mo_in_14 : decode b_Mo_in 14 = .ok (.iconst 0, 1) := by decide +kernel
theorem d_Mo_in_15 : decode b_Mo_in 15 = .ok (.ireturn, 1) := by decide +kernel
theorem d_Mo_place_0 : decode b_Mo_place 0 = .ok (.aload_n 0, 1) := by decide +kernel
theorem d_Mo_place_1 : decode b_Mo_place 1 = .ok (.iload_n 1, 1) := by decide +kernel
theorem d_Mo_place_2 : decode b_Mo_place 2 = .ok (.iconst 0, 1) := by decide +kernel
theorem d_Mo_place_3 : decode b_Mo_place 3 = .ok (.bipush 30, 2) := by decide +kernel
theorem d_Mo_place_5 : decode b_Mo_place 5 = .ok (.invokestatic 101, 3) := by decide +kernel
theorem d_Mo_place_8 : decode b_Mo_place 8 = .ok (.ifCond .eq 23, 3) := by decide +kernel
theorem d_Mo_place_11 : decode b_Mo_place 11 = .ok (.iload_n 2, 1) := by decide +kernel
theorem d_Mo_place_12 : decode b_Mo_place 12 = .ok (.iconst 0, 1) := by decide +kernel
theorem d_Mo_place_13 : decode b_Mo_place 13 = .ok (.bipush 100, 2) := by decide +kernel
theorem d_Mo_place_15 : decode b_Mo_place 15 = .ok (.invokestatic 101, 3) := by decide +kernel
theorem d_Mo_place_18 : decode b_Mo_place 18 = .ok (.ifCond .eq 13, 3) := by decide +kernel
theorem d_Mo_place_21 : decode b_Mo_place 21 = .ok (.iload_n 3, 1) := by decide +kernel
theorem d_Mo_place_22 : decode b_Mo_place 22 = .ok (.iconst 0, 1) := by decide +kernel
theorem d_Mo_place_23 : decode b_Mo_place 23 = .ok (.bipush 100, 2) := by decide +kernel
theorem d_Mo_place_25 : decode b_Mo_place 25 = .ok (.invokestatic 101, 3) := by decide +kernel
theorem d_Mo_place_28 : decode b_Mo_place 28 = .ok (.ifCond .ne 7, 3) := by decide +kernel
theorem d_Mo_place_31 : decode b_Mo_place 31 = .ok (.iconst 1, 1) := by decide +kernel
theorem d_Mo_place_32 : decode b_Mo_place 32 = .ok (.goto 17, 3) := by decide +kernel
theorem d_Mo_place_35 : decode b_Mo_place 35 = .ok (.aload_n 0, 1) := by decide +kernel
theorem d_Mo_place_36 : decode b_Mo_place 36 = .ok (.getfield 105, 3) := by decide +kernel
theorem d_Mo_place_39 : decode b_Mo_place 39 = .ok (.bipush 30, 2) := by decide +kernel
theorem d_Mo_place_41 : decode b_Mo_place 41 = .ok (.if_icmp .ne 7, 3) := by decide +kernel
theorem d_Mo_place_44 : decode b_Mo_place 44 = .ok (.iconst 2, 1) := by decide +kernel
theorem d_Mo_place_45 : decode b_Mo_place 45 = .ok (.goto 4, 3) := by decide +kernel
theorem d_Mo_place_48 : decode b_Mo_place 48 = .ok (.iconst 0, 1) := by decide +kernel
theorem d_Mo_place_49 : decode b_Mo_place 49 = .ok (.putfield 98, 3) := by decide +kernel
theorem d_Mo_place_52 : decode b_Mo_place 52 = .ok (.aload_n 0, 1) := by decide +kernel
theorem d_Mo_place_53 : decode b_Mo_place 53 = .ok (.getfield 98, 3) := by decide +kernel
theorem d_Mo_place_56 : decode b_Mo_place 56 = .ok (.ifCond .le 5, 3) := by decide +kernel
theorem d_Mo_place_59 : decode b_Mo_place 59 = .ok (.iconst 0, 1) := by decide +kernel
theorem d_Mo_place_60 : decode b_Mo_place 60 = .ok (.ireturn, 1) := by decide +kernel
theorem d_Mo_place_61 : decode b_Mo_place 61 = .ok (.aload_n 0, 1) := by decide +kernel
theorem d_Mo_place_62 : decode b_Mo_place 62 = .ok (.getfield 7, 3) := by decide +kernel
theorem d_Mo_place_65 : decode b_Mo_place 65 = .ok (.aload_n 0, 1) := by decide +kernel
theorem d_Mo_place_66 : decode b_Mo_place 66 = .ok (.getfield 105, 3) := by decide +kernel
theorem d_Mo_place_69 : decode b_Mo_place 69 = .ok (.iload_n 1, 1) := by decide +kernel
theorem d_Mo_place_70 : decode b_Mo_place 70 = .ok (.iastore, 1) := by decide +kernel
theorem d_Mo_place_71 : decode b_Mo_place 71 = .ok (.aload_n 0, 1) := by decide +kernel
theorem d_Mo_place_72 : decode b_Mo_place 72 = .ok (.getfield 13, 3) := by decide +kernel
theorem d_Mo_place_75 : decode b_Mo_place 75 = .ok (.aload_n 0, 1) := by decide +kernel
theorem d_Mo_place_76 : decode b_Mo_place 76 = .ok (.getfield 105, 3) := by decide +kernel
theorem d_Mo_place_79 : decode b_Mo_place 79 = .ok (.iload_n 2, 1) := by decide +kernel
theorem d_Mo_place_80 : decode b_Mo_place 80 = .ok (.iastore, 1) := by decide +kernel
theorem d_Mo_place_81 : decode b_Mo_place 81 = .ok (.aload_n 0, 1) := by decide +kernel
theorem d_Mo_place_82 : decode b_Mo_place 82 = .ok (.getfield 16, 3) := by decide +kernel
theorem d_Mo_place_85 : decode b_Mo_place 85 = .ok (.aload_n 0, 1) := by decide +kernel
theorem d_Mo_place_86 : decode b_Mo_place 86 = .ok (.getfield 105, 3) := by decide +kernel
theorem d_Mo_place_89 : decode b_Mo_place 89 = .ok (.iload_n 3, 1) := by decide +kernel
theorem d_Mo_place_90 : decode b_Mo_place 90 = .ok (.iastore, 1) := by decide +kernel
theorem d_Mo_place_91 : decode b_Mo_place 91 = .ok (.aload_n 0, 1) := by decide +kernel
theorem d_Mo_place_92 : decode b_Mo_place 92 = .ok (.dup, 1) := by decide +kernel
theorem d_Mo_place_93 : decode b_Mo_place 93 = .ok (.getfield 105, 3) := by decide +kernel
theorem d_Mo_place_96 : decode b_Mo_place 96 = .ok (.iconst 1, 1) := by decide +kernel
theorem d_Mo_place_97 : decode b_Mo_place 97 = .ok (.iadd, 1) := by decide +kernel
theorem d_Mo_place_98 : decode b_Mo_place 98 = .ok (.putfield 105, 3) := by decide +kernel
theorem d_Mo_place_101 : decode b_Mo_place 101 = .ok (.aload_n 0, 1) := by decide +kernel
theorem d_Mo_place_102 : decode b_Mo_place 102 = .ok (.iconst (-1), 1) := by decide +kernel
theorem d_Mo_place_103 : decode b_Mo_place 103 = .ok (.putfield 79, 3) := by decide +kernel
theorem d_Mo_place_106 : decode b_Mo_place 106 = .ok (.aload_n 0, 1) := by decide +kernel
theorem d_Mo_place_107 : decode b_Mo_place 107 = .ok (.getfield 105, 3) := by decide +kernel
theorem d_Mo_place_110 : decode b_Mo_place 110 = .ok (.iconst 1, 1) := by decide +kernel
theorem d_Mo_place_111 : decode b_Mo_place 111 = .ok (.isub, 1) := by decide +kernel
theorem d_Mo_place_112 : decode b_Mo_place 112 = .ok (.ireturn, 1) := by decide +kernel
theorem d_Mo_lift_0 : decode b_Mo_lift 0 = .ok (.aload_n 0, 1) := by decide +kernel
theorem d_Mo_lift_1 : decode b_Mo_lift 1 = .ok (.iload_n 1, 1) := by decide +kernel
theorem d_Mo_lift_2 : decode b_Mo_lift 2 = .ok (.iconst 0, 1) := by decide +kernel
theorem d_Mo_lift_3 : decode b_Mo_lift 3 = .ok (.bipush 100, 2) := by decide +kernel
theorem d_Mo_lift_5 : decode b_Mo_lift 5 = .ok (.invokestatic 101, 3) := by decide +kernel
theorem d_Mo_lift_8 : decode b_Mo_lift 8 = .ok (.ifCond .eq 56, 3) := by decide +kernel
theorem d_Mo_lift_11 : decode b_Mo_lift 11 = .ok (.iload_n 2, 1) := by decide +kernel
theorem d_Mo_lift_12 : decode b_Mo_lift 12 = .ok (.iconst 0, 1) := by decide +kernel
theorem d_Mo_lift_13 : decode b_Mo_lift 13 = .ok (.bipush 100, 2) := by decide +kernel
theorem d_Mo_lift_15 : decode b_Mo_lift 15 = .ok (.invokestatic 101, 3) := by decide +kernel
theorem d_Mo_lift_18 : decode b_Mo_lift 18 = .ok (.ifCond .eq 46, 3) := by decide +kernel
theorem d_Mo_lift_21 : decode b_Mo_lift 21 = .ok (.iload_n 3, 1) := by decide +kernel
theorem d_Mo_lift_22 : decode b_Mo_lift 22 = .ok (.iconst 0, 1) := by decide +kernel
theorem d_Mo_lift_23 : decode b_Mo_lift 23 = .ok (.bipush 30, 2) := by decide +kernel
theorem d_Mo_lift_25 : decode b_Mo_lift 25 = .ok (.invokestatic 101, 3) := by decide +kernel
theorem d_Mo_lift_28 : decode b_Mo_lift 28 = .ok (.ifCond .eq 36, 3) := by decide +kernel
theorem d_Mo_lift_31 : decode b_Mo_lift 31 = .ok (.iload 4, 2) := by decide +kernel
theorem d_Mo_lift_33 : decode b_Mo_lift 33 = .ok (.iload_n 3, 1) := by decide +kernel
theorem d_Mo_lift_34 : decode b_Mo_lift 34 = .ok (.bipush 30, 2) := by decide +kernel
theorem d_Mo_lift_36 : decode b_Mo_lift 36 = .ok (.invokestatic 101, 3) := by decide +kernel
theorem d_Mo_lift_39 : decode b_Mo_lift 39 = .ok (.ifCond .eq 25, 3) := by decide +kernel
theorem d_Mo_lift_42 : decode b_Mo_lift 42 = .ok (.iload 5, 2) := by decide +kernel
theorem d_Mo_lift_44 : decode b_Mo_lift 44 = .ok (.iconst 0, 1) := by decide +kernel
theorem d_Mo_lift_45 : decode b_Mo_lift 45 = .ok (.bipush 100, 2) := by decide +kernel
theorem d_Mo_lift_47 : decode b_Mo_lift 47 = .ok (.invokestatic 101, 3) := by decide +kernel
theorem d_Mo_lift_50 : decode b_Mo_lift 50 = .ok (.ifCond .eq 14, 3) := by decide +kernel
theorem d_Mo_lift_53 : decode b_Mo_lift 53 = .ok (.iload 6, 2) := by decide +kernel
theorem d_Mo_lift_55 : decode b_Mo_lift 55 = .ok (.iconst 0, 1) := by decide +kernel
theorem d_Mo_lift_56 : decode b_Mo_lift 56 = .ok (.bipush 100, 2) := by decide +kernel
theorem d_Mo_lift_58 : decode b_Mo_lift 58 = .ok (.invokestatic 101, 3) := by decide +kernel
theorem d_Mo_lift_61 : decode b_Mo_lift 61 = .ok (.ifCond .ne 7, 3) := by decide +kernel
theorem d_Mo_lift_64 : decode b_Mo_lift 64 = .ok (.iconst 1, 1) := by decide +kernel
theorem d_Mo_lift_65 : decode b_Mo_lift 65 = .ok (.goto 17, 3) := by decide +kernel
theorem d_Mo_lift_68 : decode b_Mo_lift 68 = .ok (.aload_n 0, 1) := by decide +kernel
theorem d_Mo_lift_69 : decode b_Mo_lift 69 = .ok (.getfield 108, 3) := by decide +kernel
theorem d_Mo_lift_72 : decode b_Mo_lift 72 = .ok (.bipush 6, 2) := by decide +kernel
theorem d_Mo_lift_74 : decode b_Mo_lift 74 = .ok (.if_icmp .ne 7, 3) := by decide +kernel
theorem d_Mo_lift_77 : decode b_Mo_lift 77 = .ok (.iconst 2, 1) := by decide +kernel
theorem d_Mo_lift_78 : decode b_Mo_lift 78 = .ok (.goto 4, 3) := by decide +kernel
theorem d_Mo_lift_81 : decode b_Mo_lift 81 = .ok (.iconst 0, 1) := by decide +kernel
theorem d_Mo_lift_82 : decode b_Mo_lift 82 = .ok (.putfield 98, 3) := by decide +kernel
theorem d_Mo_lift_85 : decode b_Mo_lift 85 = .ok (.aload_n 0, 1) := by decide +kernel
theorem d_Mo_lift_86 : decode b_Mo_lift 86 = .ok (.getfield 98, 3) := by decide +kernel
theorem d_Mo_lift_89 : decode b_Mo_lift 89 = .ok (.ifCond .le 5, 3) := by decide +kernel
theorem d_Mo_lift_92 : decode b_Mo_lift 92 = .ok (.iconst 0, 1) := by decide +kernel
theorem d_Mo_lift_93 : decode b_Mo_lift 93 = .ok (.ireturn, 1) := by decide +kernel
theorem d_Mo_lift_94 : decode b_Mo_lift 94 = .ok (.aload_n 0, 1) := by decide +kernel
theorem d_Mo_lift_95 : decode b_Mo_lift 95 = .ok (.getfield 19, 3) := by decide +kernel
theorem d_Mo_lift_98 : decode b_Mo_lift 98 = .ok (.aload_n 0, 1) := by decide +kernel
theorem d_Mo_lift_99 : decode b_Mo_lift 99 = .ok (.getfield 108, 3) := by decide +kernel
theorem d_Mo_lift_102 : decode b_Mo_lift 102 = .ok (.iload_n 1, 1) := by decide +kernel
theorem d_Mo_lift_103 : decode b_Mo_lift 103 = .ok (.iastore, 1) := by decide +kernel
theorem d_Mo_lift_104 : decode b_Mo_lift 104 = .ok (.aload_n 0, 1) := by decide +kernel
theorem d_Mo_lift_105 : decode b_Mo_lift 105 = .ok (.getfield 22, 3) := by decide +kernel
theorem d_Mo_lift_108 : decode b_Mo_lift 108 = .ok (.aload_n 0, 1) := by decide +kernel
theorem d_Mo_lift_109 : decode b_Mo_lift 109 = .ok (.getfield 108, 3) := by decide +kernel
theorem d_Mo_lift_112 : decode b_Mo_lift 112 = .ok (.iload_n 2, 1) := by decide +kernel
theorem d_Mo_lift_113 : decode b_Mo_lift 113 = .ok (.iastore, 1) := by decide +kernel
theorem d_Mo_lift_114 : decode b_Mo_lift 114 = .ok (.aload_n 0, 1) := by decide +kernel
theorem d_Mo_lift_115 : decode b_Mo_lift 115 = .ok (.getfield 25, 3) := by decide +kernel
theorem d_Mo_lift_118 : decode b_Mo_lift 118 = .ok (.aload_n 0, 1) := by decide +kernel
theorem d_Mo_lift_119 : decode b_Mo_lift 119 = .ok (.getfield 108, 3) := by decide +kernel
theorem d_Mo_lift_122 : decode b_Mo_lift 122 = .ok (.iload_n 3, 1) := by decide +kernel
theorem d_Mo_lift_123 : decode b_Mo_lift 123 = .ok (.iastore, 1) := by decide +kernel
theorem d_Mo_lift_124 : decode b_Mo_lift 124 = .ok (.aload_n 0, 1) := by decide +kernel
theorem d_Mo_lift_125 : decode b_Mo_lift 125 = .ok (.getfield 28, 3) := by decide +kernel
theorem d_Mo_lift_128 : decode b_Mo_lift 128 = .ok (.aload_n 0, 1) := by decide +kernel
theorem d_Mo_lift_129 : decode b_Mo_lift 129 = .ok (.getfield 108, 3) := by decide +kernel
theorem d_Mo_lift_132 : decode b_Mo_lift 132 = .ok (.iload 4, 2) := by decide +kernel
theorem d_Mo_lift_134 : decode b_Mo_lift 134 = .ok (.iastore, 1) := by decide +kernel
theorem d_Mo_lift_135 : decode b_Mo_lift 135 = .ok (.aload_n 0, 1) := by decide +kernel
theorem d_Mo_lift_136 : decode b_Mo_lift 136 = .ok (.getfield 31, 3) := by decide +kernel
theorem d_Mo_lift_139 : decode b_Mo_lift 139 = .ok (.aload_n 0, 1) := by decide +kernel
theorem d_Mo_lift_140 : decode b_Mo_lift 140 = .ok (.getfield 108, 3) := by decide +kernel
theorem d_Mo_lift_143 : decode b_Mo_lift 143 = .ok (.iload 5, 2) := by decide +kernel
theorem d_Mo_lift_145 : decode b_Mo_lift 145 = .ok (.iastore, 1) := by decide +kernel
theorem d_Mo_lift_146 : decode b_Mo_lift 146 = .ok (.aload_n 0, 1) := by decide +kernel
theorem d_Mo_lift_147 : decode b_Mo_lift 147 = .ok (.getfield 34, 3) := by decide +kernel
theorem d_Mo_lift_150 : decode b_Mo_lift 150 = .ok (.aload_n 0, 1) := by decide +kernel
theorem d_Mo_lift_151 : decode b_Mo_lift 151 = .ok (.getfield 108, 3) := by decide +kernel
theorem d_Mo_lift_154 : decode b_Mo_lift 154 = .ok (.iload 6, 2) := by decide +kernel
theorem d_Mo_lift_156 : decode b_Mo_lift 156 = .ok (.iastore, 1) := by decide +kernel
theorem d_Mo_lift_157 : decode b_Mo_lift 157 = .ok (.aload_n 0, 1) := by decide +kernel
theorem d_Mo_lift_158 : decode b_Mo_lift 158 = .ok (.dup, 1) := by decide +kernel
theorem d_Mo_lift_159 : decode b_Mo_lift 159 = .ok (.getfield 108, 3) := by decide +kernel
theorem d_Mo_lift_162 : decode b_Mo_lift 162 = .ok (.iconst 1, 1) := by decide +kernel
theorem d_Mo_lift_163 : decode b_Mo_lift 163 = .ok (.iadd, 1) := by decide +kernel
theorem d_Mo_lift_164 : decode b_Mo_lift 164 = .ok (.putfield 108, 3) := by decide +kernel
theorem d_Mo_lift_167 : decode b_Mo_lift 167 = .ok (.aload_n 0, 1) := by decide +kernel
theorem d_Mo_lift_168 : decode b_Mo_lift 168 = .ok (.iconst (-1), 1) := by decide +kernel
theorem d_Mo_lift_169 : decode b_Mo_lift 169 = .ok (.putfield 79, 3) := by decide +kernel
theorem d_Mo_lift_172 : decode b_Mo_lift 172 = .ok (.aload_n 0, 1) := by decide +kernel
theorem d_Mo_lift_173 : decode b_Mo_lift 173 = .ok (.getfield 108, 3) := by decide +kernel
theorem d_Mo_lift_176 : decode b_Mo_lift 176 = .ok (.iconst 1, 1) := by decide +kernel
theorem d_Mo_lift_177 : decode b_Mo_lift 177 = .ok (.isub, 1) := by decide +kernel
theorem d_Mo_lift_178 : decode b_Mo_lift 178 = .ok (.ireturn, 1) := by decide +kernel
theorem d_Mo_part_0 : decode b_Mo_part 0 = .ok (.aload_n 0, 1) := by decide +kernel
theorem d_Mo_part_1 : decode b_Mo_part 1 = .ok (.iload_n 1, 1) := by decide +kernel
theorem d_Mo_part_2 : decode b_Mo_part 2 = .ok (.iconst 0, 1) := by decide +kernel
theorem d_Mo_part_3 : decode b_Mo_part 3 = .ok (.aload_n 0, 1) := by decide +kernel
theorem d_Mo_part_4 : decode b_Mo_part 4 = .ok (.getfield 105, 3) := by decide +kernel
theorem d_Mo_part_7 : decode b_Mo_part 7 = .ok (.iconst 1, 1) := by decide +kernel
theorem d_Mo_part_8 : decode b_Mo_part 8 = .ok (.isub, 1) := by decide +kernel
theorem d_Mo_part_9 : decode b_Mo_part 9 = .ok (.invokestatic 101, 3) := by decide +kernel
theorem d_Mo_part_12 : decode b_Mo_part 12 = .ok (.ifCond .eq 58, 3) := by decide +kernel
theorem d_Mo_part_15 : decode b_Mo_part 15 = .ok (.iload_n 2, 1) := by decide +kernel
theorem d_Mo_part_16 : decode b_Mo_part 16 = .ok (.iconst 0, 1) := by decide +kernel
theorem d_Mo_part_17 : decode b_Mo_part 17 = .ok (.bipush 7, 2) := by decide +kernel
theorem d_Mo_part_19 : decode b_Mo_part 19 = .ok (.invokestatic 101, 3) := by decide +kernel
theorem d_Mo_part_22 : decode b_Mo_part 22 = .ok (.ifCond .eq 48, 3) := by decide +kernel
theorem d_Mo_part_25 : decode b_Mo_part 25 = .ok (.iload_n 3, 1) := by decide +kernel
theorem d_Mo_part_26 : decode b_Mo_part 26 = .ok (.iconst 0, 1) := by decide +kernel
theorem d_Mo_part_27 : decode b_Mo_part 27 = .ok (.iconst 4, 1) := by decide +kernel
theorem d_Mo_part_28 : decode b_Mo_part 28 = .ok (.invokestatic 101, 3) := by decide +kernel
theorem d_Mo_part_31 : decode b_Mo_part 31 = .ok (.ifCond .eq 39, 3) := by decide +kernel
theorem d_Mo_part_34 : decode b_Mo_part 34 = .ok (.iload 4, 2) := by decide +kernel
theorem d_Mo_part_36 : decode b_Mo_part 36 = .ok (.iconst 1, 1) := by decide +kernel
theorem d_Mo_part_37 : decode b_Mo_part 37 = .ok (.sipush 400, 3) := by decide +kernel
theorem d_Mo_part_40 : decode b_Mo_part 40 = .ok (.invokestatic 101, 3) := by decide +kernel
theorem d_Mo_part_43 : decode b_Mo_part 43 = .ok (.ifCond .eq 27, 3) := by decide +kernel
theorem d_Mo_part_46 : decode b_Mo_part 46 = .ok (.iload 5, 2) := by decide +kernel
theorem d_Mo_part_48 : decode b_Mo_part 48 = .ok (.iconst 1, 1) := by decide +kernel
theorem d_Mo_part_49 : decode b_Mo_part 49 = .ok (.sipush 10000, 3) := by decide +kernel
theorem d_Mo_part_52 : decode b_Mo_part 52 = .ok (.invokestatic 101, 3) := by decide +kernel
theorem d_Mo_part_55 : decode b_Mo_part 55 = .ok (.ifCond .eq 15, 3) := by decide +kernel
theorem d_Mo_part_58 : decode b_Mo_part 58 = .ok (.iload 6, 2) := by decide +kernel
theorem d_Mo_part_60 : decode b_Mo_part 60 = .ok (.iconst 1, 1) := by decide +kernel
theorem d_Mo_part_61 : decode b_Mo_part 61 = .ok (.sipush 7200, 3) := by decide +kernel
theorem d_Mo_part_64 : decode b_Mo_part 64 = .ok (.invokestatic 101, 3) := by decide +kernel
theorem d_Mo_part_67 : decode b_Mo_part 67 = .ok (.ifCond .ne 7, 3) := by decide +kernel
theorem d_Mo_part_70 : decode b_Mo_part 70 = .ok (.iconst 1, 1) := by decide +kernel
theorem d_Mo_part_71 : decode b_Mo_part 71 = .ok (.goto 17, 3) := by decide +kernel
theorem d_Mo_part_74 : decode b_Mo_part 74 = .ok (.aload_n 0, 1) := by decide +kernel
theorem d_Mo_part_75 : decode b_Mo_part 75 = .ok (.getfield 111, 3) := by decide +kernel
theorem d_Mo_part_78 : decode b_Mo_part 78 = .ok (.bipush 40, 2) := by decide +kernel
theorem d_Mo_part_80 : decode b_Mo_part 80 = .ok (.if_icmp .ne 7, 3) := by decide +kernel
theorem d_Mo_part_83 : decode b_Mo_part 83 = .ok (.iconst 2, 1) := by decide +kernel
theorem d_Mo_part_84 : decode b_Mo_part 84 = .ok (.goto 4, 3) := by decide +kernel
theorem d_Mo_part_87 : decode b_Mo_part 87 = .ok (.iconst 0, 1) := by decide +kernel
theorem d_Mo_part_88 : decode b_Mo_part 88 = .ok (.putfield 98, 3) := by decide +kernel
theorem d_Mo_part_91 : decode b_Mo_part 91 = .ok (.aload_n 0, 1) := by decide +kernel
theorem d_Mo_part_92 : decode b_Mo_part 92 = .ok (.getfield 98, 3) := by decide +kernel
theorem d_Mo_part_95 : decode b_Mo_part 95 = .ok (.ifCond .le 5, 3) := by decide +kernel
theorem d_Mo_part_98 : decode b_Mo_part 98 = .ok (.iconst 0, 1) := by decide +kernel
theorem d_Mo_part_99 : decode b_Mo_part 99 = .ok (.ireturn, 1) := by decide +kernel
theorem d_Mo_part_100 : decode b_Mo_part 100 = .ok (.aload_n 0, 1) := by decide +kernel
theorem d_Mo_part_101 : decode b_Mo_part 101 = .ok (.getfield 37, 3) := by decide +kernel
theorem d_Mo_part_104 : decode b_Mo_part 104 = .ok (.aload_n 0, 1) := by decide +kernel
theorem d_Mo_part_105 : decode b_Mo_part 105 = .ok (.getfield 111, 3) := by decide +kernel
theorem d_Mo_part_108 : decode b_Mo_part 108 = .ok (.iload_n 1, 1) := by decide +kernel
theorem d_Mo_part_109 : decode b_Mo_part 109 = .ok (.iastore, 1) := by decide +kernel
theorem d_Mo_part_110 : decode b_Mo_part 110 = .ok (.aload_n 0, 1) := by decide +kernel
theorem d_Mo_part_111 : decode b_Mo_part 111 = .ok (.getfield 40, 3) := by decide +kernel
theorem d_Mo_part_114 : decode b_Mo_part 114 = .ok (.aload_n 0, 1) := by decide +kernel
theorem d_Mo_part_115 : decode b_Mo_part 115 = .ok (.getfield 111, 3) := by decide +kernel
theorem d_Mo_part_118 : decode b_Mo_part 118 = .ok (.iload_n 2, 1) := by decide +kernel
theorem d_Mo_part_119 : decode b_Mo_part 119 = .ok (.iastore, 1) := by decide +kernel
theorem d_Mo_part_120 : decode b_Mo_part 120 = .ok (.aload_n 0, 1) := by decide +kernel
theorem d_Mo_part_121 : decode b_Mo_part 121 = .ok (.getfield 43, 3) := by decide +kernel
theorem d_Mo_part_124 : decode b_Mo_part 124 = .ok (.aload_n 0, 1) := by decide +kernel
theorem d_Mo_part_125 : decode b_Mo_part 125 = .ok (.getfield 111, 3) := by decide +kernel
theorem d_Mo_part_128 : decode b_Mo_part 128 = .ok (.iload_n 3, 1) := by decide +kernel
theorem d_Mo_part_129 : decode b_Mo_part 129 = .ok (.iastore, 1) := by decide +kernel
theorem d_Mo_part_130 : decode b_Mo_part 130 = .ok (.aload_n 0, 1) := by decide +kernel
theorem d_Mo_part_131 : decode b_Mo_part 131 = .ok (.getfield 46, 3) := by decide +kernel
theorem d_Mo_part_134 : decode b_Mo_part 134 = .ok (.aload_n 0, 1) := by decide +kernel
theorem d_Mo_part_135 : decode b_Mo_part 135 = .ok (.getfield 111, 3) := by decide +kernel
theorem d_Mo_part_138 : decode b_Mo_part 138 = .ok (.iload 4, 2) := by decide +kernel
theorem d_Mo_part_140 : decode b_Mo_part 140 = .ok (.iastore, 1) := by decide +kernel
theorem d_Mo_part_141 : decode b_Mo_part 141 = .ok (.aload_n 0, 1) := by decide +kernel
theorem d_Mo_part_142 : decode b_Mo_part 142 = .ok (.getfield 49, 3) := by decide +kernel
theorem d_Mo_part_145 : decode b_Mo_part 145 = .ok (.aload_n 0, 1) := by decide +kernel
theorem d_Mo_part_146 : decode b_Mo_part 146 = .ok (.getfield 111, 3) := by decide +kernel
theorem d_Mo_part_149 : decode b_Mo_part 149 = .ok (.iload 5, 2) := by decide +kernel
theorem d_Mo_part_151 : decode b_Mo_part 151 = .ok (.iastore, 1) := by decide +kernel
theorem d_Mo_part_152 : decode b_Mo_part 152 = .ok (.aload_n 0, 1) := by decide +kernel
theorem d_Mo_part_153 : decode b_Mo_part 153 = .ok (.getfield 52, 3) := by decide +kernel
theorem d_Mo_part_156 : decode b_Mo_part 156 = .ok (.aload_n 0, 1) := by decide +kernel
theorem d_Mo_part_157 : decode b_Mo_part 157 = .ok (.getfield 111, 3) := by decide +kernel
theorem d_Mo_part_160 : decode b_Mo_part 160 = .ok (.iload 6, 2) := by decide +kernel
theorem d_Mo_part_162 : decode b_Mo_part 162 = .ok (.iastore, 1) := by decide +kernel
theorem d_Mo_part_163 : decode b_Mo_part 163 = .ok (.aload_n 0, 1) := by decide +kernel
theorem d_Mo_part_164 : decode b_Mo_part 164 = .ok (.getfield 64, 3) := by decide +kernel
theorem d_Mo_part_167 : decode b_Mo_part 167 = .ok (.aload_n 0, 1) := by decide +kernel
theorem d_Mo_part_168 : decode b_Mo_part 168 = .ok (.getfield 111, 3) := by decide +kernel
theorem d_Mo_part_171 : decode b_Mo_part 171 = .ok (.iconst (-1), 1) := by decide +kernel
theorem d_Mo_part_172 : decode b_Mo_part 172 = .ok (.iastore, 1) := by decide +kernel
theorem d_Mo_part_173 : decode b_Mo_part 173 = .ok (.aload_n 0, 1) := by decide +kernel
theorem d_Mo_part_174 : decode b_Mo_part 174 = .ok (.dup, 1) := by decide +kernel
theorem d_Mo_part_175 : decode b_Mo_part 175 = .ok (.getfield 111, 3) := by decide +kernel
theorem d_Mo_part_178 : decode b_Mo_part 178 = .ok (.iconst 1, 1) := by decide +kernel
theorem d_Mo_part_179 : decode b_Mo_part 179 = .ok (.iadd, 1) := by decide +kernel
theorem d_Mo_part_180 : decode b_Mo_part 180 = .ok (.putfield 111, 3) := by decide +kernel
theorem d_Mo_part_183 : decode b_Mo_part 183 = .ok (.aload_n 0, 1) := by decide +kernel
theorem d_Mo_part_184 : decode b_Mo_part 184 = .ok (.getfield 111, 3) := by decide +kernel
theorem d_Mo_part_187 : decode b_Mo_part 187 = .ok (.iconst 1, 1) := by decide +kernel
theorem d_Mo_part_188 : decode b_Mo_part 188 = .ok (.isub, 1) := by decide +kernel
theorem d_Mo_part_189 : decode b_Mo_part 189 = .ok (.ireturn, 1) := by decide +kernel
theorem d_Mo_person_0 : decode b_Mo_person 0 = .ok (.aload_n 0, 1) := by decide +kernel
theorem d_Mo_person_1 : decode b_Mo_person 1 = .ok (.iload_n 1, 1) := by decide +kernel
theorem d_Mo_person_2 : decode b_Mo_person 2 = .ok (.iconst 0, 1) := by decide +kernel
theorem d_Mo_person_3 : decode b_Mo_person 3 = .ok (.sipush 255, 3) := by decide +kernel
theorem d_Mo_person_6 : decode b_Mo_person 6 = .ok (.invokestatic 101, 3) := by decide +kernel
theorem d_Mo_person_9 : decode b_Mo_person 9 = .ok (.ifCond .eq 27, 3) := by decide +kernel
theorem d_Mo_person_12 : decode b_Mo_person 12 = .ok (.iload_n 2, 1) := by decide +kernel
theorem d_Mo_person_13 : decode b_Mo_person 13 = .ok (.iconst 0, 1) := by decide +kernel
theorem d_Mo_person_14 : decode b_Mo_person 14 = .ok (.aload_n 0, 1) := by decide +kernel
theorem d_Mo_person_15 : decode b_Mo_person 15 = .ok (.getfield 105, 3) := by decide +kernel
theorem d_Mo_person_18 : decode b_Mo_person 18 = .ok (.iconst 1, 1) := by decide +kernel
theorem d_Mo_person_19 : decode b_Mo_person 19 = .ok (.isub, 1) := by decide +kernel
theorem d_Mo_person_20 : decode b_Mo_person 20 = .ok (.invokestatic 101, 3) := by decide +kernel
theorem d_Mo_person_23 : decode b_Mo_person 23 = .ok (.ifCond .eq 13, 3) := by decide +kernel
theorem d_Mo_person_26 : decode b_Mo_person 26 = .ok (.iload_n 3, 1) := by decide +kernel
theorem d_Mo_person_27 : decode b_Mo_person 27 = .ok (.iconst 0, 1) := by decide +kernel
theorem d_Mo_person_28 : decode b_Mo_person 28 = .ok (.ldc 114, 2) := by decide +kernel
theorem d_Mo_person_30 : decode b_Mo_person 30 = .ok (.invokestatic 101, 3) := by decide +kernel
theorem d_Mo_person_33 : decode b_Mo_person 33 = .ok (.ifCond .ne 7, 3) := by decide +kernel
theorem d_Mo_person_36 : decode b_Mo_person 36 = .ok (.iconst 1, 1) := by decide +kernel
theorem d_Mo_person_37 : decode b_Mo_person 37 = .ok (.goto 17, 3) := by decide +kernel
theorem d_Mo_person_40 : decode b_Mo_person 40 = .ok (.aload_n 0, 1) := by decide +kernel
theorem d_Mo_person_41 : decode b_Mo_person 41 = .ok (.getfield 115, 3) := by decide +kernel
theorem d_Mo_person_44 : decode b_Mo_person 44 = .ok (.bipush 8, 2) := by decide +kernel
theorem d_Mo_person_46 : decode b_Mo_person 46 = .ok (.if_icmp .ne 7, 3) := by decide +kernel
theorem d_Mo_person_49 : decode b_Mo_person 49 = .ok (.iconst 2, 1) := by decide +kernel
theorem d_Mo_person_50 : decode b_Mo_person 50 = .ok (.goto 4, 3) := by decide +kernel
theorem d_Mo_person_53 : decode b_Mo_person 53 = .ok (.iconst 0, 1) := by decide +kernel
theorem d_Mo_person_54 : decode b_Mo_person 54 = .ok (.putfield 98, 3) := by decide +kernel
theorem d_Mo_person_57 : decode b_Mo_person 57 = .ok (.aload_n 0, 1) := by decide +kernel
theorem d_Mo_person_58 : decode b_Mo_person 58 = .ok (.getfield 98, 3) := by decide +kernel
theorem d_Mo_person_61 : decode b_Mo_person 61 = .ok (.ifCond .le 5, 3) := by decide +kernel
theorem d_Mo_person_64 : decode b_Mo_person 64 = .ok (.iconst 0, 1) := by decide +kernel
theorem d_Mo_person_65 : decode b_Mo_person 65 = .ok (.ireturn, 1) := by decide +kernel
theorem d_Mo_person_66 : decode b_Mo_person 66 = .ok (.aload_n 0, 1) := by decide +kernel
theorem d_Mo_person_67 : decode b_Mo_person 67 = .ok (.getfield 67, 3) := by decide +kernel
theorem d_Mo_person_70 : decode b_Mo_person 70 = .ok (.aload_n 0, 1) := by decide +kernel
theorem d_Mo_person_71 : decode b_Mo_person 71 = .ok (.getfield 115, 3) := by decide +kernel
theorem d_Mo_person_74 : decode b_Mo_person 74 = .ok (.iload_n 1, 1) := by decide +kernel
theorem d_Mo_person_75 : decode b_Mo_person 75 = .ok (.iastore, 1) := by decide +kernel
theorem d_Mo_person_76 : decode b_Mo_person 76 = .ok (.aload_n 0, 1) := by decide +kernel
theorem d_Mo_person_77 : decode b_Mo_person 77 = .ok (.getfield 70, 3) := by decide +kernel
theorem d_Mo_person_80 : decode b_Mo_person 80 = .ok (.aload_n 0, 1) := by decide +kernel
theorem d_Mo_person_81 : decode b_Mo_person 81 = .ok (.getfield 115, 3) := by decide +kernel
theorem d_Mo_person_84 : decode b_Mo_person 84 = .ok (.iload_n 2, 1) := by decide +kernel
theorem d_Mo_person_85 : decode b_Mo_person 85 = .ok (.iastore, 1) := by decide +kernel
theorem d_Mo_person_86 : decode b_Mo_person 86 = .ok (.aload_n 0, 1) := by decide +kernel
theorem d_Mo_person_87 : decode b_Mo_person 87 = .ok (.getfield 73, 3) := by decide +kernel
theorem d_Mo_person_90 : decode b_Mo_person 90 = .ok (.aload_n 0, 1) := by decide +kernel
theorem d_Mo_person_91 : decode b_Mo_person 91 = .ok (.getfield 115, 3) := by decide +kernel
theorem d_Mo_person_94 : decode b_Mo_person 94 = .ok (.iload_n 3, 1) := by decide +kernel
theorem d_Mo_person_95 : decode b_Mo_person 95 = .ok (.iastore, 1) := by decide +kernel
theorem d_Mo_person_96 : decode b_Mo_person 96 = .ok (.aload_n 0, 1) := by decide +kernel
theorem d_Mo_person_97 : decode b_Mo_person 97 = .ok (.dup, 1) := by decide +kernel
theorem d_Mo_person_98 : decode b_Mo_person 98 = .ok (.getfield 115, 3) := by decide +kernel
theorem d_Mo_person_101 : decode b_Mo_person 101 = .ok (.iconst 1, 1) := by decide +kernel
theorem d_Mo_person_102 : decode b_Mo_person 102 = .ok (.iadd, 1) := by decide +kernel
theorem d_Mo_person_103 : decode b_Mo_person 103 = .ok (.putfield 115, 3) := by decide +kernel
theorem d_Mo_person_106 : decode b_Mo_person 106 = .ok (.aload_n 0, 1) := by decide +kernel
theorem d_Mo_person_107 : decode b_Mo_person 107 = .ok (.iconst (-1), 1) := by decide +kernel
theorem d_Mo_person_108 : decode b_Mo_person 108 = .ok (.putfield 79, 3) := by decide +kernel
theorem d_Mo_person_111 : decode b_Mo_person 111 = .ok (.aload_n 0, 1) := by decide +kernel
theorem d_Mo_person_112 : decode b_Mo_person 112 = .ok (.getfield 115, 3) := by decide +kernel
theorem d_Mo_person_115 : decode b_Mo_person 115 = .ok (.iconst 1, 1) := by decide +kernel
theorem d_Mo_person_116 : decode b_Mo_person 116 = .ok (.isub, 1) := by decide +kernel
theorem d_Mo_person_117 : decode b_Mo_person 117 = .ok (.ireturn, 1) := by decide +kernel
theorem d_Mo_isPart_0 : decode b_Mo_isPart 0 = .ok (.iload_n 1, 1) := by decide +kernel
theorem d_Mo_isPart_1 : decode b_Mo_isPart 1 = .ok (.iconst 0, 1) := by decide +kernel
theorem d_Mo_isPart_2 : decode b_Mo_isPart 2 = .ok (.aload_n 0, 1) := by decide +kernel
theorem d_Mo_isPart_3 : decode b_Mo_isPart 3 = .ok (.getfield 111, 3) := by decide +kernel
theorem d_Mo_isPart_6 : decode b_Mo_isPart 6 = .ok (.iconst 1, 1) := by decide +kernel
theorem d_Mo_isPart_7 : decode b_Mo_isPart 7 = .ok (.isub, 1) := by decide +kernel
theorem d_Mo_isPart_8 : decode b_Mo_isPart 8 = .ok (.invokestatic 101, 3) := by decide +kernel
theorem d_Mo_isPart_11 : decode b_Mo_isPart 11 = .ok (.ireturn, 1) := by decide +kernel
theorem d_Mo_used_0 : decode b_Mo_used 0 = .ok (.aload_n 0, 1) := by decide +kernel
theorem d_Mo_used_1 : decode b_Mo_used 1 = .ok (.aload_n 0, 1) := by decide +kernel
theorem d_Mo_used_2 : decode b_Mo_used 2 = .ok (.iload_n 1, 1) := by decide +kernel
theorem d_Mo_used_3 : decode b_Mo_used 3 = .ok (.invokevirtual 118, 3) := by decide +kernel
theorem d_Mo_used_6 : decode b_Mo_used 6 = .ok (.ifCond .eq 44, 3) := by decide +kernel
theorem d_Mo_used_9 : decode b_Mo_used 9 = .ok (.iload_n 2, 1) := by decide +kernel
theorem d_Mo_used_10 : decode b_Mo_used 10 = .ok (.iconst 0, 1) := by decide +kernel
theorem d_Mo_used_11 : decode b_Mo_used 11 = .ok (.ldc 114, 2) := by decide +kernel
theorem d_Mo_used_13 : decode b_Mo_used 13 = .ok (.invokestatic 101, 3) := by decide +kernel
theorem d_Mo_used_16 : decode b_Mo_used 16 = .ok (.ifCond .eq 34, 3) := by decide +kernel
theorem d_Mo_used_19 : decode b_Mo_used 19 = .ok (.iload_n 3, 1) := by decide +kernel
theorem d_Mo_used_20 : decode b_Mo_used 20 = .ok (.iconst 1, 1) := by decide +kernel
theorem d_Mo_used_21 : decode b_Mo_used 21 = .ok (.sipush 1000, 3) := by decide +kernel
theorem d_Mo_used_24 : decode b_Mo_used 24 = .ok (.invokestatic 101, 3) := by decide +kernel
theorem d_Mo_used_27 : decode b_Mo_used 27 = .ok (.ifCond .eq 23, 3) := by decide +kernel
theorem d_Mo_used_30 : decode b_Mo_used 30 = .ok (.iload_n 2, 1) := by decide +kernel
theorem d_Mo_used_31 : decode b_Mo_used 31 = .ok (.aload_n 0, 1) := by decide +kernel
theorem d_Mo_used_32 : decode b_Mo_used 32 = .ok (.getfield 61, 3) := by decide +kernel
theorem d_Mo_used_35 : decode b_Mo_used 35 = .ok (.iload_n 1, 1) := by decide +kernel
theorem d_Mo_used_36 : decode b_Mo_used 36 = .ok (.iaload, 1) := by decide +kernel
theorem d_Mo_used_37 : decode b_Mo_used 37 = .ok (.if_icmp .lt 13, 3) := by decide +kernel
theorem d_Mo_used_40 : decode b_Mo_used 40 = .ok (.iload_n 2, 1) := by decide +kernel
theorem d_Mo_used_41 : decode b_Mo_used 41 = .ok (.aload_n 0, 1) := by decide +kernel
theorem d_Mo_used_42 : decode b_Mo_used 42 = .ok (.getfield 55, 3) := by decide +kernel
theorem d_Mo_used_45 : decode b_Mo_used 45 = .ok (.iload_n 1, 1) := by decide +kernel
theorem d_Mo_used_46 : decode b_Mo_used 46 = .ok (.iaload, 1) := by decide +kernel
theorem d_Mo_used_47 : decode b_Mo_used 47 = .ok (.if_icmp .ge 7, 3) := by decide +kernel
theorem d_Mo_used_50 : decode b_Mo_used 50 = .ok (.iconst 1, 1) := by decide +kernel
theorem d_Mo_used_51 : decode b_Mo_used 51 = .ok (.goto 4, 3) := by decide +kernel
theorem d_Mo_used_54 : decode b_Mo_used 54 = .ok (.iconst 0, 1) := by decide +kernel
theorem d_Mo_used_55 : decode b_Mo_used 55 = .ok (.putfield 98, 3) := by decide +kernel
theorem d_Mo_used_58 : decode b_Mo_used 58 = .ok (.aload_n 0, 1) := by decide +kernel
theorem d_Mo_used_59 : decode b_Mo_used 59 = .ok (.getfield 98, 3) := by decide +kernel
theorem d_Mo_used_62 : decode b_Mo_used 62 = .ok (.ifCond .le 5, 3) := by decide +kernel
theorem d_Mo_used_65 : decode b_Mo_used 65 = .ok (.iconst 0, 1) := by decide +kernel
theorem d_Mo_used_66 : decode b_Mo_used 66 = .ok (.ireturn, 1) := by decide +kernel
theorem d_Mo_used_67 : decode b_Mo_used 67 = .ok (.aload_n 0, 1) := by decide +kernel
theorem d_Mo_used_68 : decode b_Mo_used 68 = .ok (.getfield 58, 3) := by decide +kernel
theorem d_Mo_used_71 : decode b_Mo_used 71 = .ok (.iload_n 1, 1) := by decide +kernel
theorem d_Mo_used_72 : decode b_Mo_used 72 = .ok (.dup2, 1) := by decide +kernel
theorem d_Mo_used_73 : decode b_Mo_used 73 = .ok (.iaload, 1) := by decide +kernel
theorem d_Mo_used_74 : decode b_Mo_used 74 = .ok (.iload_n 3, 1) := by decide +kernel
theorem d_Mo_used_75 : decode b_Mo_used 75 = .ok (.iadd, 1) := by decide +kernel
theorem d_Mo_used_76 : decode b_Mo_used 76 = .ok (.iastore, 1) := by decide +kernel
theorem d_Mo_used_77 : decode b_Mo_used 77 = .ok (.aload_n 0, 1) := by decide +kernel
theorem d_Mo_used_78 : decode b_Mo_used 78 = .ok (.getfield 61, 3) := by decide +kernel
theorem d_Mo_used_81 : decode b_Mo_used 81 = .ok (.iload_n 1, 1) := by decide +kernel
theorem d_Mo_used_82 : decode b_Mo_used 82 = .ok (.iload_n 2, 1) := by decide +kernel
theorem d_Mo_used_83 : decode b_Mo_used 83 = .ok (.iastore, 1) := by decide +kernel
theorem d_Mo_used_84 : decode b_Mo_used 84 = .ok (.aload_n 0, 1) := by decide +kernel
theorem d_Mo_used_85 : decode b_Mo_used 85 = .ok (.getfield 58, 3) := by decide +kernel
theorem d_Mo_used_88 : decode b_Mo_used 88 = .ok (.iload_n 1, 1) := by decide +kernel
theorem d_Mo_used_89 : decode b_Mo_used 89 = .ok (.iaload, 1) := by decide +kernel
theorem d_Mo_used_90 : decode b_Mo_used 90 = .ok (.aload_n 0, 1) := by decide +kernel
theorem d_Mo_used_91 : decode b_Mo_used 91 = .ok (.getfield 49, 3) := by decide +kernel
theorem d_Mo_used_94 : decode b_Mo_used 94 = .ok (.iload_n 1, 1) := by decide +kernel
theorem d_Mo_used_95 : decode b_Mo_used 95 = .ok (.iaload, 1) := by decide +kernel
theorem d_Mo_used_96 : decode b_Mo_used 96 = .ok (.if_icmp .lt 19, 3) := by decide +kernel
theorem d_Mo_used_99 : decode b_Mo_used 99 = .ok (.aload_n 0, 1) := by decide +kernel
theorem d_Mo_used_100 : decode b_Mo_used 100 = .ok (.getfield 64, 3) := by decide +kernel
theorem d_Mo_used_103 : decode b_Mo_used 103 = .ok (.iload_n 1, 1) := by decide +kernel
theorem d_Mo_used_104 : decode b_Mo_used 104 = .ok (.iaload, 1) := by decide +kernel
theorem d_Mo_used_105 : decode b_Mo_used 105 = .ok (.ifCond .ge 10, 3) := by decide +kernel
theorem d_Mo_used_108 : decode b_Mo_used 108 = .ok (.aload_n 0, 1) := by decide +kernel
theorem d_Mo_used_109 : decode b_Mo_used 109 = .ok (.getfield 64, 3) := by decide +kernel
theorem d_Mo_used_112 : decode b_Mo_used 112 = .ok (.iload_n 1, 1) := by decide +kernel
theorem d_Mo_used_113 : decode b_Mo_used 113 = .ok (.iload_n 2, 1) := by decide +kernel
theorem d_Mo_used_114 : decode b_Mo_used 114 = .ok (.iastore, 1) := by decide +kernel
theorem d_Mo_used_115 : decode b_Mo_used 115 = .ok (.aload_n 0, 1) := by decide +kernel
theorem d_Mo_used_116 : decode b_Mo_used 116 = .ok (.getfield 58, 3) := by decide +kernel
theorem d_Mo_used_119 : decode b_Mo_used 119 = .ok (.iload_n 1, 1) := by decide +kernel
theorem d_Mo_used_120 : decode b_Mo_used 120 = .ok (.iaload, 1) := by decide +kernel
theorem d_Mo_used_121 : decode b_Mo_used 121 = .ok (.ireturn, 1) := by decide +kernel
theorem d_Mo_stock_0 : decode b_Mo_stock 0 = .ok (.aload_n 0, 1) := by decide +kernel
theorem d_Mo_stock_1 : decode b_Mo_stock 1 = .ok (.iload_n 1, 1) := by decide +kernel
theorem d_Mo_stock_2 : decode b_Mo_stock 2 = .ok (.iconst 0, 1) := by decide +kernel
theorem d_Mo_stock_3 : decode b_Mo_stock 3 = .ok (.iconst 4, 1) := by decide +kernel
theorem d_Mo_stock_4 : decode b_Mo_stock 4 = .ok (.invokestatic 101, 3) := by decide +kernel
theorem d_Mo_stock_7 : decode b_Mo_stock 7 = .ok (.ifCond .eq 14, 3) := by decide +kernel
theorem d_Mo_stock_10 : decode b_Mo_stock 10 = .ok (.iload_n 2, 1) := by decide +kernel
theorem d_Mo_stock_11 : decode b_Mo_stock 11 = .ok (.iconst 1, 1) := by decide +kernel
theorem d_Mo_stock_12 : decode b_Mo_stock 12 = .ok (.sipush 1000, 3) := by decide +kernel
theorem d_Mo_stock_15 : decode b_Mo_stock 15 = .ok (.invokestatic 101, 3) := by decide +kernel
theorem d_Mo_stock_18 : decode b_Mo_stock 18 = .ok (.ifCond .ne 7, 3) := by decide +kernel
theorem d_Mo_stock_21 : decode b_Mo_stock 21 = .ok (.iconst 1, 1) := by decide +kernel
theorem d_Mo_stock_22 : decode b_Mo_stock 22 = .ok (.goto 4, 3) := by decide +kernel
theorem d_Mo_stock_25 : decode b_Mo_stock 25 = .ok (.iconst 0, 1) := by decide +kernel
theorem d_Mo_stock_26 : decode b_Mo_stock 26 = .ok (.putfield 98, 3) := by decide +kernel
theorem d_Mo_stock_29 : decode b_Mo_stock 29 = .ok (.aload_n 0, 1) := by decide +kernel
theorem d_Mo_stock_30 : decode b_Mo_stock 30 = .ok (.getfield 98, 3) := by decide +kernel
theorem d_Mo_stock_33 : decode b_Mo_stock 33 = .ok (.ifCond .le 5, 3) := by decide +kernel
theorem d_Mo_stock_36 : decode b_Mo_stock 36 = .ok (.iconst 0, 1) := by decide +kernel
theorem d_Mo_stock_37 : decode b_Mo_stock 37 = .ok (.ireturn, 1) := by decide +kernel
theorem d_Mo_stock_38 : decode b_Mo_stock 38 = .ok (.aload_n 0, 1) := by decide +kernel
theorem d_Mo_stock_39 : decode b_Mo_stock 39 = .ok (.getfield 76, 3) := by decide +kernel
theorem d_Mo_stock_42 : decode b_Mo_stock 42 = .ok (.iload_n 1, 1) := by decide +kernel
theorem d_Mo_stock_43 : decode b_Mo_stock 43 = .ok (.dup2, 1) := by decide +kernel
theorem d_Mo_stock_44 : decode b_Mo_stock 44 = .ok (.iaload, 1) := by decide +kernel
theorem d_Mo_stock_45 : decode b_Mo_stock 45 = .ok (.iload_n 2, 1) := by decide +kernel
theorem d_Mo_stock_46 : decode b_Mo_stock 46 = .ok (.iadd, 1) := by decide +kernel
theorem d_Mo_stock_47 : decode b_Mo_stock 47 = .ok (.iastore, 1) := by decide +kernel
theorem d_Mo_stock_48 : decode b_Mo_stock 48 = .ok (.aload_n 0, 1) := by decide +kernel
theorem d_Mo_stock_49 : decode b_Mo_stock 49 = .ok (.getfield 76, 3) := by decide +kernel
theorem d_Mo_stock_52 : decode b_Mo_stock 52 = .ok (.iload_n 1, 1) := by decide +kernel
theorem d_Mo_stock_53 : decode b_Mo_stock 53 = .ok (.iaload, 1) := by decide +kernel
theorem d_Mo_stock_54 : decode b_Mo_stock 54 = .ok (.ireturn, 1) := by decide +kernel
theorem d_Mo_apart_0 : decode b_Mo_apart 0 = .ok (.iload_n 0, 1) := by decide +kernel
theorem d_Mo_apart_1 : decode b_Mo_apart 1 = .ok (.iload_n 1, 1) := by decide +kernel
theorem d_Mo_apart_2 : decode b_Mo_apart 2 = .ok (.if_icmp .ge 9, 3) := by decide +kernel
theorem d_Mo_apart_5 : decode b_Mo_apart 5 = .ok (.iload_n 1, 1) := by decide +kernel
theorem d_Mo_apart_6 : decode b_Mo_apart 6 = .ok (.iload_n 0, 1) := by decide +kernel
theorem d_Mo_apart_7 : decode b_Mo_apart 7 = .ok (.isub, 1) := by decide +kernel
theorem d_Mo_apart_8 : decode b_Mo_apart 8 = .ok (.goto 6, 3) := by decide +kernel
theorem d_Mo_apart_11 : decode b_Mo_apart 11 = .ok (.iload_n 0, 1) := by decide +kernel
theorem d_Mo_apart_12 : decode b_Mo_apart 12 = .ok (.iload_n 1, 1) := by decide +kernel
theorem d_Mo_apart_13 : decode b_Mo_apart 13 = .ok (.isub, 1) := by decide +kernel
theorem d_Mo_apart_14 : decode b_Mo_apart 14 = .ok (.ireturn, 1) := by decide +kernel
theorem d_Mo_way_0 : decode b_Mo_way 0 = .ok (.aload_n 0, 1) := by decide +kernel
theorem d_Mo_way_1 : decode b_Mo_way 1 = .ok (.getfield 7, 3) := by decide +kernel
theorem d_Mo_way_4 : decode b_Mo_way 4 = .ok (.iload_n 1, 1) := by decide +kernel
theorem d_Mo_way_5 : decode b_Mo_way 5 = .ok (.iaload, 1) := by decide +kernel
theorem d_Mo_way_6 : decode b_Mo_way 6 = .ok (.aload_n 0, 1) := by decide +kernel
theorem d_Mo_way_7 : decode b_Mo_way 7 = .ok (.getfield 7, 3) := by decide +kernel
theorem d_Mo_way_10 : decode b_Mo_way 10 = .ok (.iload_n 2, 1) := by decide +kernel
theorem d_Mo_way_11 : decode b_Mo_way 11 = .ok (.iaload, 1) := by decide +kernel
theorem d_Mo_way_12 : decode b_Mo_way 12 = .ok (.if_icmp .ne 35, 3) := by decide +kernel
theorem d_Mo_way_15 : decode b_Mo_way 15 = .ok (.aload_n 0, 1) := by decide +kernel
theorem d_Mo_way_16 : decode b_Mo_way 16 = .ok (.getfield 13, 3) := by decide +kernel
theorem d_Mo_way_19 : decode b_Mo_way 19 = .ok (.iload_n 1, 1) := by decide +kernel
theorem d_Mo_way_20 : decode b_Mo_way 20 = .ok (.iaload, 1) := by decide +kernel
theorem d_Mo_way_21 : decode b_Mo_way 21 = .ok (.aload_n 0, 1) := by decide +kernel
theorem d_Mo_way_22 : decode b_Mo_way 22 = .ok (.getfield 13, 3) := by decide +kernel
theorem d_Mo_way_25 : decode b_Mo_way 25 = .ok (.iload_n 2, 1) := by decide +kernel
theorem d_Mo_way_26 : decode b_Mo_way 26 = .ok (.iaload, 1) := by decide +kernel
theorem d_Mo_way_27 : decode b_Mo_way 27 = .ok (.invokestatic 122, 3) := by decide +kernel
theorem d_Mo_way_30 : decode b_Mo_way 30 = .ok (.aload_n 0, 1) := by decide +kernel
theorem d_Mo_way_31 : decode b_Mo_way 31 = .ok (.getfield 16, 3) := by decide +kernel
theorem d_Mo_way_34 : decode b_Mo_way 34 = .ok (.iload_n 1, 1) := by decide +kernel
theorem d_Mo_way_35 : decode b_Mo_way 35 = .ok (.iaload, 1) := by decide +kernel
theorem d_Mo_way_36 : decode b_Mo_way 36 = .ok (.aload_n 0, 1) := by decide +kernel
theorem d_Mo_way_37 : decode b_Mo_way 37 = .ok (.getfield 16, 3) := by decide +kernel
theorem d_Mo_way_40 : decode b_Mo_way 40 = .ok (.iload_n 2, 1) := by decide +kernel
theorem d_Mo_way_41 : decode b_Mo_way 41 = .ok (.iaload, 1) := by decide +kernel
theorem d_Mo_way_42 : decode b_Mo_way 42 = .ok (.invokestatic 122, 3) := by decide +kernel
theorem d_Mo_way_45 : decode b_Mo_way 45 = .ok (.iadd, 1) := by decide +kernel
theorem d_Mo_way_46 : decode b_Mo_way 46 = .ok (.ireturn, 1) := by decide +kernel
theorem d_Mo_way_47 : decode b_Mo_way 47 = .ok (.iconst (-1), 1) := by decide +kernel
theorem d_Mo_way_48 : decode b_Mo_way 48 = .ok (.istore_n 3, 1) := by decide +kernel
theorem d_Mo_way_49 : decode b_Mo_way 49 = .ok (.iconst 0, 1) := by decide +kernel
theorem d_Mo_way_50 : decode b_Mo_way 50 = .ok (.istore 4, 2) := by decide +kernel
theorem d_Mo_way_52 : decode b_Mo_way 52 = .ok (.iload 4, 2) := by decide +kernel
theorem d_Mo_way_54 : decode b_Mo_way 54 = .ok (.aload_n 0, 1) := by decide +kernel
theorem d_Mo_way_55 : decode b_Mo_way 55 = .ok (.getfield 108, 3) := by decide +kernel
theorem d_Mo_way_58 : decode b_Mo_way 58 = .ok (.if_icmp .ge 190, 3) := by decide +kernel
theorem d_Mo_way_61 : decode b_Mo_way 61 = .ok (.aload_n 0, 1) := by decide +kernel
theorem d_Mo_way_62 : decode b_Mo_way 62 = .ok (.getfield 7, 3) := by decide +kernel
theorem d_Mo_way_65 : decode b_Mo_way 65 = .ok (.iload_n 1, 1) := by decide +kernel
theorem d_Mo_way_66 : decode b_Mo_way 66 = .ok (.iaload, 1) := by decide +kernel
theorem d_Mo_way_67 : decode b_Mo_way 67 = .ok (.aload_n 0, 1) := by decide +kernel
theorem d_Mo_way_68 : decode b_Mo_way 68 = .ok (.getfield 25, 3) := by decide +kernel
theorem d_Mo_way_71 : decode b_Mo_way 71 = .ok (.iload 4, 2) := by decide +kernel
theorem d_Mo_way_73 : decode b_Mo_way 73 = .ok (.iaload, 1) := by decide +kernel
theorem d_Mo_way_74 : decode b_Mo_way 74 = .ok (.aload_n 0, 1) := by decide +kernel
theorem d_Mo_way_75 : decode b_Mo_way 75 = .ok (.getfield 28, 3) := by decide +kernel
theorem d_Mo_way_78 : decode b_Mo_way 78 = .ok (.iload 4, 2) := by decide +kernel
theorem d_Mo_way_80 : decode b_Mo_way 80 = .ok (.iaload, 1) := by decide +kernel
theorem d_Mo_way_81 : decode b_Mo_way 81 = .ok (.invokestatic 101, 3) := by decide +kernel
theorem d_Mo_way_84 : decode b_Mo_way 84 = .ok (.ifCond .eq 158, 3) := by decide +kernel
theorem d_Mo_way_87 : decode b_Mo_way 87 = .ok (.aload_n 0, 1) := by decide +kernel
theorem d_Mo_way_88 : decode b_Mo_way 88 = .ok (.getfield 7, 3) := by decide +kernel
theorem d_Mo_way_91 : decode b_Mo_way 91 = .ok (.iload_n 2, 1) := by decide +kernel
theorem d_Mo_way_92 : decode b_Mo_way 92 = .ok (.iaload, 1) := by decide +kernel
theorem d_Mo_way_93 : decode b_Mo_way 93 = .ok (.aload_n 0, 1) := by decide +kernel
theorem d_Mo_way_94 : decode b_Mo_way 94 = .ok (.getfield 25, 3) := by decide +kernel
theorem d_Mo_way_97 : decode b_Mo_way 97 = .ok (.iload 4, 2) := by decide +kernel
theorem d_Mo_way_99 : decode b_Mo_way 99 = .ok (.iaload, 1) := by decide +kernel
theorem d_Mo_way_100 : decode b_Mo_way 100 = .ok (.aload_n 0, 1) := by decide +kernel
theorem d_Mo_way_101 : decode b_Mo_way 101 = .ok (.getfield 28, 3) := by decide +kernel
theorem d_Mo_way_104 : decode b_Mo_way 104 = .ok (.iload 4, 2) := by decide +kernel
theorem d_Mo_way_106 : decode b_Mo_way 106 = .ok (.iaload, 1) := by decide +kernel
theorem d_Mo_way_107 : decode b_Mo_way 107 = .ok (.invokestatic 101, 3) := by decide +kernel
theorem d_Mo_way_110 : decode b_Mo_way 110 = .ok (.ifCond .ne 6, 3) := by decide +kernel
theorem d_Mo_way_113 : decode b_Mo_way 113 = .ok (.goto 129, 3) := by decide +kernel
theorem d_Mo_way_116 : decode b_Mo_way 116 = .ok (.aload_n 0, 1) := by decide +kernel
theorem d_Mo_way_117 : decode b_Mo_way 117 = .ok (.getfield 13, 3) := by decide +kernel
theorem d_Mo_way_120 : decode b_Mo_way 120 = .ok (.iload_n 1, 1) := by decide +kernel
theorem d_Mo_way_121 : decode b_Mo_way 121 = .ok (.iaload, 1) := by decide +kernel
theorem d_Mo_way_122 : decode b_Mo_way 122 = .ok (.aload_n 0, 1) := by decide +kernel
theorem d_Mo_way_123 : decode b_Mo_way 123 = .ok (.getfield 19, 3) := by decide +kernel
theorem d_Mo_way_126 : decode b_Mo_way 126 = .ok (.iload 4, 2) := by decide +kernel
theorem d_Mo_way_128 : decode b_Mo_way 128 = .ok (.iaload, 1) := by decide +kernel
theorem d_Mo_way_129 : decode b_Mo_way 129 = .ok (.invokestatic 122, 3) := by decide +kernel
theorem d_Mo_way_132 : decode b_Mo_way 132 = .ok (.aload_n 0, 1) := by decide +kernel
theorem d_Mo_way_133 : decode b_Mo_way 133 = .ok (.getfield 16, 3) := by decide +kernel
theorem d_Mo_way_136 : decode b_Mo_way 136 = .ok (.iload_n 1, 1) := by decide +kernel
theorem d_Mo_way_137 : decode b_Mo_way 137 = .ok (.iaload, 1) := by decide +kernel
theorem d_Mo_way_138 : decode b_Mo_way 138 = .ok (.aload_n 0, 1) := by decide +kernel
theorem d_Mo_way_139 : decode b_Mo_way 139 = .ok (.getfield 22, 3) := by decide +kernel
theorem d_Mo_way_142 : decode b_Mo_way 142 = .ok (.iload 4, 2) := by decide +kernel
theorem d_Mo_way_144 : decode b_Mo_way 144 = .ok (.iaload, 1) := by decide +kernel
theorem d_Mo_way_145 : decode b_Mo_way 145 = .ok (.invokestatic 122, 3) := by decide +kernel
theorem d_Mo_way_148 : decode b_Mo_way 148 = .ok (.iadd, 1) := by decide +kernel
theorem d_Mo_way_149 : decode b_Mo_way 149 = .ok (.istore 5, 2) := by decide +kernel
theorem d_Mo_way_151 : decode b_Mo_way 151 = .ok (.aload_n 0, 1) := by decide +kernel
theorem d_Mo_way_152 : decode b_Mo_way 152 = .ok (.getfield 13, 3) := by decide +kernel
theorem d_Mo_way_155 : decode b_Mo_way 155 = .ok (.iload_n 2, 1) := by decide +kernel
theorem d_Mo_way_156 : decode b_Mo_way 156 = .ok (.iaload, 1) := by decide +kernel
theorem d_Mo_way_157 : decode b_Mo_way 157 = .ok (.aload_n 0, 1) := by decide +kernel
theorem d_Mo_way_158 : decode b_Mo_way 158 = .ok (.getfield 19, 3) := by decide +kernel
theorem d_Mo_way_161 : decode b_Mo_way 161 = .ok (.iload 4, 2) := by decide +kernel
theorem d_Mo_way_163 : decode b_Mo_way 163 = .ok (.iaload, 1) := by decide +kernel
theorem d_Mo_way_164 : decode b_Mo_way 164 = .ok (.invokestatic 122, 3) := by decide +kernel
theorem d_Mo_way_167 : decode b_Mo_way 167 = .ok (.aload_n 0, 1) := by decide +kernel
theorem d_Mo_way_168 : decode b_Mo_way 168 = .ok (.getfield 16, 3) := by decide +kernel
theorem d_Mo_way_171 : decode b_Mo_way 171 = .ok (.iload_n 2, 1) := by decide +kernel
theorem d_Mo_way_172 : decode b_Mo_way 172 = .ok (.iaload, 1) := by decide +kernel
theorem d_Mo_way_173 : decode b_Mo_way 173 = .ok (.aload_n 0, 1) := by decide +kernel
theorem d_Mo_way_174 : decode b_Mo_way 174 = .ok (.getfield 22, 3) := by decide +kernel
theorem d_Mo_way_177 : decode b_Mo_way 177 = .ok (.iload 4, 2) := by decide +kernel
theorem d_Mo_way_179 : decode b_Mo_way 179 = .ok (.iaload, 1) := by decide +kernel
theorem d_Mo_way_180 : decode b_Mo_way 180 = .ok (.invokestatic 122, 3) := by decide +kernel
theorem d_Mo_way_183 : decode b_Mo_way 183 = .ok (.iadd, 1) := by decide +kernel
theorem d_Mo_way_184 : decode b_Mo_way 184 = .ok (.istore 6, 2) := by decide +kernel
theorem d_Mo_way_186 : decode b_Mo_way 186 = .ok (.iload 5, 2) := by decide +kernel
theorem d_Mo_way_188 : decode b_Mo_way 188 = .ok (.aload_n 0, 1) := by decide +kernel
theorem d_Mo_way_189 : decode b_Mo_way 189 = .ok (.getfield 31, 3) := by decide +kernel
theorem d_Mo_way_192 : decode b_Mo_way 192 = .ok (.iload 4, 2) := by decide +kernel
theorem d_Mo_way_194 : decode b_Mo_way 194 = .ok (.iaload, 1) := by decide +kernel
theorem d_Mo_way_195 : decode b_Mo_way 195 = .ok (.iadd, 1) := by decide +kernel
theorem d_Mo_way_196 : decode b_Mo_way 196 = .ok (.aload_n 0, 1) := by decide +kernel
theorem d_Mo_way_197 : decode b_Mo_way 197 = .ok (.getfield 34, 3) := by decide +kernel
theorem d_Mo_way_200 : decode b_Mo_way 200 = .ok (.iload 4, 2) := by decide +kernel
theorem d_Mo_way_202 : decode b_Mo_way 202 = .ok (.iaload, 1) := by decide +kernel
theorem d_Mo_way_203 : decode b_Mo_way 203 = .ok (.aload_n 0, 1) := by decide +kernel
theorem d_Mo_way_204 : decode b_Mo_way 204 = .ok (.getfield 7, 3) := by decide +kernel
theorem d_Mo_way_207 : decode b_Mo_way 207 = .ok (.iload_n 1, 1) := by decide +kernel
theorem d_Mo_way_208 : decode b_Mo_way 208 = .ok (.iaload, 1) := by decide +kernel
theorem d_Mo_way_209 : decode b_Mo_way 209 = .ok (.aload_n 0, 1) := by decide +kernel
theorem d_Mo_way_210 : decode b_Mo_way 210 = .ok (.getfield 7, 3) := by decide +kernel
theorem d_Mo_way_213 : decode b_Mo_way 213 = .ok (.iload_n 2, 1) := by decide +kernel
theorem d_Mo_way_214 : decode b_Mo_way 214 = .ok (.iaload, 1) := by decide +kernel
theorem d_Mo_way_215 : decode b_Mo_way 215 = .ok (.invokestatic 122, 3) := by decide +kernel
theorem d_Mo_way_218 : decode b_Mo_way 218 = .ok (.imul, 1) := by decide +kernel
theorem d_Mo_way_219 : decode b_Mo_way 219 = .ok (.iadd, 1) := by decide +kernel
theorem d_Mo_way_220 : decode b_Mo_way 220 = .ok (.iload 6, 2) := by decide +kernel
theorem d_Mo_way_222 : decode b_Mo_way 222 = .ok (.iadd, 1) := by decide +kernel
theorem d_Mo_way_223 : decode b_Mo_way 223 = .ok (.istore 7, 2) := by decide +kernel
theorem d_Mo_way_225 : decode b_Mo_way 225 = .ok (.iload_n 3, 1) := by decide +kernel
theorem d_Mo_way_226 : decode b_Mo_way 226 = .ok (.ifCond .lt 9, 3) := by decide +kernel
theorem d_Mo_way_229 : decode b_Mo_way 229 = .ok (.iload 7, 2) := by decide +kernel
theorem d_Mo_way_231 : decode b_Mo_way 231 = .ok (.iload_n 3, 1) := by decide +kernel
theorem d_Mo_way_232 : decode b_Mo_way 232 = .ok (.if_icmp .ge 8, 3) := by decide +kernel
theorem d_Mo_way_235 : decode b_Mo_way 235 = .ok (.iload 7, 2) := by decide +kernel
theorem d_Mo_way_237 : decode b_Mo_way 237 = .ok (.goto 4, 3) := by decide +kernel
theorem d_Mo_way_240 : decode b_Mo_way 240 = .ok (.iload_n 3, 1) := by decide +kernel
theorem d_Mo_way_241 : decode b_Mo_way 241 = .ok (.istore_n 3, 1) := by decide +kernel
theorem d_Mo_way_242 : decode b_Mo_way 242 = .ok (.iinc 4 1, 3) := by decide +kernel
theorem d_Mo_way_245 : decode b_Mo_way 245 = .ok (.goto (-193), 3) := by decide +kernel
theorem d_Mo_way_248 : decode b_Mo_way 248 = .ok (.iload_n 3, 1) := by decide +kernel
theorem d_Mo_way_249 : decode b_Mo_way 249 = .ok (.ireturn, 1) := by decide +kernel
theorem d_Mo_walk_0 : decode b_Mo_walk 0 = .ok (.aload_n 0, 1) := by decide +kernel
theorem d_Mo_walk_1 : decode b_Mo_walk 1 = .ok (.iload_n 1, 1) := by decide +kernel
theorem d_Mo_walk_2 : decode b_Mo_walk 2 = .ok (.iconst 0, 1) := by decide +kernel
theorem d_Mo_walk_3 : decode b_Mo_walk 3 = .ok (.aload_n 0, 1) := by decide +kernel
theorem d_Mo_walk_4 : decode b_Mo_walk 4 = .ok (.getfield 105, 3) := by decide +kernel
theorem d_Mo_walk_7 : decode b_Mo_walk 7 = .ok (.iconst 1, 1) := by decide +kernel
theorem d_Mo_walk_8 : decode b_Mo_walk 8 = .ok (.isub, 1) := by decide +kernel
theorem d_Mo_walk_9 : decode b_Mo_walk 9 = .ok (.invokestatic 101, 3) := by decide +kernel
theorem d_Mo_walk_12 : decode b_Mo_walk 12 = .ok (.ifCond .eq 17, 3) := by decide +kernel
theorem d_Mo_walk_15 : decode b_Mo_walk 15 = .ok (.iload_n 2, 1) := by decide +kernel
theorem d_Mo_walk_16 : decode b_Mo_walk 16 = .ok (.iconst 0, 1) := by decide +kernel
theorem d_Mo_walk_17 : decode b_Mo_walk 17 = .ok (.aload_n 0, 1) := by decide +kernel
theorem d_Mo_walk_18 : decode b_Mo_walk 18 = .ok (.getfield 105, 3) := by decide +kernel
theorem d_Mo_walk_21 : decode b_Mo_walk 21 = .ok (.iconst 1, 1) := by decide +kernel
theorem d_Mo_walk_22 : decode b_Mo_walk 22 = .ok (.isub, 1) := by decide +kernel
theorem d_Mo_walk_23 : decode b_Mo_walk 23 = .ok (.invokestatic 101, 3) := by decide +kernel
theorem d_Mo_walk_26 : decode b_Mo_walk 26 = .ok (.ifCond .ne 7, 3) := by decide +kernel
theorem d_Mo_walk_29 : decode b_Mo_walk 29 = .ok (.iconst 1, 1) := by decide +kernel
theorem d_Mo_walk_30 : decode b_Mo_walk 30 = .ok (.goto 4, 3) := by decide +kernel
theorem d_Mo_walk_33 : decode b_Mo_walk 33 = .ok (.iconst 0, 1) := by decide +kernel
theorem d_Mo_walk_34 : decode b_Mo_walk 34 = .ok (.putfield 98, 3) := by decide +kernel
theorem d_Mo_walk_37 : decode b_Mo_walk 37 = .ok (.aload_n 0, 1) := by decide +kernel
theorem d_Mo_walk_38 : decode b_Mo_walk 38 = .ok (.getfield 98, 3) := by decide +kernel
theorem d_Mo_walk_41 : decode b_Mo_walk 41 = .ok (.ifCond .le 7, 3) := by decide +kernel
theorem d_Mo_walk_44 : decode b_Mo_walk 44 = .ok (.iconst 0, 1) := by decide +kernel
theorem d_Mo_walk_45 : decode b_Mo_walk 45 = .ok (.goto 9, 3) := by decide +kernel
theorem d_Mo_walk_48 : decode b_Mo_walk 48 = .ok (.aload_n 0, 1) := by decide +kernel
theorem d_Mo_walk_49 : decode b_Mo_walk 49 = .ok (.iload_n 1, 1) := by decide +kernel
theorem d_Mo_walk_50 : decode b_Mo_walk 50 = .ok (.iload_n 2, 1) := by decide +kernel
theorem d_Mo_walk_51 : decode b_Mo_walk 51 = .ok (.invokevirtual 126, 3) := by decide +kernel
theorem d_Mo_walk_54 : decode b_Mo_walk 54 = .ok (.ireturn, 1) := by decide +kernel
theorem d_Mo_dueDay_0 : decode b_Mo_dueDay 0 = .ok (.aload_n 0, 1) := by decide +kernel
theorem d_Mo_dueDay_1 : decode b_Mo_dueDay 1 = .ok (.getfield 64, 3) := by decide +kernel
theorem d_Mo_dueDay_4 : decode b_Mo_dueDay 4 = .ok (.iload_n 1, 1) := by decide +kernel
theorem d_Mo_dueDay_5 : decode b_Mo_dueDay 5 = .ok (.iaload, 1) := by decide +kernel
theorem d_Mo_dueDay_6 : decode b_Mo_dueDay 6 = .ok (.ifCond .lt 34, 3) := by decide +kernel
theorem d_Mo_dueDay_9 : decode b_Mo_dueDay 9 = .ok (.aload_n 0, 1) := by decide +kernel
theorem d_Mo_dueDay_10 : decode b_Mo_dueDay 10 = .ok (.getfield 64, 3) := by decide +kernel
theorem d_Mo_dueDay_13 : decode b_Mo_dueDay 13 = .ok (.iload_n 1, 1) := by decide +kernel
theorem d_Mo_dueDay_14 : decode b_Mo_dueDay 14 = .ok (.iaload, 1) := by decide +kernel
theorem d_Mo_dueDay_15 : decode b_Mo_dueDay 15 = .ok (.aload_n 0, 1) := by decide +kernel
theorem d_Mo_dueDay_16 : decode b_Mo_dueDay 16 = .ok (.getfield 55, 3) := by decide +kernel
theorem d_Mo_dueDay_19 : decode b_Mo_dueDay 19 = .ok (.iload_n 1, 1) := by decide +kernel
theorem d_Mo_dueDay_20 : decode b_Mo_dueDay 20 = .ok (.iaload, 1) := by decide +kernel
theorem d_Mo_dueDay_21 : decode b_Mo_dueDay 21 = .ok (.aload_n 0, 1) := by decide +kernel
theorem d_Mo_dueDay_22 : decode b_Mo_dueDay 22 = .ok (.getfield 46, 3) := by decide +kernel
theorem d_Mo_dueDay_25 : decode b_Mo_dueDay 25 = .ok (.iload_n 1, 1) := by decide +kernel
theorem d_Mo_dueDay_26 : decode b_Mo_dueDay 26 = .ok (.iaload, 1) := by decide +kernel
theorem d_Mo_dueDay_27 : decode b_Mo_dueDay 27 = .ok (.iadd, 1) := by decide +kernel
theorem d_Mo_dueDay_28 : decode b_Mo_dueDay 28 = .ok (.if_icmp .ge 12, 3) := by decide +kernel
theorem d_Mo_dueDay_31 : decode b_Mo_dueDay 31 = .ok (.aload_n 0, 1) := by decide +kernel
theorem d_Mo_dueDay_32 : decode b_Mo_dueDay 32 = .ok (.getfield 64, 3) := by decide +kernel
theorem d_Mo_dueDay_35 : decode b_Mo_dueDay 35 = .ok (.iload_n 1, 1) := by decide +kernel
theorem d_Mo_dueDay_36 : decode b_Mo_dueDay 36 = .ok (.iaload, 1) := by decide +kernel
theorem d_Mo_dueDay_37 : decode b_Mo_dueDay 37 = .ok (.goto 16, 3) := by decide +kernel
theorem d_Mo_dueDay_40 : decode b_Mo_dueDay 40 = .ok (.aload_n 0, 1) := by decide +kernel
theorem d_Mo_dueDay_41 : decode b_Mo_dueDay 41 = .ok (.getfield 55, 3) := by decide +kernel
theorem d_Mo_dueDay_44 : decode b_Mo_dueDay 44 = .ok (.iload_n 1, 1) := by decide +kernel
theorem d_Mo_dueDay_45 : decode b_Mo_dueDay 45 = .ok (.iaload, 1) := by decide +kernel
theorem d_Mo_dueDay_46 : decode b_Mo_dueDay 46 = .ok (.aload_n 0, 1) := by decide +kernel
theorem d_Mo_dueDay_47 : decode b_Mo_dueDay 47 = .ok (.getfield 46, 3) := by decide +kernel
theorem d_Mo_dueDay_50 : decode b_Mo_dueDay 50 = .ok (.iload_n 1, 1) := by decide +kernel
theorem d_Mo_dueDay_51 : decode b_Mo_dueDay 51 = .ok (.iaload, 1) := by decide +kernel
theorem d_Mo_dueDay_52 : decode b_Mo_dueDay 52 = .ok (.iadd, 1) := by decide +kernel
theorem d_Mo_dueDay_53 : decode b_Mo_dueDay 53 = .ok (.ireturn, 1) := by decide +kernel
theorem d_Mo_isBefore_0 : decode b_Mo_isBefore 0 = .ok (.aload_n 0, 1) := by decide +kernel
theorem d_Mo_isBefore_1 : decode b_Mo_isBefore 1 = .ok (.iload_n 1, 1) := by decide +kernel
theorem d_Mo_isBefore_2 : decode b_Mo_isBefore 2 = .ok (.invokevirtual 129, 3) := by decide +kernel
theorem d_Mo_isBefore_5 : decode b_Mo_isBefore 5 = .ok (.aload_n 0, 1) := by decide +kernel
theorem d_Mo_isBefore_6 : decode b_Mo_isBefore 6 = .ok (.iload_n 2, 1) := by decide +kernel
theorem d_Mo_isBefore_7 : decode b_Mo_isBefore 7 = .ok (.invokevirtual 129, 3) := by decide +kernel
theorem d_Mo_isBefore_10 : decode b_Mo_isBefore 10 = .ok (.if_icmp .lt 21, 3) := by decide +kernel
theorem d_Mo_isBefore_13 : decode b_Mo_isBefore 13 = .ok (.aload_n 0, 1) := by decide +kernel
theorem d_Mo_isBefore_14 : decode b_Mo_isBefore 14 = .ok (.iload_n 1, 1) := by decide +kernel
theorem d_Mo_isBefore_15 : decode b_Mo_isBefore 15 = .ok (.invokevirtual 129, 3) := by decide +kernel
theorem d_Mo_isBefore_18 : decode b_Mo_isBefore 18 = .ok (.aload_n 0, 1) := by decide +kernel
theorem d_Mo_isBefore_19 : decode b_Mo_isBefore 19 = .ok (.iload_n 2, 1) := by decide +kernel
theorem d_Mo_isBefore_20 : decode b_Mo_isBefore 20 = .ok (.invokevirtual 129, 3) := by decide +kernel
theorem d_Mo_isBefore_23 : decode b_Mo_isBefore 23 = .ok (.if_icmp .ne 12, 3) := by decide +kernel
theorem d_Mo_isBefore_26 : decode b_Mo_isBefore 26 = .ok (.iload_n 1, 1) := by decide +kernel
theorem d_Mo_isBefore_27 : decode b_Mo_isBefore 27 = .ok (.iload_n 2, 1) := by decide +kernel
theorem d_Mo_isBefore_28 : decode b_Mo_isBefore 28 = .ok (.if_icmp .ge 7, 3) := by decide +kernel
theorem d_Mo_isBefore_31 : decode b_Mo_isBefore 31 = .ok (.iconst 1, 1) := by decide +kernel
theorem d_Mo_isBefore_32 : decode b_Mo_isBefore 32 = .ok (.goto 4, 3) := by decide +kernel
theorem d_Mo_isBefore_35 : decode b_Mo_isBefore 35 = .ok (.iconst 0, 1) := by decide +kernel
theorem d_Mo_isBefore_36 : decode b_Mo_isBefore 36 = .ok (.ireturn, 1) := by decide +kernel
theorem d_Mo_walksOf_0 : decode b_Mo_walksOf 0 = .ok (.iconst 0, 1) := by decide +kernel
theorem d_Mo_walksOf_1 : decode b_Mo_walksOf 1 = .ok (.istore 4, 2) := by decide +kernel
theorem d_Mo_walksOf_3 : decode b_Mo_walksOf 3 = .ok (.iload_n 3, 1) := by decide +kernel
theorem d_Mo_walksOf_4 : decode b_Mo_walksOf 4 = .ok (.istore 5, 2) := by decide +kernel
theorem d_Mo_walksOf_6 : decode b_Mo_walksOf 6 = .ok (.iconst 0, 1) := by decide +kernel
theorem d_Mo_walksOf_7 : decode b_Mo_walksOf 7 = .ok (.istore 6, 2) := by decide +kernel
theorem d_Mo_walksOf_9 : decode b_Mo_walksOf 9 = .ok (.iload 6, 2) := by decide +kernel
theorem d_Mo_walksOf_11 : decode b_Mo_walksOf 11 = .ok (.iload_n 2, 1) := by decide +kernel
theorem d_Mo_walksOf_12 : decode b_Mo_walksOf 12 = .ok (.if_icmp .gt 58, 3) := by decide +kernel
theorem d_Mo_walksOf_15 : decode b_Mo_walksOf 15 = .ok (.iload 6, 2) := by decide +kernel
theorem d_Mo_walksOf_17 : decode b_Mo_walksOf 17 = .ok (.iload_n 2, 1) := by decide +kernel
theorem d_Mo_walksOf_18 : decode b_Mo_walksOf 18 = .ok (.if_icmp .ge 15, 3) := by decide +kernel
theorem d_Mo_walksOf_21 : decode b_Mo_walksOf 21 = .ok (.aload_n 0, 1) := by decide +kernel
theorem d_Mo_walksOf_22 : decode b_Mo_walksOf 22 = .ok (.getfield 37, 3) := by decide +kernel
theorem d_Mo_walksOf_25 : decode b_Mo_walksOf 25 = .ok (.aload_n 1, 1) := by decide +kernel
theorem d_Mo_walksOf_26 : decode b_Mo_walksOf 26 = .ok (.iload 6, 2) := by decide +kernel
theorem d_Mo_walksOf_28 : decode b_Mo_walksOf 28 = .ok (.iaload, 1) := by decide +kernel
theorem d_Mo_walksOf_29 : decode b_Mo_walksOf 29 = .ok (.iaload, 1) := by decide +kernel
theorem d_Mo_walksOf_30 : decode b_Mo_walksOf 30 = .ok (.goto 4, 3) := by decide +kernel
theorem d_Mo_walksOf_33 : decode b_Mo_walksOf 33 = .ok (.iload_n 3, 1) := by decide +kernel
theorem d_Mo_walksOf_34 : decode b_Mo_walksOf 34 = .ok (.istore 7, 2) := by decide +kernel
theorem d_Mo_walksOf_36 : decode b_Mo_walksOf 36 = .ok (.aload_n 0, 1) := by decide +kernel
theorem d_Mo_walksOf_37 : decode b_Mo_walksOf 37 = .ok (.iload 5, 2) := by decide +kernel
theorem d_Mo_walksOf_39 : decode b_Mo_walksOf 39 = .ok (.iload 7, 2) := by decide +kernel
theorem d_Mo_walksOf_41 : decode b_Mo_walksOf 41 = .ok (.invokevirtual 126, 3) := by decide +kernel
theorem d_Mo_walksOf_44 : decode b_Mo_walksOf 44 = .ok (.istore 8, 2) := by decide +kernel
theorem d_Mo_walksOf_46 : decode b_Mo_walksOf 46 = .ok (.iload 8, 2) := by decide +kernel
theorem d_Mo_walksOf_48 : decode b_Mo_walksOf 48 = .ok (.ifCond .ge 5, 3) := by decide +kernel
theorem d_Mo_walksOf_51 : decode b_Mo_walksOf 51 = .ok (.iconst (-1), 1) := by decide +kernel
theorem d_Mo_walksOf_52 : decode b_Mo_walksOf 52 = .ok (.ireturn, 1) := by decide +kernel
theorem d_Mo_walksOf_53 : decode b_Mo_walksOf 53 = .ok (.iload 4, 2) := by decide +kernel
theorem d_Mo_walksOf_55 : decode b_Mo_walksOf 55 = .ok (.iload 8, 2) := by decide +kernel
theorem d_Mo_walksOf_57 : decode b_Mo_walksOf 57 = .ok (.iadd, 1) := by decide +kernel
theorem d_Mo_walksOf_58 : decode b_Mo_walksOf 58 = .ok (.istore 4, 2) := by decide +kernel
theorem d_Mo_walksOf_60 : decode b_Mo_walksOf 60 = .ok (.iload 7, 2) := by decide +kernel
theorem d_Mo_walksOf_62 : decode b_Mo_walksOf 62 = .ok (.istore 5, 2) := by decide +kernel
theorem d_Mo_walksOf_64 : decode b_Mo_walksOf 64 = .ok (.iinc 6 1, 3) := by decide +kernel
theorem d_Mo_walksOf_67 : decode b_Mo_walksOf 67 = .ok (.goto (-58), 3) := by decide +kernel
theorem d_Mo_walksOf_70 : decode b_Mo_walksOf 70 = .ok (.iload 4, 2) := by decide +kernel
theorem d_Mo_walksOf_72 : decode b_Mo_walksOf 72 = .ok (.ireturn, 1) := by decide +kernel
theorem d_Mo_next_0 : decode b_Mo_next 0 = .ok (.iload_n 1, 1) := by decide +kernel
theorem d_Mo_next_1 : decode b_Mo_next 1 = .ok (.iconst 2, 1) := by decide +kernel
theorem d_Mo_next_2 : decode b_Mo_next 2 = .ok (.isub, 1) := by decide +kernel
theorem d_Mo_next_3 : decode b_Mo_next 3 = .ok (.istore_n 2, 1) := by decide +kernel
theorem d_Mo_next_4 : decode b_Mo_next 4 = .ok (.iload_n 2, 1) := by decide +kernel
theorem d_Mo_next_5 : decode b_Mo_next 5 = .ok (.ifCond .lt 26, 3) := by decide +kernel
theorem d_Mo_next_8 : decode b_Mo_next 8 = .ok (.aload_n 0, 1) := by decide +kernel
theorem d_Mo_next_9 : decode b_Mo_next 9 = .ok (.getfield 89, 3) := by decide +kernel
theorem d_Mo_next_12 : decode b_Mo_next 12 = .ok (.iload_n 2, 1) := by decide +kernel
theorem d_Mo_next_13 : decode b_Mo_next 13 = .ok (.iaload, 1) := by decide +kernel
theorem d_Mo_next_14 : decode b_Mo_next 14 = .ok (.aload_n 0, 1) := by decide +kernel
theorem d_Mo_next_15 : decode b_Mo_next 15 = .ok (.getfield 89, 3) := by decide +kernel
theorem d_Mo_next_18 : decode b_Mo_next 18 = .ok (.iload_n 2, 1) := by decide +kernel
theorem d_Mo_next_19 : decode b_Mo_next 19 = .ok (.iconst 1, 1) := by decide +kernel
theorem d_Mo_next_20 : decode b_Mo_next 20 = .ok (.iadd, 1) := by decide +kernel
theorem d_Mo_next_21 : decode b_Mo_next 21 = .ok (.iaload, 1) := by decide +kernel
theorem d_Mo_next_22 : decode b_Mo_next 22 = .ok (.if_icmp .le 9, 3) := by decide +kernel
theorem d_Mo_next_25 : decode b_Mo_next 25 = .ok (.iinc 2 (-1), 3) := by decide +kernel
theorem d_Mo_next_28 : decode b_Mo_next 28 = .ok (.goto (-24), 3) := by decide +kernel
theorem d_Mo_next_31 : decode b_Mo_next 31 = .ok (.iload_n 2, 1) := by decide +kernel
theorem d_Mo_next_32 : decode b_Mo_next 32 = .ok (.ifCond .ge 5, 3) := by decide +kernel
theorem d_Mo_next_35 : decode b_Mo_next 35 = .ok (.iconst 0, 1) := by decide +kernel
theorem d_Mo_next_36 : decode b_Mo_next 36 = .ok (.ireturn, 1) := by decide +kernel
theorem d_Mo_next_37 : decode b_Mo_next 37 = .ok (.iload_n 1, 1) := by decide +kernel
theorem d_Mo_next_38 : decode b_Mo_next 38 = .ok (.iconst 1, 1) := by decide +kernel
theorem d_Mo_next_39 : decode b_Mo_next 39 = .ok (.isub, 1) := by decide +kernel
theorem d_Mo_next_40 : decode b_Mo_next 40 = .ok (.istore_n 3, 1) := by decide +kernel
theorem d_Mo_next_41 : decode b_Mo_next 41 = .ok (.aload_n 0, 1) := by decide +kernel
theorem d_Mo_next_42 : decode b_Mo_next 42 = .ok (.getfield 89, 3) := by decide +kernel
theorem d_Mo_next_45 : decode b_Mo_next 45 = .ok (.iload_n 3, 1) := by decide +kernel
theorem d_Mo_next_46 : decode b_Mo_next 46 = .ok (.iaload, 1) := by decide +kernel
theorem d_Mo_next_47 : decode b_Mo_next 47 = .ok (.aload_n 0, 1) := by decide +kernel
theorem d_Mo_next_48 : decode b_Mo_next 48 = .ok (.getfield 89, 3) := by decide +kernel
theorem d_Mo_next_51 : decode b_Mo_next 51 = .ok (.iload_n 2, 1) := by decide +kernel
theorem d_Mo_next_52 : decode b_Mo_next 52 = .ok (.iaload, 1) := by decide +kernel
theorem d_Mo_next_53 : decode b_Mo_next 53 = .ok (.if_icmp .ge 9, 3) := by decide +kernel
theorem d_Mo_next_56 : decode b_Mo_next 56 = .ok (.iinc 3 (-1), 3) := by decide +kernel
theorem d_Mo_next_59 : decode b_Mo_next 59 = .ok (.goto (-18), 3) := by decide +kernel
theorem d_Mo_next_62 : decode b_Mo_next 62 = .ok (.aload_n 0, 1) := by decide +kernel
theorem d_Mo_next_63 : decode b_Mo_next 63 = .ok (.iload_n 2, 1) := by decide +kernel
theorem d_Mo_next_64 : decode b_Mo_next 64 = .ok (.iload_n 3, 1) := by decide +kernel
theorem d_Mo_next_65 : decode b_Mo_next 65 = .ok (.invokevirtual 133, 3) := by decide +kernel
theorem d_Mo_next_68 : decode b_Mo_next 68 = .ok (.iload_n 2, 1) := by decide +kernel
theorem d_Mo_next_69 : decode b_Mo_next 69 = .ok (.iconst 1, 1) := by decide +kernel
theorem d_Mo_next_70 : decode b_Mo_next 70 = .ok (.iadd, 1) := by decide +kernel
theorem d_Mo_next_71 : decode b_Mo_next 71 = .ok (.istore 4, 2) := by decide +kernel
theorem d_Mo_next_73 : decode b_Mo_next 73 = .ok (.iload_n 1, 1) := by decide +kernel
theorem d_Mo_next_74 : decode b_Mo_next 74 = .ok (.iconst 1, 1) := by decide +kernel
theorem d_Mo_next_75 : decode b_Mo_next 75 = .ok (.isub, 1) := by decide +kernel
theorem d_Mo_next_76 : decode b_Mo_next 76 = .ok (.istore 5, 2) := by decide +kernel
theorem d_Mo_next_78 : decode b_Mo_next 78 = .ok (.iload 4, 2) := by decide +kernel
theorem d_Mo_next_80 : decode b_Mo_next 80 = .ok (.iload 5, 2) := by decide +kernel
theorem d_Mo_next_82 : decode b_Mo_next 82 = .ok (.if_icmp .ge 20, 3) := by decide +kernel
theorem d_Mo_next_85 : decode b_Mo_next 85 = .ok (.aload_n 0, 1) := by decide +kernel
theorem d_Mo_next_86 : decode b_Mo_next 86 = .ok (.iload 4, 2) := by decide +kernel
theorem d_Mo_next_88 : decode b_Mo_next 88 = .ok (.iload 5, 2) := by decide +kernel
theorem d_Mo_next_90 : decode b_Mo_next 90 = .ok (.invokevirtual 133, 3) := by decide +kernel
theorem d_Mo_next_93 : decode b_Mo_next 93 = .ok (.iinc 4 1, 3) := by decide +kernel
theorem d_Mo_next_96 : decode b_Mo_next 96 = .ok (.iinc 5 (-1), 3) := by decide +kernel
theorem d_Mo_next_99 : decode b_Mo_next 99 = .ok (.goto (-21), 3) := by decide +kernel
theorem d_Mo_next_102 : decode b_Mo_next 102 = .ok (.iconst 1, 1) := by decide +kernel
theorem d_Mo_next_103 : decode b_Mo_next 103 = .ok (.ireturn, 1) := by decide +kernel
theorem d_Mo_swap_0 : decode b_Mo_swap 0 = .ok (.aload_n 0, 1) := by decide +kernel
theorem d_Mo_swap_1 : decode b_Mo_swap 1 = .ok (.getfield 89, 3) := by decide +kernel
theorem d_Mo_swap_4 : decode b_Mo_swap 4 = .ok (.iload_n 1, 1) := by decide +kernel
theorem d_Mo_swap_5 : decode b_Mo_swap 5 = .ok (.iaload, 1) := by decide +kernel
theorem d_Mo_swap_6 : decode b_Mo_swap 6 = .ok (.istore_n 3, 1) := by decide +kernel
theorem d_Mo_swap_7 : decode b_Mo_swap 7 = .ok (.aload_n 0, 1) := by decide +kernel
theorem d_Mo_swap_8 : decode b_Mo_swap 8 = .ok (.getfield 89, 3) := by decide +kernel
theorem d_Mo_swap_11 : decode b_Mo_swap 11 = .ok (.iload_n 1, 1) := by decide +kernel
theorem d_Mo_swap_12 : decode b_Mo_swap 12 = .ok (.aload_n 0, 1) := by decide +kernel
theorem d_Mo_swap_13 : decode b_Mo_swap 13 = .ok (.getfield 89, 3) := by decide +kernel
theorem d_Mo_swap_16 : decode b_Mo_swap 16 = .ok (.iload_n 2, 1) := by decide +kernel
theorem d_Mo_swap_17 : decode b_Mo_swap 17 = .ok (.iaload, 1) := by decide +kernel
theorem d_Mo_swap_18 : decode b_Mo_swap 18 = .ok (.iastore, 1) := by decide +kernel
theorem d_Mo_swap_19 : decode b_Mo_swap 19 = .ok (.aload_n 0, 1) := by decide +kernel
theorem d_Mo_swap_20 : decode b_Mo_swap 20 = .ok (.getfield 89, 3) := by decide +kernel
theorem d_Mo_swap_23 : decode b_Mo_swap 23 = .ok (.iload_n 2, 1) := by decide +kernel
theorem d_Mo_swap_24 : decode b_Mo_swap 24 = .ok (.iload_n 3, 1) := by decide +kernel
theorem d_Mo_swap_25 : decode b_Mo_swap 25 = .ok (.iastore, 1) := by decide +kernel
theorem d_Mo_swap_26 : decode b_Mo_swap 26 = .ok (.return_, 1) := by decide +kernel
theorem d_Mo_tour_0 : decode b_Mo_tour 0 = .ok (.aload_n 0, 1) := by decide +kernel
theorem d_Mo_tour_1 : decode b_Mo_tour 1 = .ok (.iload_n 1, 1) := by decide +kernel
theorem d_Mo_tour_2 : decode b_Mo_tour 2 = .ok (.iconst 0, 1) := by decide +kernel
theorem d_Mo_tour_3 : decode b_Mo_tour 3 = .ok (.aload_n 0, 1) := by decide +kernel
theorem d_Mo_tour_4 : decode b_Mo_tour 4 = .ok (.getfield 115, 3) := by decide +kernel
theorem d_Mo_tour_7 : decode b_Mo_tour 7 = .ok (.iconst 1, 1) := by decide +kernel
theorem d_Mo_tour_8 : decode b_Mo_tour 8 = .ok (.isub, 1) := by decide +kernel
theorem d_Mo_tour_9 : decode b_Mo_tour 9 = .ok (.invokestatic 101, 3) := by decide +kernel
theorem d_Mo_tour_12 : decode b_Mo_tour 12 = .ok (.ifCond .eq 13, 3) := by decide +kernel
theorem d_Mo_tour_15 : decode b_Mo_tour 15 = .ok (.iload_n 2, 1) := by decide +kernel
theorem d_Mo_tour_16 : decode b_Mo_tour 16 = .ok (.iconst 0, 1) := by decide +kernel
theorem d_Mo_tour_17 : decode b_Mo_tour 17 = .ok (.ldc 114, 2) := by decide +kernel
theorem d_Mo_tour_19 : decode b_Mo_tour 19 = .ok (.invokestatic 101, 3) := by decide +kernel
theorem d_Mo_tour_22 : decode b_Mo_tour 22 = .ok (.ifCond .ne 7, 3) := by decide +kernel
theorem d_Mo_tour_25 : decode b_Mo_tour 25 = .ok (.iconst 1, 1) := by decide +kernel
theorem d_Mo_tour_26 : decode b_Mo_tour 26 = .ok (.goto 4, 3) := by decide +kernel
theorem d_Mo_tour_29 : decode b_Mo_tour 29 = .ok (.iconst 0, 1) := by decide +kernel
theorem d_Mo_tour_30 : decode b_Mo_tour 30 = .ok (.putfield 98, 3) := by decide +kernel
theorem d_Mo_tour_33 : decode b_Mo_tour 33 = .ok (.aload_n 0, 1) := by decide +kernel
theorem d_Mo_tour_34 : decode b_Mo_tour 34 = .ok (.getfield 98, 3) := by decide +kernel
theorem d_Mo_tour_37 : decode b_Mo_tour 37 = .ok (.ifCond .le 5, 3) := by decide +kernel
theorem d_Mo_tour_40 : decode b_Mo_tour 40 = .ok (.iconst 0, 1) := by decide +kernel
theorem d_Mo_tour_41 : decode b_Mo_tour 41 = .ok (.ireturn, 1) := by decide +kernel
theorem d_Mo_tour_42 : decode b_Mo_tour 42 = .ok (.iconst 0, 1) := by decide +kernel
theorem d_Mo_tour_43 : decode b_Mo_tour 43 = .ok (.istore_n 3, 1) := by decide +kernel
theorem d_Mo_tour_44 : decode b_Mo_tour 44 = .ok (.iconst 0, 1) := by decide +kernel
theorem d_Mo_tour_45 : decode b_Mo_tour 45 = .ok (.istore 4, 2) := by decide +kernel
theorem d_Mo_tour_47 : decode b_Mo_tour 47 = .ok (.iload 4, 2) := by decide +kernel
theorem d_Mo_tour_49 : decode b_Mo_tour 49 = .ok (.aload_n 0, 1) := by decide +kernel
theorem d_Mo_tour_50 : decode b_Mo_tour 50 = .ok (.getfield 111, 3) := by decide +kernel
theorem d_Mo_tour_53 : decode b_Mo_tour 53 = .ok (.if_icmp .ge 158, 3) := by decide +kernel
theorem d_Mo_tour_56 : decode b_Mo_tour 56 = .ok (.aload_n 0, 1) := by decide +kernel
theorem d_Mo_tour_57 : decode b_Mo_tour 57 = .ok (.iload 4, 2) := by decide +kernel
theorem d_Mo_tour_59 : decode b_Mo_tour 59 = .ok (.invokevirtual 129, 3) := by decide +kernel
theorem d_Mo_tour_62 : decode b_Mo_tour 62 = .ok (.iload_n 2, 1) := by decide +kernel
theorem d_Mo_tour_63 : decode b_Mo_tour 63 = .ok (.if_icmp .gt 142, 3) := by decide +kernel
theorem d_Mo_tour_66 : decode b_Mo_tour 66 = .ok (.aload_n 0, 1) := by decide +kernel
theorem d_Mo_tour_67 : decode b_Mo_tour 67 = .ok (.getfield 67, 3) := by decide +kernel
theorem d_Mo_tour_70 : decode b_Mo_tour 70 = .ok (.iload_n 1, 1) := by decide +kernel
theorem d_Mo_tour_71 : decode b_Mo_tour 71 = .ok (.iaload, 1) := by decide +kernel
theorem d_Mo_tour_72 : decode b_Mo_tour 72 = .ok (.aload_n 0, 1) := by decide +kernel
theorem d_Mo_tour_73 : decode b_Mo_tour 73 = .ok (.getfield 40, 3) := by decide +kernel
theorem d_Mo_tour_76 : decode b_Mo_tour 76 = .ok (.iload 4, 2) := by decide +kernel
theorem d_Mo_tour_78 : decode b_Mo_tour 78 = .ok (.iaload, 1) := by decide +kernel
theorem d_Mo_tour_79 : decode b_Mo_tour 79 = .ok (.ishr, 1) := by decide +kernel
theorem d_Mo_tour_80 : decode b_Mo_tour 80 = .ok (.iconst 1, 1) := by decide +kernel
theorem d_Mo_tour_81 : decode b_Mo_tour 81 = .ok (.iand, 1) := by decide +kernel
theorem d_Mo_tour_82 : decode b_Mo_tour 82 = .ok (.ifCond .eq 123, 3) := by decide +kernel
theorem d_Mo_tour_85 : decode b_Mo_tour 85 = .ok (.aload_n 0, 1) := by decide +kernel
theorem d_Mo_tour_86 : decode b_Mo_tour 86 = .ok (.aload_n 0, 1) := by decide +kernel
theorem d_Mo_tour_87 : decode b_Mo_tour 87 = .ok (.getfield 70, 3) := by decide +kernel
theorem d_Mo_tour_90 : decode b_Mo_tour 90 = .ok (.iload_n 1, 1) := by decide +kernel
theorem d_Mo_tour_91 : decode b_Mo_tour 91 = .ok (.iaload, 1) := by decide +kernel
theorem d_Mo_tour_92 : decode b_Mo_tour 92 = .ok (.aload_n 0, 1) := by decide +kernel
theorem d_Mo_tour_93 : decode b_Mo_tour 93 = .ok (.getfield 37, 3) := by decide +kernel
theorem d_Mo_tour_96 : decode b_Mo_tour 96 = .ok (.iload 4, 2) := by decide +kernel
theorem d_Mo_tour_98 : decode b_Mo_tour 98 = .ok (.iaload, 1) := by decide +kernel
theorem d_Mo_tour_99 : decode b_Mo_tour 99 = .ok (.invokevirtual 126, 3) := by decide +kernel
theorem d_Mo_tour_102 : decode b_Mo_tour 102 = .ok (.ifCond .ge 6, 3) := by decide +kernel
theorem d_Mo_tour_105 : decode b_Mo_tour 105 = .ok (.goto 100, 3) := by decide +kernel
theorem d_Mo_tour_108 : decode b_Mo_tour 108 = .ok (.iload_n 3, 1) := by decide +kernel
theorem d_Mo_tour_109 : decode b_Mo_tour 109 = .ok (.bipush 7, 2) := by decide +kernel
theorem d_Mo_tour_111 : decode b_Mo_tour 111 = .ok (.if_icmp .ge 7, 3) := by decide +kernel
theorem d_Mo_tour_114 : decode b_Mo_tour 114 = .ok (.iload_n 3, 1) := by decide +kernel
theorem d_Mo_tour_115 : decode b_Mo_tour 115 = .ok (.goto 5, 3) := by decide +kernel
theorem d_Mo_tour_118 : decode b_Mo_tour 118 = .ok (.bipush 7, 2) := by decide +kernel
theorem d_Mo_tour_120 : decode b_Mo_tour 120 = .ok (.istore 5, 2) := by decide +kernel
theorem d_Mo_tour_122 : decode b_Mo_tour 122 = .ok (.iload 5, 2) := by decide +kernel
theorem d_Mo_tour_124 : decode b_Mo_tour 124 = .ok (.ifCond .le 50, 3) := by decide +kernel
theorem d_Mo_tour_127 : decode b_Mo_tour 127 = .ok (.aload_n 0, 1) := by decide +kernel
theorem d_Mo_tour_128 : decode b_Mo_tour 128 = .ok (.iload 4, 2) := by decide +kernel
theorem d_Mo_tour_130 : decode b_Mo_tour 130 = .ok (.aload_n 0, 1) := by decide +kernel
theorem d_Mo_tour_131 : decode b_Mo_tour 131 = .ok (.getfield 86, 3) := by decide +kernel
theorem d_Mo_tour_134 : decode b_Mo_tour 134 = .ok (.iload 5, 2) := by decide +kernel
theorem d_Mo_tour_136 : decode b_Mo_tour 136 = .ok (.iconst 1, 1) := by decide +kernel
theorem d_Mo_tour_137 : decode b_Mo_tour 137 = .ok (.isub, 1) := by decide +kernel
theorem d_Mo_tour_138 : decode b_Mo_tour 138 = .ok (.iaload, 1) := by decide +kernel
theorem d_Mo_tour_139 : decode b_Mo_tour 139 = .ok (.invokevirtual 137, 3) := by decide +kernel
theorem d_Mo_tour_142 : decode b_Mo_tour 142 = .ok (.ifCond .eq 32, 3) := by decide +kernel
theorem d_Mo_tour_145 : decode b_Mo_tour 145 = .ok (.iload 5, 2) := by decide +kernel
theorem d_Mo_tour_147 : decode b_Mo_tour 147 = .ok (.bipush 7, 2) := by decide +kernel
theorem d_Mo_tour_149 : decode b_Mo_tour 149 = .ok (.if_icmp .ge 19, 3) := by decide +kernel
theorem d_Mo_tour_152 : decode b_Mo_tour 152 = .ok (.aload_n 0, 1) := by decide +kernel
theorem d_Mo_tour_153 : decode b_Mo_tour 153 = .ok (.getfield 86, 3) := by decide +kernel
theorem d_Mo_tour_156 : decode b_Mo_tour 156 = .ok (.iload 5, 2) := by decide +kernel
theorem d_Mo_tour_158 : decode b_Mo_tour 158 = .ok (.aload_n 0, 1) := by decide +kernel
theorem d_Mo_tour_159 : decode b_Mo_tour 159 = .ok (.getfield 86, 3) := by decide +kernel
theorem d_Mo_tour_162 : decode b_Mo_tour 162 = .ok (.iload 5, 2) := by decide +kernel
theorem d_Mo_tour_164 : decode b_Mo_tour 164 = .ok (.iconst 1, 1) := by decide +kernel
theorem d_Mo_tour_165 : decode b_Mo_tour 165 = .ok (.isub, 1) := by decide +kernel
theorem d_Mo_tour_166 : decode b_Mo_tour 166 = .ok (.iaload, 1) := by decide +kernel
theorem d_Mo_tour_167 : decode b_Mo_tour 167 = .ok (.iastore, 1) := by decide +kernel
theorem d_Mo_tour_168 : decode b_Mo_tour 168 = .ok (.iinc 5 (-1), 3) := by decide +kernel
theorem d_Mo_tour_171 : decode b_Mo_tour 171 = .ok (.goto (-49), 3) := by decide +kernel
theorem d_Mo_tour_174 : decode b_Mo_tour 174 = .ok (.iload 5, 2) := by decide +kernel
theorem d_Mo_tour_176 : decode b_Mo_tour 176 = .ok (.bipush 7, 2) := by decide +kernel
theorem d_Mo_tour_178 : decode b_Mo_tour 178 = .ok (.if_icmp .ge 12, 3) := by decide +kernel
theorem d_Mo_tour_181 : decode b_Mo_tour 181 = .ok (.aload_n 0, 1) := by decide +kernel
theorem d_Mo_tour_182 : decode b_Mo_tour 182 = .ok (.getfield 86, 3) := by decide +kernel
theorem d_Mo_tour_185 : decode b_Mo_tour 185 = .ok (.iload 5, 2) := by decide +kernel
theorem d_Mo_tour_187 : decode b_Mo_tour 187 = .ok (.iload 4, 2) := by decide +kernel
theorem d_Mo_tour_189 : decode b_Mo_tour 189 = .ok (.iastore, 1) := by decide +kernel
theorem d_Mo_tour_190 : decode b_Mo_tour 190 = .ok (.iload_n 3, 1) := by decide +kernel
theorem d_Mo_tour_191 : decode b_Mo_tour 191 = .ok (.bipush 7, 2) := by decide +kernel
theorem d_Mo_tour_193 : decode b_Mo_tour 193 = .ok (.if_icmp .ge 9, 3) := by decide +kernel
theorem d_Mo_tour_196 : decode b_Mo_tour 196 = .ok (.iload_n 3, 1) := by decide +kernel
theorem d_Mo_tour_197 : decode b_Mo_tour 197 = .ok (.iconst 1, 1) := by decide +kernel
theorem d_Mo_tour_198 : decode b_Mo_tour 198 = .ok (.iadd, 1) := by decide +kernel
theorem d_Mo_tour_199 : decode b_Mo_tour 199 = .ok (.goto 5, 3) := by decide +kernel
theorem d_Mo_tour_202 : decode b_Mo_tour 202 = .ok (.bipush 7, 2) := by decide +kernel
theorem d_Mo_tour_204 : decode b_Mo_tour 204 = .ok (.istore_n 3, 1) := by decide +kernel
theorem d_Mo_tour_205 : decode b_Mo_tour 205 = .ok (.iinc 4 1, 3) := by decide +kernel
theorem d_Mo_tour_208 : decode b_Mo_tour 208 = .ok (.goto (-161), 3) := by decide +kernel
theorem d_Mo_tour_211 : decode b_Mo_tour 211 = .ok (.iload_n 3, 1) := by decide +kernel
theorem d_Mo_tour_212 : decode b_Mo_tour 212 = .ok (.ifCond .le 18, 3) := by decide +kernel
theorem d_Mo_tour_215 : decode b_Mo_tour 215 = .ok (.aload_n 0, 1) := by decide +kernel
theorem d_Mo_tour_216 : decode b_Mo_tour 216 = .ok (.iload_n 1, 1) := by decide +kernel
theorem d_Mo_tour_217 : decode b_Mo_tour 217 = .ok (.iload_n 3, 1) := by decide +kernel
theorem d_Mo_tour_218 : decode b_Mo_tour 218 = .ok (.invokevirtual 141, 3) := by decide +kernel
theorem d_Mo_tour_221 : decode b_Mo_tour 221 = .ok (.ifCond .ne 9, 3) := by decide +kernel
theorem d_Mo_tour_224 : decode b_Mo_tour 224 = .ok (.iinc 3 (-1), 3) := by decide +kernel
theorem d_Mo_tour_227 : decode b_Mo_tour 227 = .ok (.goto (-16), 3) := by decide +kernel
theorem d_Mo_tour_230 : decode b_Mo_tour 230 = .ok (.aload_n 0, 1) := by decide +kernel
theorem d_Mo_tour_231 : decode b_Mo_tour 231 = .ok (.iload_n 1, 1) := by decide +kernel
theorem d_Mo_tour_232 : decode b_Mo_tour 232 = .ok (.putfield 79, 3) := by decide +kernel
theorem d_Mo_tour_235 : decode b_Mo_tour 235 = .ok (.aload_n 0, 1) := by decide +kernel
theorem d_Mo_tour_236 : decode b_Mo_tour 236 = .ok (.iload_n 2, 1) := by decide +kernel
theorem d_Mo_tour_237 : decode b_Mo_tour 237 = .ok (.putfield 144, 3) := by decide +kernel
theorem d_Mo_tour_240 : decode b_Mo_tour 240 = .ok (.aload_n 0, 1) := by decide +kernel
theorem d_Mo_tour_241 : decode b_Mo_tour 241 = .ok (.iload_n 3, 1) := by decide +kernel
theorem d_Mo_tour_242 : decode b_Mo_tour 242 = .ok (.putfield 147, 3) := by decide +kernel
theorem d_Mo_tour_245 : decode b_Mo_tour 245 = .ok (.aload_n 0, 1) := by decide +kernel
theorem d_Mo_tour_246 : decode b_Mo_tour 246 = .ok (.iconst 0, 1) := by decide +kernel
theorem d_Mo_tour_247 : decode b_Mo_tour 247 = .ok (.putfield 150, 3) := by decide +kernel
theorem d_Mo_tour_250 : decode b_Mo_tour 250 = .ok (.iconst 0, 1) := by decide +kernel
theorem d_Mo_tour_251 : decode b_Mo_tour 251 = .ok (.istore 4, 2) := by decide +kernel
theorem d_Mo_tour_253 : decode b_Mo_tour 253 = .ok (.iload 4, 2) := by decide +kernel
theorem d_Mo_tour_255 : decode b_Mo_tour 255 = .ok (.iload_n 3, 1) := by decide +kernel
theorem d_Mo_tour_256 : decode b_Mo_tour 256 = .ok (.if_icmp .ge 23, 3) := by decide +kernel
theorem d_Mo_tour_259 : decode b_Mo_tour 259 = .ok (.aload_n 0, 1) := by decide +kernel
theorem d_Mo_tour_260 : decode b_Mo_tour 260 = .ok (.getfield 83, 3) := by decide +kernel
theorem d_Mo_tour_263 : decode b_Mo_tour 263 = .ok (.iload 4, 2) := by decide +kernel
theorem d_Mo_tour_265 : decode b_Mo_tour 265 = .ok (.aload_n 0, 1) := by decide +kernel
theorem d_Mo_tour_266 : decode b_Mo_tour 266 = .ok (.getfield 92, 3) := by decide +kernel
theorem d_Mo_tour_269 : decode b_Mo_tour 269 = .ok (.iload 4, 2) := by decide +kernel
theorem d_Mo_tour_271 : decode b_Mo_tour 271 = .ok (.iaload, 1) := by decide +kernel
theorem d_Mo_tour_272 : decode b_Mo_tour 272 = .ok (.iastore, 1) := by decide +kernel
theorem d_Mo_tour_273 : decode b_Mo_tour 273 = .ok (.iinc 4 1, 3) := by decide +kernel
theorem d_Mo_tour_276 : decode b_Mo_tour 276 = .ok (.goto (-23), 3) := by decide +kernel
theorem d_Mo_tour_279 : decode b_Mo_tour 279 = .ok (.iload_n 3, 1) := by decide +kernel
theorem d_Mo_tour_280 : decode b_Mo_tour 280 = .ok (.ireturn, 1) := by decide +kernel
theorem d_Mo_isTour_0 : decode b_Mo_isTour 0 = .ok (.iconst 0, 1) := by decide +kernel
theorem d_Mo_isTour_1 : decode b_Mo_isTour 1 = .ok (.istore_n 3, 1) := by decide +kernel
theorem d_Mo_isTour_2 : decode b_Mo_isTour 2 = .ok (.iload_n 3, 1) := by decide +kernel
theorem d_Mo_isTour_3 : decode b_Mo_isTour 3 = .ok (.iload_n 2, 1) := by decide +kernel
theorem d_Mo_isTour_4 : decode b_Mo_isTour 4 = .ok (.if_icmp .ge 70, 3) := by decide +kernel
theorem d_Mo_isTour_7 : decode b_Mo_isTour 7 = .ok (.iload_n 3, 1) := by decide +kernel
theorem d_Mo_isTour_8 : decode b_Mo_isTour 8 = .ok (.istore 4, 2) := by decide +kernel
theorem d_Mo_isTour_10 : decode b_Mo_isTour 10 = .ok (.iload 4, 2) := by decide +kernel
theorem d_Mo_isTour_12 : decode b_Mo_isTour 12 = .ok (.ifCond .le 43, 3) := by decide +kernel
theorem d_Mo_isTour_15 : decode b_Mo_isTour 15 = .ok (.aload_n 0, 1) := by decide +kernel
theorem d_Mo_isTour_16 : decode b_Mo_isTour 16 = .ok (.getfield 89, 3) := by decide +kernel
theorem d_Mo_isTour_19 : decode b_Mo_isTour 19 = .ok (.iload 4, 2) := by decide +kernel
theorem d_Mo_isTour_21 : decode b_Mo_isTour 21 = .ok (.iconst 1, 1) := by decide +kernel
theorem d_Mo_isTour_22 : decode b_Mo_isTour 22 = .ok (.isub, 1) := by decide +kernel
theorem d_Mo_isTour_23 : decode b_Mo_isTour 23 = .ok (.iaload, 1) := by decide +kernel
theorem d_Mo_isTour_24 : decode b_Mo_isTour 24 = .ok (.aload_n 0, 1) := by decide +kernel
theorem d_Mo_isTour_25 : decode b_Mo_isTour 25 = .ok (.getfield 86, 3) := by decide +kernel
theorem d_Mo_isTour_28 : decode b_Mo_isTour 28 = .ok (.iload_n 3, 1) := by decide +kernel
theorem d_Mo_isTour_29 : decode b_Mo_isTour 29 = .ok (.iaload, 1) := by decide +kernel
theorem d_Mo_isTour_30 : decode b_Mo_isTour 30 = .ok (.if_icmp .le 25, 3) := by decide +kernel
theorem d_Mo_isTour_33 : decode b_Mo_isTour 33 = .ok (.aload_n 0, 1) := by decide +kernel
theorem d_Mo_isTour_34 : decode b_Mo_isTour 34 = .ok (.getfield 89, 3) := by decide +kernel
theorem d_Mo_isTour_37 : decode b_Mo_isTour 37 = .ok (.iload 4, 2) := by decide +kernel
theorem d_Mo_isTour_39 : decode b_Mo_isTour 39 = .ok (.aload_n 0, 1) := by decide +kernel
theorem d_Mo_isTour_40 : decode b_Mo_isTour 40 = .ok (.getfield 89, 3) := by decide +kernel
theorem d_Mo_isTour_43 : decode b_Mo_isTour 43 = .ok (.iload 4, 2) := by decide +kernel
theorem d_Mo_isTour_45 : decode b_Mo_isTour 45 = .ok (.iconst 1, 1) := by decide +kernel
theorem d_Mo_isTour_46 : decode b_Mo_isTour 46 = .ok (.isub, 1) := by decide +kernel
theorem d_Mo_isTour_47 : decode b_Mo_isTour 47 = .ok (.iaload, 1) := by decide +kernel
theorem d_Mo_isTour_48 : decode b_Mo_isTour 48 = .ok (.iastore, 1) := by decide +kernel
theorem d_Mo_isTour_49 : decode b_Mo_isTour 49 = .ok (.iinc 4 (-1), 3) := by decide +kernel
theorem d_Mo_isTour_52 : decode b_Mo_isTour 52 = .ok (.goto (-42), 3) := by decide +kernel
theorem d_Mo_isTour_55 : decode b_Mo_isTour 55 = .ok (.aload_n 0, 1) := by decide +kernel
theorem d_Mo_isTour_56 : decode b_Mo_isTour 56 = .ok (.getfield 89, 3) := by decide +kernel
theorem d_Mo_isTour_59 : decode b_Mo_isTour 59 = .ok (.iload 4, 2) := by decide +kernel
theorem d_Mo_isTour_61 : decode b_Mo_isTour 61 = .ok (.aload_n 0, 1) := by decide +kernel
theorem d_Mo_isTour_62 : decode b_Mo_isTour 62 = .ok (.getfield 86, 3) := by decide +kernel
theorem d_Mo_isTour_65 : decode b_Mo_isTour 65 = .ok (.iload_n 3, 1) := by decide +kernel
theorem d_Mo_isTour_66 : decode b_Mo_isTour 66 = .ok (.iaload, 1) := by decide +kernel
theorem d_Mo_isTour_67 : decode b_Mo_isTour 67 = .ok (.iastore, 1) := by decide +kernel
theorem d_Mo_isTour_68 : decode b_Mo_isTour 68 = .ok (.iinc 3 1, 3) := by decide +kernel
theorem d_Mo_isTour_71 : decode b_Mo_isTour 71 = .ok (.goto (-69), 3) := by decide +kernel
theorem d_Mo_isTour_74 : decode b_Mo_isTour 74 = .ok (.iconst (-1), 1) := by decide +kernel
theorem d_Mo_isTour_75 : decode b_Mo_isTour 75 = .ok (.istore_n 3, 1) := by decide +kernel
theorem d_Mo_isTour_76 : decode b_Mo_isTour 76 = .ok (.iconst 1, 1) := by decide +kernel
theorem d_Mo_isTour_77 : decode b_Mo_isTour 77 = .ok (.istore 4, 2) := by decide +kernel
theorem d_Mo_isTour_79 : decode b_Mo_isTour 79 = .ok (.iload 4, 2) := by decide +kernel
theorem d_Mo_isTour_81 : decode b_Mo_isTour 81 = .ok (.ifCond .eq 77, 3) := by decide +kernel
theorem d_Mo_isTour_84 : decode b_Mo_isTour 84 = .ok (.aload_n 0, 1) := by decide +kernel
theorem d_Mo_isTour_85 : decode b_Mo_isTour 85 = .ok (.aload_n 0, 1) := by decide +kernel
theorem d_Mo_isTour_86 : decode b_Mo_isTour 86 = .ok (.getfield 89, 3) := by decide +kernel
theorem d_Mo_isTour_89 : decode b_Mo_isTour 89 = .ok (.iload_n 2, 1) := by decide +kernel
theorem d_Mo_isTour_90 : decode b_Mo_isTour 90 = .ok (.aload_n 0, 1) := by decide +kernel
theorem d_Mo_isTour_91 : decode b_Mo_isTour 91 = .ok (.getfield 70, 3) := by decide +kernel
theorem d_Mo_isTour_94 : decode b_Mo_isTour 94 = .ok (.iload_n 1, 1) := by decide +kernel
theorem d_Mo_isTour_95 : decode b_Mo_isTour 95 = .ok (.iaload, 1) := by decide +kernel
theorem d_Mo_isTour_96 : decode b_Mo_isTour 96 = .ok (.invokevirtual 153, 3) := by decide +kernel
theorem d_Mo_isTour_99 : decode b_Mo_isTour 99 = .ok (.istore 5, 2) := by decide +kernel
theorem d_Mo_isTour_101 : decode b_Mo_isTour 101 = .ok (.iload 5, 2) := by decide +kernel
theorem d_Mo_isTour_103 : decode b_Mo_isTour 103 = .ok (.ifCond .lt 45, 3) := by decide +kernel
theorem d_Mo_isTour_106 : decode b_Mo_isTour 106 = .ok (.iload_n 3, 1) := by decide +kernel
theorem d_Mo_isTour_107 : decode b_Mo_isTour 107 = .ok (.ifCond .lt 9, 3) := by decide +kernel
theorem d_Mo_isTour_110 : decode b_Mo_isTour 110 = .ok (.iload 5, 2) := by decide +kernel
theorem d_Mo_isTour_112 : decode b_Mo_isTour 112 = .ok (.iload_n 3, 1) := by decide +kernel
theorem d_Mo_isTour_113 : decode b_Mo_isTour 113 = .ok (.if_icmp .ge 35, 3) := by decide +kernel
theorem d_Mo_isTour_116 : decode b_Mo_isTour 116 = .ok (.iload 5, 2) := by decide +kernel
theorem d_Mo_isTour_118 : decode b_Mo_isTour 118 = .ok (.istore_n 3, 1) := by decide +kernel
theorem d_Mo_isTour_119 : decode b_Mo_isTour 119 = .ok (.iconst 0, 1) := by decide +kernel
theorem d_Mo_isTour_120 : decode b_Mo_isTour 120 = .ok (.istore 6, 2) := by decide +kernel
theorem d_Mo_isTour_122 : decode b_Mo_isTour 122 = .ok (.iload 6, 2) := by decide +kernel
theorem d_Mo_isTour_124 : decode b_Mo_isTour 124 = .ok (.iload_n 2, 1) := by decide +kernel
theorem d_Mo_isTour_125 : decode b_Mo_isTour 125 = .ok (.if_icmp .ge 23, 3) := by decide +kernel
theorem d_Mo_isTour_128 : decode b_Mo_isTour 128 = .ok (.aload_n 0, 1) := by decide +kernel
theorem d_Mo_isTour_129 : decode b_Mo_isTour 129 = .ok (.getfield 92, 3) := by decide +kernel
theorem d_Mo_isTour_132 : decode b_Mo_isTour 132 = .ok (.iload 6, 2) := by decide +kernel
theorem d_Mo_isTour_134 : decode b_Mo_isTour 134 = .ok (.aload_n 0, 1) := by decide +kernel
theorem d_Mo_isTour_135 : decode b_Mo_isTour 135 = .ok (.getfield 89, 3) := by decide +kernel
theorem d_Mo_isTour_138 : decode b_Mo_isTour 138 = .ok (.iload 6, 2) := by decide +kernel
theorem d_Mo_isTour_140 : decode b_Mo_isTour 140 = .ok (.iaload, 1) := by decide +kernel
theorem d_Mo_isTour_141 : decode b_Mo_isTour 141 = .ok (.iastore, 1) := by decide +kernel
theorem d_Mo_isTour_142 : decode b_Mo_isTour 142 = .ok (.iinc 6 1, 3) := by decide +kernel
theorem d_Mo_isTour_145 : decode b_Mo_isTour 145 = .ok (.goto (-23), 3) := by decide +kernel
theorem d_Mo_isTour_148 : decode b_Mo_isTour 148 = .ok (.aload_n 0, 1) := by decide +kernel
theorem d_Mo_isTour_149 : decode b_Mo_isTour 149 = .ok (.iload_n 2, 1) := by decide +kernel
theorem d_Mo_isTour_150 : decode b_Mo_isTour 150 = .ok (.invokevirtual 157, 3) := by decide +kernel
theorem d_Mo_isTour_153 : decode b_Mo_isTour 153 = .ok (.istore 4, 2) := by decide +kernel
theorem d_Mo_isTour_155 : decode b_Mo_isTour 155 = .ok (.goto (-76), 3) := by decide +kernel
theorem d_Mo_isTour_158 : decode b_Mo_isTour 158 = .ok (.iload_n 3, 1) := by decide +kernel
theorem d_Mo_isTour_159 : decode b_Mo_isTour 159 = .ok (.istore 5, 2) := by decide +kernel
theorem d_Mo_isTour_161 : decode b_Mo_isTour 161 = .ok (.iconst 0, 1) := by decide +kernel
theorem d_Mo_isTour_162 : decode b_Mo_isTour 162 = .ok (.istore 6, 2) := by decide +kernel
theorem d_Mo_isTour_164 : decode b_Mo_isTour 164 = .ok (.iload 6, 2) := by decide +kernel
theorem d_Mo_isTour_166 : decode b_Mo_isTour 166 = .ok (.iload_n 2, 1) := by decide +kernel
theorem d_Mo_isTour_167 : decode b_Mo_isTour 167 = .ok (.if_icmp .ge 26, 3) := by decide +kernel
theorem d_Mo_isTour_170 : decode b_Mo_isTour 170 = .ok (.iload 5, 2) := by decide +kernel
theorem d_Mo_isTour_172 : decode b_Mo_isTour 172 = .ok (.aload_n 0, 1) := by decide +kernel
theorem d_Mo_isTour_173 : decode b_Mo_isTour 173 = .ok (.getfield 52, 3) := by decide +kernel
theorem d_Mo_isTour_176 : decode b_Mo_isTour 176 = .ok (.aload_n 0, 1) := by decide +kernel
theorem d_Mo_isTour_177 : decode b_Mo_isTour 177 = .ok (.getfield 86, 3) := by decide +kernel
theorem d_Mo_isTour_180 : decode b_Mo_isTour 180 = .ok (.iload 6, 2) := by decide +kernel
theorem d_Mo_isTour_182 : decode b_Mo_isTour 182 = .ok (.iaload, 1) := by decide +kernel
theorem d_Mo_isTour_183 : decode b_Mo_isTour 183 = .ok (.iaload, 1) := by decide +kernel
theorem d_Mo_isTour_184 : decode b_Mo_isTour 184 = .ok (.iadd, 1) := by decide +kernel
theorem d_Mo_isTour_185 : decode b_Mo_isTour 185 = .ok (.istore 5, 2) := by decide +kernel
theorem d_Mo_isTour_187 : decode b_Mo_isTour 187 = .ok (.iinc 6 1, 3) := by decide +kernel
theorem d_Mo_isTour_190 : decode b_Mo_isTour 190 = .ok (.goto (-26), 3) := by decide +kernel
theorem d_Mo_isTour_193 : decode b_Mo_isTour 193 = .ok (.iload_n 3, 1) := by decide +kernel
theorem d_Mo_isTour_194 : decode b_Mo_isTour 194 = .ok (.ifCond .lt 18, 3) := by decide +kernel
theorem d_Mo_isTour_197 : decode b_Mo_isTour 197 = .ok (.iload 5, 2) := by decide +kernel
theorem d_Mo_isTour_199 : decode b_Mo_isTour 199 = .ok (.aload_n 0, 1) := by decide +kernel
theorem d_Mo_isTour_200 : decode b_Mo_isTour 200 = .ok (.getfield 73, 3) := by decide +kernel
theorem d_Mo_isTour_203 : decode b_Mo_isTour 203 = .ok (.iload_n 1, 1) := by decide +kernel
theorem d_Mo_isTour_204 : decode b_Mo_isTour 204 = .ok (.iaload, 1) := by decide +kernel
theorem d_Mo_isTour_205 : decode b_Mo_isTour 205 = .ok (.if_icmp .gt 7, 3) := by decide +kernel
theorem d_Mo_isTour_208 : decode b_Mo_isTour 208 = .ok (.iconst 1, 1) := by decide +kernel
theorem d_Mo_isTour_209 : decode b_Mo_isTour 209 = .ok (.goto 4, 3) := by decide +kernel
theorem d_Mo_isTour_212 : decode b_Mo_isTour 212 = .ok (.iconst 0, 1) := by decide +kernel
theorem d_Mo_isTour_213 : decode b_Mo_isTour 213 = .ok (.ireturn, 1) := by decide +kernel
theorem d_Mo_stop_0 : decode b_Mo_stop 0 = .ok (.aload_n 0, 1) := by decide +kernel
theorem d_Mo_stop_1 : decode b_Mo_stop 1 = .ok (.aload_n 0, 1) := by decide +kernel
theorem d_Mo_stop_2 : decode b_Mo_stop 2 = .ok (.getfield 79, 3) := by decide +kernel
theorem d_Mo_stop_5 : decode b_Mo_stop 5 = .ok (.ifCond .lt 17, 3) := by decide +kernel
theorem d_Mo_stop_8 : decode b_Mo_stop 8 = .ok (.iload_n 1, 1) := by decide +kernel
theorem d_Mo_stop_9 : decode b_Mo_stop 9 = .ok (.iconst 0, 1) := by decide +kernel
theorem d_Mo_stop_10 : decode b_Mo_stop 10 = .ok (.aload_n 0, 1) := by decide +kernel
theorem d_Mo_stop_11 : decode b_Mo_stop 11 = .ok (.getfield 147, 3) := by decide +kernel
theorem d_Mo_stop_14 : decode b_Mo_stop 14 = .ok (.iconst 1, 1) := by decide +kernel
theorem d_Mo_stop_15 : decode b_Mo_stop 15 = .ok (.isub, 1) := by decide +kernel
theorem d_Mo_stop_16 : decode b_Mo_stop 16 = .ok (.invokestatic 101, 3) := by decide +kernel
theorem d_Mo_stop_19 : decode b_Mo_stop 19 = .ok (.ifCond .ne 7, 3) := by decide +kernel
theorem d_Mo_stop_22 : decode b_Mo_stop 22 = .ok (.iconst 1, 1) := by decide +kernel
theorem d_Mo_stop_23 : decode b_Mo_stop 23 = .ok (.goto 4, 3) := by decide +kernel
theorem d_Mo_stop_26 : decode b_Mo_stop 26 = .ok (.iconst 0, 1) := by decide +kernel
theorem d_Mo_stop_27 : decode b_Mo_stop 27 = .ok (.putfield 98, 3) := by decide +kernel
theorem d_Mo_stop_30 : decode b_Mo_stop 30 = .ok (.aload_n 0, 1) := by decide +kernel
theorem d_Mo_stop_31 : decode b_Mo_stop 31 = .ok (.getfield 98, 3) := by decide +kernel
theorem d_Mo_stop_34 : decode b_Mo_stop 34 = .ok (.ifCond .le 7, 3) := by decide +kernel
theorem d_Mo_stop_37 : decode b_Mo_stop 37 = .ok (.iconst 0, 1) := by decide +kernel
theorem d_Mo_stop_38 : decode b_Mo_stop 38 = .ok (.goto 9, 3) := by decide +kernel
theorem d_Mo_stop_41 : decode b_Mo_stop 41 = .ok (.aload_n 0, 1) := by decide +kernel
theorem d_Mo_stop_42 : decode b_Mo_stop 42 = .ok (.getfield 83, 3) := by decide +kernel
theorem d_Mo_stop_45 : decode b_Mo_stop 45 = .ok (.iload_n 1, 1) := by decide +kernel
theorem d_Mo_stop_46 : decode b_Mo_stop 46 = .ok (.iaload, 1) := by decide +kernel
theorem d_Mo_stop_47 : decode b_Mo_stop 47 = .ok (.ireturn, 1) := by decide +kernel
theorem d_Mo_told_0 : decode b_Mo_told 0 = .ok (.aload_n 0, 1) := by decide +kernel
theorem d_Mo_told_1 : decode b_Mo_told 1 = .ok (.iload_n 1, 1) := by decide +kernel
theorem d_Mo_told_2 : decode b_Mo_told 2 = .ok (.iconst 0, 1) := by decide +kernel
theorem d_Mo_told_3 : decode b_Mo_told 3 = .ok (.iconst 4, 1) := by decide +kernel
theorem d_Mo_told_4 : decode b_Mo_told 4 = .ok (.invokestatic 101, 3) := by decide +kernel
theorem d_Mo_told_7 : decode b_Mo_told 7 = .ok (.ifCond .eq 7, 3) := by decide +kernel
theorem d_Mo_told_10 : decode b_Mo_told 10 = .ok (.iconst 0, 1) := by decide +kernel
theorem d_Mo_told_11 : decode b_Mo_told 11 = .ok (.goto 4, 3) := by decide +kernel
theorem d_Mo_told_14 : decode b_Mo_told 14 = .ok (.iconst 1, 1) := by decide +kernel
theorem d_Mo_told_15 : decode b_Mo_told 15 = .ok (.putfield 98, 3) := by decide +kernel
theorem d_Mo_told_18 : decode b_Mo_told 18 = .ok (.aload_n 0, 1) := by decide +kernel
theorem d_Mo_told_19 : decode b_Mo_told 19 = .ok (.getfield 98, 3) := by decide +kernel
theorem d_Mo_told_22 : decode b_Mo_told 22 = .ok (.ifCond .gt 8, 3) := by decide +kernel
theorem d_Mo_told_25 : decode b_Mo_told 25 = .ok (.iload_n 1, 1) := by decide +kernel
theorem d_Mo_told_26 : decode b_Mo_told 26 = .ok (.iconst 4, 1) := by decide +kernel
theorem d_Mo_told_27 : decode b_Mo_told 27 = .ok (.if_icmp .ne 19, 3) := by decide +kernel
theorem d_Mo_told_30 : decode b_Mo_told 30 = .ok (.aload_n 0, 1) := by decide +kernel
theorem d_Mo_told_31 : decode b_Mo_told 31 = .ok (.getfield 98, 3) := by decide +kernel
theorem d_Mo_told_34 : decode b_Mo_told 34 = .ok (.ifCond .le 7, 3) := by decide +kernel
theorem d_Mo_told_37 : decode b_Mo_told 37 = .ok (.iconst 0, 1) := by decide +kernel
theorem d_Mo_told_38 : decode b_Mo_told 38 = .ok (.goto 7, 3) := by decide +kernel
theorem d_Mo_told_41 : decode b_Mo_told 41 = .ok (.aload_n 0, 1) := by decide +kernel
theorem d_Mo_told_42 : decode b_Mo_told 42 = .ok (.getfield 79, 3) := by decide +kernel
theorem d_Mo_told_45 : decode b_Mo_told 45 = .ok (.ireturn, 1) := by decide +kernel
theorem d_Mo_told_46 : decode b_Mo_told 46 = .ok (.aload_n 0, 1) := by decide +kernel
theorem d_Mo_told_47 : decode b_Mo_told 47 = .ok (.getfield 79, 3) := by decide +kernel
theorem d_Mo_told_50 : decode b_Mo_told 50 = .ok (.ifCond .ge 5, 3) := by decide +kernel
theorem d_Mo_told_53 : decode b_Mo_told 53 = .ok (.iconst 0, 1) := by decide +kernel
theorem d_Mo_told_54 : decode b_Mo_told 54 = .ok (.ireturn, 1) := by decide +kernel
theorem d_Mo_told_55 : decode b_Mo_told 55 = .ok (.iconst 0, 1) := by decide +kernel
theorem d_Mo_told_56 : decode b_Mo_told 56 = .ok (.istore_n 2, 1) := by decide +kernel
theorem d_Mo_told_57 : decode b_Mo_told 57 = .ok (.iconst 0, 1) := by decide +kernel
theorem d_Mo_told_58 : decode b_Mo_told 58 = .ok (.istore_n 3, 1) := by decide +kernel
theorem d_Mo_told_59 : decode b_Mo_told 59 = .ok (.iload_n 3, 1) := by decide +kernel
theorem d_Mo_told_60 : decode b_Mo_told 60 = .ok (.aload_n 0, 1) := by decide +kernel
theorem d_Mo_told_61 : decode b_Mo_told 61 = .ok (.getfield 147, 3) := by decide +kernel
theorem d_Mo_told_64 : decode b_Mo_told 64 = .ok (.if_icmp .ge 23, 3) := by decide +kernel
theorem d_Mo_told_67 : decode b_Mo_told 67 = .ok (.iload_n 2, 1) := by decide +kernel
theorem d_Mo_told_68 : decode b_Mo_told 68 = .ok (.aload_n 0, 1) := by decide +kernel
theorem d_Mo_told_69 : decode b_Mo_told 69 = .ok (.getfield 52, 3) := by decide +kernel
theorem d_Mo_told_72 : decode b_Mo_told 72 = .ok (.aload_n 0, 1) := by decide +kernel
theorem d_Mo_told_73 : decode b_Mo_told 73 = .ok (.getfield 83, 3) := by decide +kernel
theorem d_Mo_told_76 : decode b_Mo_told 76 = .ok (.iload_n 3, 1) := by decide +kernel
theorem d_Mo_told_77 : decode b_Mo_told 77 = .ok (.iaload, 1) := by decide +kernel
theorem d_Mo_told_78 : decode b_Mo_told 78 = .ok (.iaload, 1) := by decide +kernel
theorem d_Mo_told_79 : decode b_Mo_told 79 = .ok (.iadd, 1) := by decide +kernel
theorem d_Mo_told_80 : decode b_Mo_told 80 = .ok (.istore_n 2, 1) := by decide +kernel
theorem d_Mo_told_81 : decode b_Mo_told 81 = .ok (.iinc 3 1, 3) := by decide +kernel
theorem d_Mo_told_84 : decode b_Mo_told 84 = .ok (.goto (-25), 3) := by decide +kernel
theorem d_Mo_told_87 : decode b_Mo_told 87 = .ok (.iload_n 1, 1) := by decide +kernel
theorem d_Mo_told_88 : decode b_Mo_told 88 = .ok (.ifCond .ne 10, 3) := by decide +kernel
theorem d_Mo_told_91 : decode b_Mo_told 91 = .ok (.aload_n 0, 1) := by decide +kernel
theorem d_Mo_told_92 : decode b_Mo_told 92 = .ok (.getfield 147, 3) := by decide +kernel
theorem d_Mo_told_95 : decode b_Mo_told 95 = .ok (.goto 45, 3) := by decide +kernel
theorem d_Mo_told_98 : decode b_Mo_told 98 = .ok (.iload_n 1, 1) := by decide +kernel
theorem d_Mo_told_99 : decode b_Mo_told 99 = .ok (.iconst 1, 1) := by decide +kernel
theorem d_Mo_told_100 : decode b_Mo_told 100 = .ok (.if_icmp .ne 27, 3) := by decide +kernel
theorem d_Mo_told_103 : decode b_Mo_told 103 = .ok (.aload_n 0, 1) := by decide +kernel
theorem d_Mo_told_104 : decode b_Mo_told 104 = .ok (.aload_n 0, 1) := by decide +kernel
theorem d_Mo_told_105 : decode b_Mo_told 105 = .ok (.getfield 83, 3) := by decide +kernel
theorem d_Mo_told_108 : decode b_Mo_told 108 = .ok (.aload_n 0, 1) := by decide +kernel
theorem d_Mo_told_109 : decode b_Mo_told 109 = .ok (.getfield 147, 3) := by decide +kernel
theorem d_Mo_told_112 : decode b_Mo_told 112 = .ok (.aload_n 0, 1) := by decide +kernel
theorem d_Mo_told_113 : decode b_Mo_told 113 = .ok (.getfield 70, 3) := by decide +kernel
theorem d_Mo_told_116 : decode b_Mo_told 116 = .ok (.aload_n 0, 1) := by decide +kernel
theorem d_Mo_told_117 : decode b_Mo_told 117 = .ok (.getfield 79, 3) := by decide +kernel
theorem d_Mo_told_120 : decode b_Mo_told 120 = .ok (.iaload, 1) := by decide +kernel
theorem d_Mo_told_121 : decode b_Mo_told 121 = .ok (.invokevirtual 153, 3) := by decide +kernel
theorem d_Mo_told_124 : decode b_Mo_told 124 = .ok (.goto 16, 3) := by decide +kernel
theorem d_Mo_told_127 : decode b_Mo_told 127 = .ok (.iload_n 1, 1) := by decide +kernel
theorem d_Mo_told_128 : decode b_Mo_told 128 = .ok (.iconst 2, 1) := by decide +kernel
theorem d_Mo_told_129 : decode b_Mo_told 129 = .ok (.if_icmp .ne 7, 3) := by decide +kernel
theorem d_Mo_told_132 : decode b_Mo_told 132 = .ok (.iload_n 2, 1) := by decide +kernel
theorem d_Mo_told_133 : decode b_Mo_told 133 = .ok (.goto 7, 3) := by decide +kernel
theorem d_Mo_told_136 : decode b_Mo_told 136 = .ok (.aload_n 0, 1) := by decide +kernel
theorem d_Mo_told_137 : decode b_Mo_told 137 = .ok (.getfield 150, 3) := by decide +kernel
theorem d_Mo_told_140 : decode b_Mo_told 140 = .ok (.ireturn, 1) := by decide +kernel
theorem d_Mo_put_0 : decode b_Mo_put 0 = .ok (.aload_n 0, 1) := by decide +kernel
theorem d_Mo_put_1 : decode b_Mo_put 1 = .ok (.aload_n 0, 1) := by decide +kernel
theorem d_Mo_put_2 : decode b_Mo_put 2 = .ok (.iload_n 1, 1) := by decide +kernel
theorem d_Mo_put_3 : decode b_Mo_put 3 = .ok (.invokevirtual 118, 3) := by decide +kernel
theorem d_Mo_put_6 : decode b_Mo_put 6 = .ok (.ifCond .ne 7, 3) := by decide +kernel
theorem d_Mo_put_9 : decode b_Mo_put 9 = .ok (.iconst 1, 1) := by decide +kernel
theorem d_Mo_put_10 : decode b_Mo_put 10 = .ok (.goto 45, 3) := by decide +kernel
theorem d_Mo_put_13 : decode b_Mo_put 13 = .ok (.aload_n 0, 1) := by decide +kernel
theorem d_Mo_put_14 : decode b_Mo_put 14 = .ok (.getfield 79, 3) := by decide +kernel
theorem d_Mo_put_17 : decode b_Mo_put 17 = .ok (.ifCond .lt 33, 3) := by decide +kernel
theorem d_Mo_put_20 : decode b_Mo_put 20 = .ok (.aload_n 0, 1) := by decide +kernel
theorem d_Mo_put_21 : decode b_Mo_put 21 = .ok (.getfield 147, 3) := by decide +kernel
theorem d_Mo_put_24 : decode b_Mo_put 24 = .ok (.bipush 20, 2) := by decide +kernel
theorem d_Mo_put_26 : decode b_Mo_put 26 = .ok (.if_icmp .eq 24, 3) := by decide +kernel
theorem d_Mo_put_29 : decode b_Mo_put 29 = .ok (.aload_n 0, 1) := by decide +kernel
theorem d_Mo_put_30 : decode b_Mo_put 30 = .ok (.getfield 67, 3) := by decide +kernel
theorem d_Mo_put_33 : decode b_Mo_put 33 = .ok (.aload_n 0, 1) := by decide +kernel
theorem d_Mo_put_34 : decode b_Mo_put 34 = .ok (.getfield 79, 3) := by decide +kernel
theorem d_Mo_put_37 : decode b_Mo_put 37 = .ok (.iaload, 1) := by decide +kernel
theorem d_Mo_put_38 : decode b_Mo_put 38 = .ok (.aload_n 0, 1) := by decide +kernel
theorem d_Mo_put_39 : decode b_Mo_put 39 = .ok (.getfield 40, 3) := by decide +kernel
theorem d_Mo_put_42 : decode b_Mo_put 42 = .ok (.iload_n 1, 1) := by decide +kernel
theorem d_Mo_put_43 : decode b_Mo_put 43 = .ok (.iaload, 1) := by decide +kernel
theorem d_Mo_put_44 : decode b_Mo_put 44 = .ok (.ishr, 1) := by decide +kernel
theorem d_Mo_put_45 : decode b_Mo_put 45 = .ok (.iconst 1, 1) := by decide +kernel
theorem d_Mo_put_46 : decode b_Mo_put 46 = .ok (.iand, 1) := by decide +kernel
theorem d_Mo_put_47 : decode b_Mo_put 47 = .ok (.ifCond .ne 7, 3) := by decide +kernel
theorem d_Mo_put_50 : decode b_Mo_put 50 = .ok (.iconst 2, 1) := by decide +kernel
theorem d_Mo_put_51 : decode b_Mo_put 51 = .ok (.goto 4, 3) := by decide +kernel
theorem d_Mo_put_54 : decode b_Mo_put 54 = .ok (.iconst 0, 1) := by decide +kernel
theorem d_Mo_put_55 : decode b_Mo_put 55 = .ok (.putfield 98, 3) := by decide +kernel
theorem d_Mo_put_58 : decode b_Mo_put 58 = .ok (.iconst 0, 1) := by decide +kernel
theorem d_Mo_put_59 : decode b_Mo_put 59 = .ok (.istore_n 2, 1) := by decide +kernel
theorem d_Mo_put_60 : decode b_Mo_put 60 = .ok (.iload_n 2, 1) := by decide +kernel
theorem d_Mo_put_61 : decode b_Mo_put 61 = .ok (.aload_n 0, 1) := by decide +kernel
theorem d_Mo_put_62 : decode b_Mo_put 62 = .ok (.getfield 147, 3) := by decide +kernel
theorem d_Mo_put_65 : decode b_Mo_put 65 = .ok (.if_icmp .ge 35, 3) := by decide +kernel
theorem d_Mo_put_68 : decode b_Mo_put 68 = .ok (.aload_n 0, 1) := by decide +kernel
theorem d_Mo_put_69 : decode b_Mo_put 69 = .ok (.getfield 98, 3) := by decide +kernel
theorem d_Mo_put_72 : decode b_Mo_put 72 = .ok (.ifCond .ne 28, 3) := by decide +kernel
theorem d_Mo_put_75 : decode b_Mo_put 75 = .ok (.aload_n 0, 1) := by decide +kernel
theorem d_Mo_put_76 : decode b_Mo_put 76 = .ok (.aload_n 0, 1) := by decide +kernel
theorem d_Mo_put_77 : decode b_Mo_put 77 = .ok (.getfield 83, 3) := by decide +kernel
theorem d_Mo_put_80 : decode b_Mo_put 80 = .ok (.iload_n 2, 1) := by decide +kernel
theorem d_Mo_put_81 : decode b_Mo_put 81 = .ok (.iaload, 1) := by decide +kernel
theorem d_Mo_put_82 : decode b_Mo_put 82 = .ok (.iload_n 1, 1) := by decide +kernel
theorem d_Mo_put_83 : decode b_Mo_put 83 = .ok (.if_icmp .ne 7, 3) := by decide +kernel
theorem d_Mo_put_86 : decode b_Mo_put 86 = .ok (.iconst 2, 1) := by decide +kernel
theorem d_Mo_put_87 : decode b_Mo_put 87 = .ok (.goto 4, 3) := by decide +kernel
theorem d_Mo_put_90 : decode b_Mo_put 90 = .ok (.iconst 0, 1) := by decide +kernel
theorem d_Mo_put_91 : decode b_Mo_put 91 = .ok (.putfield 98, 3) := by decide +kernel
theorem d_Mo_put_94 : decode b_Mo_put 94 = .ok (.iinc 2 1, 3) := by decide +kernel
theorem d_Mo_put_97 : decode b_Mo_put 97 = .ok (.goto (-37), 3) := by decide +kernel
theorem d_Mo_put_100 : decode b_Mo_put 100 = .ok (.aload_n 0, 1) := by decide +kernel
theorem d_Mo_put_101 : decode b_Mo_put 101 = .ok (.getfield 98, 3) := by decide +kernel
theorem d_Mo_put_104 : decode b_Mo_put 104 = .ok (.ifCond .le 5, 3) := by decide +kernel
theorem d_Mo_put_107 : decode b_Mo_put 107 = .ok (.iconst 0, 1) := by decide +kernel
theorem d_Mo_put_108 : decode b_Mo_put 108 = .ok (.ireturn, 1) := by decide +kernel
theorem d_Mo_put_109 : decode b_Mo_put 109 = .ok (.iconst (-1), 1) := by decide +kernel
theorem d_Mo_put_110 : decode b_Mo_put 110 = .ok (.istore_n 2, 1) := by decide +kernel
theorem d_Mo_put_111 : decode b_Mo_put 111 = .ok (.iconst 0, 1) := by decide +kernel
theorem d_Mo_put_112 : decode b_Mo_put 112 = .ok (.istore_n 3, 1) := by decide +kernel
theorem d_Mo_put_113 : decode b_Mo_put 113 = .ok (.aload_n 0, 1) := by decide +kernel
theorem d_Mo_put_114 : decode b_Mo_put 114 = .ok (.getfield 150, 3) := by decide +kernel
theorem d_Mo_put_117 : decode b_Mo_put 117 = .ok (.istore 4, 2) := by decide +kernel
theorem d_Mo_put_119 : decode b_Mo_put 119 = .ok (.iload 4, 2) := by decide +kernel
theorem d_Mo_put_121 : decode b_Mo_put 121 = .ok (.aload_n 0, 1) := by decide +kernel
theorem d_Mo_put_122 : decode b_Mo_put 122 = .ok (.getfield 147, 3) := by decide +kernel
theorem d_Mo_put_125 : decode b_Mo_put 125 = .ok (.if_icmp .gt 153, 3) := by decide +kernel
theorem d_Mo_put_128 : decode b_Mo_put 128 = .ok (.iload 4, 2) := by decide +kernel
theorem d_Mo_put_130 : decode b_Mo_put 130 = .ok (.ifCond .ne 15, 3) := by decide +kernel
theorem d_Mo_put_133 : decode b_Mo_put 133 = .ok (.aload_n 0, 1) := by decide +kernel
theorem d_Mo_put_134 : decode b_Mo_put 134 = .ok (.getfield 70, 3) := by decide +kernel
theorem d_Mo_put_137 : decode b_Mo_put 137 = .ok (.aload_n 0, 1) := by decide +kernel
theorem d_Mo_put_138 : decode b_Mo_put 138 = .ok (.getfield 79, 3) := by decide +kernel
theorem d_Mo_put_141 : decode b_Mo_put 141 = .ok (.iaload, 1) := by decide +kernel
theorem d_Mo_put_142 : decode b_Mo_put 142 = .ok (.goto 17, 3) := by decide +kernel
theorem d_Mo_put_145 : decode b_Mo_put 145 = .ok (.aload_n 0, 1) := by decide +kernel
theorem d_Mo_put_146 : decode b_Mo_put 146 = .ok (.getfield 37, 3) := by decide +kernel
theorem d_Mo_put_149 : decode b_Mo_put 149 = .ok (.aload_n 0, 1) := by decide +kernel
theorem d_Mo_put_150 : decode b_Mo_put 150 = .ok (.getfield 83, 3) := by decide +kernel
theorem d_Mo_put_153 : decode b_Mo_put 153 = .ok (.iload 4, 2) := by decide +kernel
theorem d_Mo_put_155 : decode b_Mo_put 155 = .ok (.iconst 1, 1) := by decide +kernel
theorem d_Mo_put_156 : decode b_Mo_put 156 = .ok (.isub, 1) := by decide +kernel
theorem d_Mo_put_157 : decode b_Mo_put 157 = .ok (.iaload, 1) := by decide +kernel
theorem d_Mo_put_158 : decode b_Mo_put 158 = .ok (.iaload, 1) := by decide +kernel
theorem d_Mo_put_159 : decode b_Mo_put 159 = .ok (.istore 5, 2) := by decide +kernel
theorem d_Mo_put_161 : decode b_Mo_put 161 = .ok (.iload 4, 2) := by decide +kernel
theorem d_Mo_put_163 : decode b_Mo_put 163 = .ok (.aload_n 0, 1) := by decide +kernel
theorem d_Mo_put_164 : decode b_Mo_put 164 = .ok (.getfield 147, 3) := by decide +kernel
theorem d_Mo_put_167 : decode b_Mo_put 167 = .ok (.if_icmp .ne 15, 3) := by decide +kernel
theorem d_Mo_put_170 : decode b_Mo_put 170 = .ok (.aload_n 0, 1) := by decide +kernel
theorem d_Mo_put_171 : decode b_Mo_put 171 = .ok (.getfield 70, 3) := by decide +kernel
theorem d_Mo_put_174 : decode b_Mo_put 174 = .ok (.aload_n 0, 1) := by decide +kernel
theorem d_Mo_put_175 : decode b_Mo_put 175 = .ok (.getfield 79, 3) := by decide +kernel
theorem d_Mo_put_178 : decode b_Mo_put 178 = .ok (.iaload, 1) := by decide +kernel
theorem d_Mo_put_179 : decode b_Mo_put 179 = .ok (.goto 15, 3) := by decide +kernel
theorem d_Mo_put_182 : decode b_Mo_put 182 = .ok (.aload_n 0, 1) := by decide +kernel
theorem d_Mo_put_183 : decode b_Mo_put 183 = .ok (.getfield 37, 3) := by decide +kernel
theorem d_Mo_put_186 : decode b_Mo_put 186 = .ok (.aload_n 0, 1) := by decide +kernel
theorem d_Mo_put_187 : decode b_Mo_put 187 = .ok (.getfield 83, 3) := by decide +kernel
theorem d_Mo_put_190 : decode b_Mo_put 190 = .ok (.iload 4, 2) := by decide +kernel
theorem d_Mo_put_192 : decode b_Mo_put 192 = .ok (.iaload, 1) := by decide +kernel
theorem d_Mo_put_193 : decode b_Mo_put 193 = .ok (.iaload, 1) := by decide +kernel
theorem d_Mo_put_194 : decode b_Mo_put 194 = .ok (.istore 6, 2) := by decide +kernel
theorem d_Mo_put_196 : decode b_Mo_put 196 = .ok (.aload_n 0, 1) := by decide +kernel
theorem d_Mo_put_197 : decode b_Mo_put 197 = .ok (.iload 5, 2) := by decide +kernel
theorem d_Mo_put_199 : decode b_Mo_put 199 = .ok (.aload_n 0, 1) := by decide +kernel
theorem d_Mo_put_200 : decode b_Mo_put 200 = .ok (.getfield 37, 3) := by decide +kernel
theorem d_Mo_put_203 : decode b_Mo_put 203 = .ok (.iload_n 1, 1) := by decide +kernel
theorem d_Mo_put_204 : decode b_Mo_put 204 = .ok (.iaload, 1) := by decide +kernel
theorem d_Mo_put_205 : decode b_Mo_put 205 = .ok (.invokevirtual 126, 3) := by decide +kernel
theorem d_Mo_put_208 : decode b_Mo_put 208 = .ok (.istore 7, 2) := by decide +kernel
theorem d_Mo_put_210 : decode b_Mo_put 210 = .ok (.aload_n 0, 1) := by decide +kernel
theorem d_Mo_put_211 : decode b_Mo_put 211 = .ok (.aload_n 0, 1) := by decide +kernel
theorem d_Mo_put_212 : decode b_Mo_put 212 = .ok (.getfield 37, 3) := by decide +kernel
theorem d_Mo_put_215 : decode b_Mo_put 215 = .ok (.iload_n 1, 1) := by decide +kernel
theorem d_Mo_put_216 : decode b_Mo_put 216 = .ok (.iaload, 1) := by decide +kernel
theorem d_Mo_put_217 : decode b_Mo_put 217 = .ok (.iload 6, 2) := by decide +kernel
theorem d_Mo_put_219 : decode b_Mo_put 219 = .ok (.invokevirtual 126, 3) := by decide +kernel
theorem d_Mo_put_222 : decode b_Mo_put 222 = .ok (.istore 8, 2) := by decide +kernel
theorem d_Mo_put_224 : decode b_Mo_put 224 = .ok (.iload 7, 2) := by decide +kernel
theorem d_Mo_put_226 : decode b_Mo_put 226 = .ok (.ifCond .lt 46, 3) := by decide +kernel
theorem d_Mo_put_229 : decode b_Mo_put 229 = .ok (.iload 8, 2) := by decide +kernel
theorem d_Mo_put_231 : decode b_Mo_put 231 = .ok (.ifCond .ge 6, 3) := by decide +kernel
theorem d_Mo_put_234 : decode b_Mo_put 234 = .ok (.goto 38, 3) := by decide +kernel
theorem d_Mo_put_237 : decode b_Mo_put 237 = .ok (.iload 7, 2) := by decide +kernel
theorem d_Mo_put_239 : decode b_Mo_put 239 = .ok (.iload 8, 2) := by decide +kernel
theorem d_Mo_put_241 : decode b_Mo_put 241 = .ok (.iadd, 1) := by decide +kernel
theorem d_Mo_put_242 : decode b_Mo_put 242 = .ok (.aload_n 0, 1) := by decide +kernel
theorem d_Mo_put_243 : decode b_Mo_put 243 = .ok (.iload 5, 2) := by decide +kernel
theorem d_Mo_put_245 : decode b_Mo_put 245 = .ok (.iload 6, 2) := by decide +kernel
theorem d_Mo_put_247 : decode b_Mo_put 247 = .ok (.invokevirtual 126, 3) := by decide +kernel
theorem d_Mo_put_250 : decode b_Mo_put 250 = .ok (.isub, 1) := by decide +kernel
theorem d_Mo_put_251 : decode b_Mo_put 251 = .ok (.istore 9, 2) := by decide +kernel
theorem d_Mo_put_253 : decode b_Mo_put 253 = .ok (.iload_n 2, 1) := by decide +kernel
theorem d_Mo_put_254 : decode b_Mo_put 254 = .ok (.ifCond .lt 12, 3) := by decide +kernel
theorem d_Mo_put_257 : decode b_Mo_put 257 = .ok (.iload 9, 2) := by decide +kernel
theorem d_Mo_put_259 : decode b_Mo_put 259 = .ok (.iload_n 3, 1) := by decide +kernel
theorem d_Mo_put_260 : decode b_Mo_put 260 = .ok (.if_icmp .lt 6, 3) := by decide +kernel
theorem d_Mo_put_263 : decode b_Mo_put 263 = .ok (.goto 9, 3) := by decide +kernel
theorem d_Mo_put_266 : decode b_Mo_put 266 = .ok (.iload 4, 2) := by decide +kernel
theorem d_Mo_put_268 : decode b_Mo_put 268 = .ok (.istore_n 2, 1) := by decide +kernel
theorem d_Mo_put_269 : decode b_Mo_put 269 = .ok (.iload 9, 2) := by decide +kernel
theorem d_Mo_put_271 : decode b_Mo_put 271 = .ok (.istore_n 3, 1) := by decide +kernel
theorem d_Mo_put_272 : decode b_Mo_put 272 = .ok (.iinc 4 1, 3) := by decide +kernel
theorem d_Mo_put_275 : decode b_Mo_put 275 = .ok (.goto (-156), 3) := by decide +kernel
theorem d_Mo_put_278 : decode b_Mo_put 278 = .ok (.iload_n 2, 1) := by decide +kernel
theorem d_Mo_put_279 : decode b_Mo_put 279 = .ok (.ifCond .ge 6, 3) := by decide +kernel
theorem d_Mo_put_282 : decode b_Mo_put 282 = .ok (.bipush (-2), 2) := by decide +kernel
theorem d_Mo_put_284 : decode b_Mo_put 284 = .ok (.ireturn, 1) := by decide +kernel
theorem d_Mo_put_285 : decode b_Mo_put 285 = .ok (.aload_n 0, 1) := by decide +kernel
theorem d_Mo_put_286 : decode b_Mo_put 286 = .ok (.getfield 147, 3) := by decide +kernel
theorem d_Mo_put_289 : decode b_Mo_put 289 = .ok (.istore 4, 2) := by decide +kernel
theorem d_Mo_put_291 : decode b_Mo_put 291 = .ok (.iload 4, 2) := by decide +kernel
theorem d_Mo_put_293 : decode b_Mo_put 293 = .ok (.iload_n 2, 1) := by decide +kernel
theorem d_Mo_put_294 : decode b_Mo_put 294 = .ok (.if_icmp .le 25, 3) := by decide +kernel
theorem d_Mo_put_297 : decode b_Mo_put 297 = .ok (.aload_n 0, 1) := by decide +kernel
theorem d_Mo_put_298 : decode b_Mo_put 298 = .ok (.getfield 83, 3) := by decide +kernel
theorem d_Mo_put_301 : decode b_Mo_put 301 = .ok (.iload 4, 2) := by decide +kernel
theorem d_Mo_put_303 : decode b_Mo_put 303 = .ok (.aload_n 0, 1) := by decide +kernel
theorem d_Mo_put_304 : decode b_Mo_put 304 = .ok (.getfield 83, 3) := by decide +kernel
theorem d_Mo_put_307 : decode b_Mo_put 307 = .ok (.iload 4, 2) := by decide +kernel
theorem d_Mo_put_309 : decode b_Mo_put 309 = .ok (.iconst 1, 1) := by decide +kernel
theorem d_Mo_put_310 : decode b_Mo_put 310 = .ok (.isub, 1) := by decide +kernel
theorem d_Mo_put_311 : decode b_Mo_put 311 = .ok (.iaload, 1) := by decide +kernel
theorem d_Mo_put_312 : decode b_Mo_put 312 = .ok (.iastore, 1) := by decide +kernel
theorem d_Mo_put_313 : decode b_Mo_put 313 = .ok (.iinc 4 (-1), 3) := by decide +kernel
theorem d_Mo_put_316 : decode b_Mo_put 316 = .ok (.goto (-25), 3) := by decide +kernel
theorem d_Mo_put_319 : decode b_Mo_put 319 = .ok (.aload_n 0, 1) := by decide +kernel
theorem d_Mo_put_320 : decode b_Mo_put 320 = .ok (.getfield 83, 3) := by decide +kernel
theorem d_Mo_put_323 : decode b_Mo_put 323 = .ok (.iload_n 2, 1) := by decide +kernel
theorem d_Mo_put_324 : decode b_Mo_put 324 = .ok (.iload_n 1, 1) := by decide +kernel
theorem d_Mo_put_325 : decode b_Mo_put 325 = .ok (.iastore, 1) := by decide +kernel
theorem d_Mo_put_326 : decode b_Mo_put 326 = .ok (.aload_n 0, 1) := by decide +kernel
theorem d_Mo_put_327 : decode b_Mo_put 327 = .ok (.dup, 1) := by decide +kernel
theorem d_Mo_put_328 : decode b_Mo_put 328 = .ok (.getfield 147, 3) := by decide +kernel
theorem d_Mo_put_331 : decode b_Mo_put 331 = .ok (.iconst 1, 1) := by decide +kernel
theorem d_Mo_put_332 : decode b_Mo_put 332 = .ok (.iadd, 1) := by decide +kernel
theorem d_Mo_put_333 : decode b_Mo_put 333 = .ok (.putfield 147, 3) := by decide +kernel
theorem d_Mo_put_336 : decode b_Mo_put 336 = .ok (.iload_n 3, 1) := by decide +kernel
theorem d_Mo_put_337 : decode b_Mo_put 337 = .ok (.ireturn, 1) := by decide +kernel
theorem d_Mo_done_0 : decode b_Mo_done 0 = .ok (.aload_n 0, 1) := by decide +kernel
theorem d_Mo_done_1 : decode b_Mo_done 1 = .ok (.aload_n 0, 1) := by decide +kernel
theorem d_Mo_done_2 : decode b_Mo_done 2 = .ok (.getfield 79, 3) := by decide +kernel
theorem d_Mo_done_5 : decode b_Mo_done 5 = .ok (.ifCond .lt 14, 3) := by decide +kernel
theorem d_Mo_done_8 : decode b_Mo_done 8 = .ok (.aload_n 0, 1) := by decide +kernel
theorem d_Mo_done_9 : decode b_Mo_done 9 = .ok (.getfield 150, 3) := by decide +kernel
theorem d_Mo_done_12 : decode b_Mo_done 12 = .ok (.aload_n 0, 1) := by decide +kernel
theorem d_Mo_done_13 : decode b_Mo_done 13 = .ok (.getfield 147, 3) := by decide +kernel
theorem d_Mo_done_16 : decode b_Mo_done 16 = .ok (.if_icmp .ne 7, 3) := by decide +kernel
theorem d_Mo_done_19 : decode b_Mo_done 19 = .ok (.iconst 1, 1) := by decide +kernel
theorem d_Mo_done_20 : decode b_Mo_done 20 = .ok (.goto 4, 3) := by decide +kernel
theorem d_Mo_done_23 : decode b_Mo_done 23 = .ok (.iconst 0, 1) := by decide +kernel
theorem d_Mo_done_24 : decode b_Mo_done 24 = .ok (.putfield 98, 3) := by decide +kernel
theorem d_Mo_done_27 : decode b_Mo_done 27 = .ok (.aload_n 0, 1) := by decide +kernel
theorem d_Mo_done_28 : decode b_Mo_done 28 = .ok (.getfield 98, 3) := by decide +kernel
theorem d_Mo_done_31 : decode b_Mo_done 31 = .ok (.ifCond .le 5, 3) := by decide +kernel
theorem d_Mo_done_34 : decode b_Mo_done 34 = .ok (.iconst 0, 1) := by decide +kernel
theorem d_Mo_done_35 : decode b_Mo_done 35 = .ok (.ireturn, 1) := by decide +kernel
theorem d_Mo_done_36 : decode b_Mo_done 36 = .ok (.aload_n 0, 1) := by decide +kernel
theorem d_Mo_done_37 : decode b_Mo_done 37 = .ok (.getfield 83, 3) := by decide +kernel
theorem d_Mo_done_40 : decode b_Mo_done 40 = .ok (.aload_n 0, 1) := by decide +kernel
theorem d_Mo_done_41 : decode b_Mo_done 41 = .ok (.getfield 150, 3) := by decide +kernel
theorem d_Mo_done_44 : decode b_Mo_done 44 = .ok (.iaload, 1) := by decide +kernel
theorem d_Mo_done_45 : decode b_Mo_done 45 = .ok (.istore_n 1, 1) := by decide +kernel
theorem d_Mo_done_46 : decode b_Mo_done 46 = .ok (.aload_n 0, 1) := by decide +kernel
theorem d_Mo_done_47 : decode b_Mo_done 47 = .ok (.getfield 76, 3) := by decide +kernel
theorem d_Mo_done_50 : decode b_Mo_done 50 = .ok (.aload_n 0, 1) := by decide +kernel
theorem d_Mo_done_51 : decode b_Mo_done 51 = .ok (.getfield 43, 3) := by decide +kernel
theorem d_Mo_done_54 : decode b_Mo_done 54 = .ok (.iload_n 1, 1) := by decide +kernel
theorem d_Mo_done_55 : decode b_Mo_done 55 = .ok (.iaload, 1) := by decide +kernel
theorem d_Mo_done_56 : decode b_Mo_done 56 = .ok (.iaload, 1) := by decide +kernel
theorem d_Mo_done_57 : decode b_Mo_done 57 = .ok (.ifCond .ne 6, 3) := by decide +kernel
theorem d_Mo_done_60 : decode b_Mo_done 60 = .ok (.bipush (-2), 2) := by decide +kernel
theorem d_Mo_done_62 : decode b_Mo_done 62 = .ok (.ireturn, 1) := by decide +kernel
theorem d_Mo_done_63 : decode b_Mo_done 63 = .ok (.aload_n 0, 1) := by decide +kernel
theorem d_Mo_done_64 : decode b_Mo_done 64 = .ok (.getfield 76, 3) := by decide +kernel
theorem d_Mo_done_67 : decode b_Mo_done 67 = .ok (.aload_n 0, 1) := by decide +kernel
theorem d_Mo_done_68 : decode b_Mo_done 68 = .ok (.getfield 43, 3) := by decide +kernel
theorem d_Mo_done_71 : decode b_Mo_done 71 = .ok (.iload_n 1, 1) := by decide +kernel
theorem d_Mo_done_72 : decode b_Mo_done 72 = .ok (.iaload, 1) := by decide +kernel
theorem d_Mo_done_73 : decode b_Mo_done 73 = .ok (.dup2, 1) := by decide +kernel
theorem d_Mo_done_74 : decode b_Mo_done 74 = .ok (.iaload, 1) := by decide +kernel
theorem d_Mo_done_75 : decode b_Mo_done 75 = .ok (.iconst 1, 1) := by decide +kernel
theorem d_Mo_done_76 : decode b_Mo_done 76 = .ok (.isub, 1) := by decide +kernel
theorem d_Mo_done_77 : decode b_Mo_done 77 = .ok (.iastore, 1) := by decide +kernel
theorem d_Mo_done_78 : decode b_Mo_done 78 = .ok (.aload_n 0, 1) := by decide +kernel
theorem d_Mo_done_79 : decode b_Mo_done 79 = .ok (.dup, 1) := by decide +kernel
theorem d_Mo_done_80 : decode b_Mo_done 80 = .ok (.getfield 150, 3) := by decide +kernel
theorem d_Mo_done_83 : decode b_Mo_done 83 = .ok (.iconst 1, 1) := by decide +kernel
theorem d_Mo_done_84 : decode b_Mo_done 84 = .ok (.iadd, 1) := by decide +kernel
theorem d_Mo_done_85 : decode b_Mo_done 85 = .ok (.putfield 150, 3) := by decide +kernel
theorem d_Mo_done_88 : decode b_Mo_done 88 = .ok (.aload_n 0, 1) := by decide +kernel
theorem d_Mo_done_89 : decode b_Mo_done 89 = .ok (.getfield 55, 3) := by decide +kernel
theorem d_Mo_done_92 : decode b_Mo_done 92 = .ok (.iload_n 1, 1) := by decide +kernel
theorem d_Mo_done_93 : decode b_Mo_done 93 = .ok (.aload_n 0, 1) := by decide +kernel
theorem d_Mo_done_94 : decode b_Mo_done 94 = .ok (.getfield 144, 3) := by decide +kernel
theorem d_Mo_done_97 : decode b_Mo_done 97 = .ok (.iastore, 1) := by decide +kernel
theorem d_Mo_done_98 : decode b_Mo_done 98 = .ok (.aload_n 0, 1) := by decide +kernel
theorem d_Mo_done_99 : decode b_Mo_done 99 = .ok (.getfield 61, 3) := by decide +kernel
theorem d_Mo_done_102 : decode b_Mo_done 102 = .ok (.iload_n 1, 1) := by decide +kernel
theorem d_Mo_done_103 : decode b_Mo_done 103 = .ok (.aload_n 0, 1) := by decide +kernel
theorem d_Mo_done_104 : decode b_Mo_done 104 = .ok (.getfield 144, 3) := by decide +kernel
theorem d_Mo_done_107 : decode b_Mo_done 107 = .ok (.iastore, 1) := by decide +kernel
theorem d_Mo_done_108 : decode b_Mo_done 108 = .ok (.aload_n 0, 1) := by decide +kernel
theorem d_Mo_done_109 : decode b_Mo_done 109 = .ok (.getfield 58, 3) := by decide +kernel
theorem d_Mo_done_112 : decode b_Mo_done 112 = .ok (.iload_n 1, 1) := by decide +kernel
theorem d_Mo_done_113 : decode b_Mo_done 113 = .ok (.iconst 0, 1) := by decide +kernel
theorem d_Mo_done_114 : decode b_Mo_done 114 = .ok (.iastore, 1) := by decide +kernel
theorem d_Mo_done_115 : decode b_Mo_done 115 = .ok (.aload_n 0, 1) := by decide +kernel
theorem d_Mo_done_116 : decode b_Mo_done 116 = .ok (.getfield 64, 3) := by decide +kernel
theorem d_Mo_done_119 : decode b_Mo_done 119 = .ok (.iload_n 1, 1) := by decide +kernel
theorem d_Mo_done_120 : decode b_Mo_done 120 = .ok (.iconst (-1), 1) := by decide +kernel
theorem d_Mo_done_121 : decode b_Mo_done 121 = .ok (.iastore, 1) := by decide +kernel
theorem d_Mo_done_122 : decode b_Mo_done 122 = .ok (.iload_n 1, 1) := by decide +kernel
theorem d_Mo_done_123 : decode b_Mo_done 123 = .ok (.ireturn, 1) := by decide +kernel
theorem d_Mo_due_0 : decode b_Mo_due 0 = .ok (.aload_n 0, 1) := by decide +kernel
theorem d_Mo_due_1 : decode b_Mo_due 1 = .ok (.aload_n 0, 1) := by decide +kernel
theorem d_Mo_due_2 : decode b_Mo_due 2 = .ok (.iload_n 1, 1) := by decide +kernel
theorem d_Mo_due_3 : decode b_Mo_due 3 = .ok (.invokevirtual 118, 3) := by decide +kernel
theorem d_Mo_due_6 : decode b_Mo_due 6 = .ok (.ifCond .eq 7, 3) := by decide +kernel
theorem d_Mo_due_9 : decode b_Mo_due 9 = .ok (.iconst 0, 1) := by decide +kernel
theorem d_Mo_due_10 : decode b_Mo_due 10 = .ok (.goto 4, 3) := by decide +kernel
theorem d_Mo_due_13 : decode b_Mo_due 13 = .ok (.iconst 1, 1) := by decide +kernel
theorem d_Mo_due_14 : decode b_Mo_due 14 = .ok (.putfield 98, 3) := by decide +kernel
theorem d_Mo_due_17 : decode b_Mo_due 17 = .ok (.aload_n 0, 1) := by decide +kernel
theorem d_Mo_due_18 : decode b_Mo_due 18 = .ok (.getfield 98, 3) := by decide +kernel
theorem d_Mo_due_21 : decode b_Mo_due 21 = .ok (.ifCond .le 7, 3) := by decide +kernel
theorem d_Mo_due_24 : decode b_Mo_due 24 = .ok (.iconst 0, 1) := by decide +kernel
theorem d_Mo_due_25 : decode b_Mo_due 25 = .ok (.goto 8, 3) := by decide +kernel
theorem d_Mo_due_28 : decode b_Mo_due 28 = .ok (.aload_n 0, 1) := by decide +kernel
theorem d_Mo_due_29 : decode b_Mo_due 29 = .ok (.iload_n 1, 1) := by decide +kernel
theorem d_Mo_due_30 : decode b_Mo_due 30 = .ok (.invokevirtual 129, 3) := by decide +kernel
theorem d_Mo_due_33 : decode b_Mo_due 33 = .ok (.ireturn, 1) := by decide +kernel
theorem d_Mo_late_0 : decode b_Mo_late 0 = .ok (.aload_n 0, 1) := by decide +kernel
theorem d_Mo_late_1 : decode b_Mo_late 1 = .ok (.iload_n 1, 1) := by decide +kernel
theorem d_Mo_late_2 : decode b_Mo_late 2 = .ok (.ifCond .ge 7, 3) := by decide +kernel
theorem d_Mo_late_5 : decode b_Mo_late 5 = .ok (.iconst 1, 1) := by decide +kernel
theorem d_Mo_late_6 : decode b_Mo_late 6 = .ok (.goto 4, 3) := by decide +kernel
theorem d_Mo_late_9 : decode b_Mo_late 9 = .ok (.iconst 0, 1) := by decide +kernel
theorem d_Mo_late_10 : decode b_Mo_late 10 = .ok (.putfield 98, 3) := by decide +kernel
theorem d_Mo_late_13 : decode b_Mo_late 13 = .ok (.iconst 0, 1) := by decide +kernel
theorem d_Mo_late_14 : decode b_Mo_late 14 = .ok (.istore_n 2, 1) := by decide +kernel
theorem d_Mo_late_15 : decode b_Mo_late 15 = .ok (.iload_n 2, 1) := by decide +kernel
theorem d_Mo_late_16 : decode b_Mo_late 16 = .ok (.aload_n 0, 1) := by decide +kernel
theorem d_Mo_late_17 : decode b_Mo_late 17 = .ok (.getfield 111, 3) := by decide +kernel
theorem d_Mo_late_20 : decode b_Mo_late 20 = .ok (.if_icmp .ge 67, 3) := by decide +kernel
theorem d_Mo_late_23 : decode b_Mo_late 23 = .ok (.aload_n 0, 1) := by decide +kernel
theorem d_Mo_late_24 : decode b_Mo_late 24 = .ok (.getfield 98, 3) := by decide +kernel
theorem d_Mo_late_27 : decode b_Mo_late 27 = .ok (.ifCond .ne 60, 3) := by decide +kernel
theorem d_Mo_late_30 : decode b_Mo_late 30 = .ok (.iconst 0, 1) := by decide +kernel
theorem d_Mo_late_31 : decode b_Mo_late 31 = .ok (.istore_n 3, 1) := by decide +kernel
theorem d_Mo_late_32 : decode b_Mo_late 32 = .ok (.iconst 0, 1) := by decide +kernel
theorem d_Mo_late_33 : decode b_Mo_late 33 = .ok (.istore 4, 2) := by decide +kernel
theorem d_Mo_late_35 : decode b_Mo_late 35 = .ok (.iload 4, 2) := by decide +kernel
theorem d_Mo_late_37 : decode b_Mo_late 37 = .ok (.aload_n 0, 1) := by decide +kernel
theorem d_Mo_late_38 : decode b_Mo_late 38 = .ok (.getfield 111, 3) := by decide +kernel
theorem d_Mo_late_41 : decode b_Mo_late 41 = .ok (.if_icmp .ge 33, 3) := by decide +kernel
theorem d_Mo_late_44 : decode b_Mo_late 44 = .ok (.iload_n 3, 1) := by decide +kernel
theorem d_Mo_late_45 : decode b_Mo_late 45 = .ok (.iload 4, 2) := by decide +kernel
theorem d_Mo_late_47 : decode b_Mo_late 47 = .ok (.iload_n 2, 1) := by decide +kernel
theorem d_Mo_late_48 : decode b_Mo_late 48 = .ok (.if_icmp .eq 17, 3) := by decide +kernel
theorem d_Mo_late_51 : decode b_Mo_late 51 = .ok (.aload_n 0, 1) := by decide +kernel
theorem d_Mo_late_52 : decode b_Mo_late 52 = .ok (.iload 4, 2) := by decide +kernel
theorem d_Mo_late_54 : decode b_Mo_late 54 = .ok (.iload_n 2, 1) := by decide +kernel
theorem d_Mo_late_55 : decode b_Mo_late 55 = .ok (.invokevirtual 137, 3) := by decide +kernel
theorem d_Mo_late_58 : decode b_Mo_late 58 = .ok (.ifCond .eq 7, 3) := by decide +kernel
theorem d_Mo_late_61 : decode b_Mo_late 61 = .ok (.iconst 1, 1) := by decide +kernel
theorem d_Mo_late_62 : decode b_Mo_late 62 = .ok (.goto 4, 3) := by decide +kernel
theorem d_Mo_late_65 : decode b_Mo_late 65 = .ok (.iconst 0, 1) := by decide +kernel
theorem d_Mo_late_66 : decode b_Mo_late 66 = .ok (.iadd, 1) := by decide +kernel
theorem d_Mo_late_67 : decode b_Mo_late 67 = .ok (.istore_n 3, 1) := by decide +kernel
theorem d_Mo_late_68 : decode b_Mo_late 68 = .ok (.iinc 4 1, 3) := by decide +kernel
theorem d_Mo_late_71 : decode b_Mo_late 71 = .ok (.goto (-36), 3) := by decide +kernel
theorem d_Mo_late_74 : decode b_Mo_late 74 = .ok (.iload_n 3, 1) := by decide +kernel
theorem d_Mo_late_75 : decode b_Mo_late 75 = .ok (.iload_n 1, 1) := by decide +kernel
theorem d_Mo_late_76 : decode b_Mo_late 76 = .ok (.if_icmp .ne 5, 3) := by decide +kernel
theorem d_Mo_late_79 : decode b_Mo_late 79 = .ok (.iload_n 2, 1) := by decide +kernel
theorem d_Mo_late_80 : decode b_Mo_late 80 = .ok (.ireturn, 1) := by decide +kernel
theorem d_Mo_late_81 : decode b_Mo_late 81 = .ok (.iinc 2 1, 3) := by decide +kernel
theorem d_Mo_late_84 : decode b_Mo_late 84 = .ok (.goto (-69), 3) := by decide +kernel
theorem d_Mo_late_87 : decode b_Mo_late 87 = .ok (.aload_n 0, 1) := by decide +kernel
theorem d_Mo_late_88 : decode b_Mo_late 88 = .ok (.getfield 98, 3) := by decide +kernel
theorem d_Mo_late_91 : decode b_Mo_late 91 = .ok (.ifCond .le 7, 3) := by decide +kernel
theorem d_Mo_late_94 : decode b_Mo_late 94 = .ok (.iconst 0, 1) := by decide +kernel
theorem d_Mo_late_95 : decode b_Mo_late 95 = .ok (.goto 4, 3) := by decide +kernel
theorem d_Mo_late_98 : decode b_Mo_late 98 = .ok (.iconst (-1), 1) := by decide +kernel
theorem d_Mo_late_99 : decode b_Mo_late 99 = .ok (.ireturn, 1) := by decide +kernel
theorem d_Mo_fine_0 : decode b_Mo_fine 0 = .ok (.aload_n 0, 1) := by decide +kernel
theorem d_Mo_fine_1 : decode b_Mo_fine 1 = .ok (.aload_n 0, 1) := by decide +kernel
theorem d_Mo_fine_2 : decode b_Mo_fine 2 = .ok (.iload_n 1, 1) := by decide +kernel
theorem d_Mo_fine_3 : decode b_Mo_fine 3 = .ok (.invokevirtual 118, 3) := by decide +kernel
theorem d_Mo_fine_6 : decode b_Mo_fine 6 = .ok (.ifCond .eq 13, 3) := by decide +kernel
theorem d_Mo_fine_9 : decode b_Mo_fine 9 = .ok (.iload_n 2, 1) := by decide +kernel
theorem d_Mo_fine_10 : decode b_Mo_fine 10 = .ok (.iconst 0, 1) := by decide +kernel
theorem d_Mo_fine_11 : decode b_Mo_fine 11 = .ok (.ldc 114, 2) := by decide +kernel
theorem d_Mo_fine_13 : decode b_Mo_fine 13 = .ok (.invokestatic 101, 3) := by decide +kernel
theorem d_Mo_fine_16 : decode b_Mo_fine 16 = .ok (.ifCond .ne 7, 3) := by decide +kernel
theorem d_Mo_fine_19 : decode b_Mo_fine 19 = .ok (.iconst 1, 1) := by decide +kernel
theorem d_Mo_fine_20 : decode b_Mo_fine 20 = .ok (.goto 4, 3) := by decide +kernel
theorem d_Mo_fine_23 : decode b_Mo_fine 23 = .ok (.iconst 0, 1) := by decide +kernel
theorem d_Mo_fine_24 : decode b_Mo_fine 24 = .ok (.putfield 98, 3) := by decide +kernel
theorem d_Mo_fine_27 : decode b_Mo_fine 27 = .ok (.aload_n 0, 1) := by decide +kernel
theorem d_Mo_fine_28 : decode b_Mo_fine 28 = .ok (.getfield 98, 3) := by decide +kernel
theorem d_Mo_fine_31 : decode b_Mo_fine 31 = .ok (.ifCond .le 5, 3) := by decide +kernel
theorem d_Mo_fine_34 : decode b_Mo_fine 34 = .ok (.iconst 0, 1) := by decide +kernel
theorem d_Mo_fine_35 : decode b_Mo_fine 35 = .ok (.ireturn, 1) := by decide +kernel
theorem d_Mo_fine_36 : decode b_Mo_fine 36 = .ok (.iload_n 2, 1) := by decide +kernel
theorem d_Mo_fine_37 : decode b_Mo_fine 37 = .ok (.aload_n 0, 1) := by decide +kernel
theorem d_Mo_fine_38 : decode b_Mo_fine 38 = .ok (.iload_n 1, 1) := by decide +kernel
theorem d_Mo_fine_39 : decode b_Mo_fine 39 = .ok (.invokevirtual 129, 3) := by decide +kernel
theorem d_Mo_fine_42 : decode b_Mo_fine 42 = .ok (.isub, 1) := by decide +kernel
theorem d_Mo_fine_43 : decode b_Mo_fine 43 = .ok (.istore_n 3, 1) := by decide +kernel
theorem d_Mo_fine_44 : decode b_Mo_fine 44 = .ok (.iload_n 3, 1) := by decide +kernel
theorem d_Mo_fine_45 : decode b_Mo_fine 45 = .ok (.ifCond .gt 5, 3) := by decide +kernel
theorem d_Mo_fine_48 : decode b_Mo_fine 48 = .ok (.iconst 0, 1) := by decide +kernel
theorem d_Mo_fine_49 : decode b_Mo_fine 49 = .ok (.ireturn, 1) := by decide +kernel
theorem d_Mo_fine_50 : decode b_Mo_fine 50 = .ok (.iload_n 3, 1) := by decide +kernel
theorem d_Mo_fine_51 : decode b_Mo_fine 51 = .ok (.bipush 10, 2) := by decide +kernel
theorem d_Mo_fine_53 : decode b_Mo_fine 53 = .ok (.if_icmp .ge 8, 3) := by decide +kernel
theorem d_Mo_fine_56 : decode b_Mo_fine 56 = .ok (.iload_n 3, 1) := by decide +kernel
theorem d_Mo_fine_57 : decode b_Mo_fine 57 = .ok (.i2l, 1) := by decide +kernel
theorem d_Mo_fine_58 : decode b_Mo_fine 58 = .ok (.goto 6, 3) := by decide +kernel
theorem d_Mo_fine_61 : decode b_Mo_fine 61 = .ok (.ldc2_w 160, 3) := by decide +kernel
theorem d_Mo_fine_64 : decode b_Mo_fine 64 = .ok (.lstore 4, 2) := by decide +kernel
theorem d_Mo_fine_66 : decode b_Mo_fine 66 = .ok (.iload_n 3, 1) := by decide +kernel
theorem d_Mo_fine_67 : decode b_Mo_fine 67 = .ok (.bipush 11, 2) := by decide +kernel
theorem d_Mo_fine_69 : decode b_Mo_fine 69 = .ok (.if_icmp .ge 7, 3) := by decide +kernel
theorem d_Mo_fine_72 : decode b_Mo_fine 72 = .ok (.lconst 0, 1) := by decide +kernel
theorem d_Mo_fine_73 : decode b_Mo_fine 73 = .ok (.goto 20, 3) := by decide +kernel
theorem d_Mo_fine_76 : decode b_Mo_fine 76 = .ok (.iload_n 3, 1) := by decide +kernel
theorem d_Mo_fine_77 : decode b_Mo_fine 77 = .ok (.bipush 30, 2) := by decide +kernel
theorem d_Mo_fine_79 : decode b_Mo_fine 79 = .ok (.if_icmp .ge 11, 3) := by decide +kernel
theorem d_Mo_fine_82 : decode b_Mo_fine 82 = .ok (.iload_n 3, 1) := by decide +kernel
theorem d_Mo_fine_83 : decode b_Mo_fine 83 = .ok (.bipush 10, 2) := by decide +kernel
theorem d_Mo_fine_85 : decode b_Mo_fine 85 = .ok (.isub, 1) := by decide +kernel
theorem d_Mo_fine_86 : decode b_Mo_fine 86 = .ok (.i2l, 1) := by decide +kernel
theorem d_Mo_fine_87 : decode b_Mo_fine 87 = .ok (.goto 6, 3) := by decide +kernel
theorem d_Mo_fine_90 : decode b_Mo_fine 90 = .ok (.ldc2_w 162, 3) := by decide +kernel
theorem d_Mo_fine_93 : decode b_Mo_fine 93 = .ok (.lstore 6, 2) := by decide +kernel
theorem d_Mo_fine_95 : decode b_Mo_fine 95 = .ok (.iload_n 3, 1) := by decide +kernel
theorem d_Mo_fine_96 : decode b_Mo_fine 96 = .ok (.bipush 31, 2) := by decide +kernel
theorem d_Mo_fine_98 : decode b_Mo_fine 98 = .ok (.if_icmp .ge 7, 3) := by decide +kernel
theorem d_Mo_fine_101 : decode b_Mo_fine 101 = .ok (.lconst 0, 1) := by decide +kernel
theorem d_Mo_fine_102 : decode b_Mo_fine 102 = .ok (.goto 8, 3) := by decide +kernel
theorem d_Mo_fine_105 : decode b_Mo_fine 105 = .ok (.iload_n 3, 1) := by decide +kernel
theorem d_Mo_fine_106 : decode b_Mo_fine 106 = .ok (.bipush 30, 2) := by decide +kernel
theorem d_Mo_fine_108 : decode b_Mo_fine 108 = .ok (.isub, 1) := by decide +kernel
theorem d_Mo_fine_109 : decode b_Mo_fine 109 = .ok (.i2l, 1) := by decide +kernel
theorem d_Mo_fine_110 : decode b_Mo_fine 110 = .ok (.lstore 8, 2) := by decide +kernel
theorem d_Mo_fine_112 : decode b_Mo_fine 112 = .ok (.aload_n 0, 1) := by decide +kernel
theorem d_Mo_fine_113 : decode b_Mo_fine 113 = .ok (.getfield 95, 3) := by decide +kernel
theorem d_Mo_fine_116 : decode b_Mo_fine 116 = .ok (.i2l, 1) := by decide +kernel
theorem d_Mo_fine_117 : decode b_Mo_fine 117 = .ok (.lload 4, 2) := by decide +kernel
theorem d_Mo_fine_119 : decode b_Mo_fine 119 = .ok (.ldc2_w 164, 3) := by decide +kernel
theorem d_Mo_fine_122 : decode b_Mo_fine 122 = .ok (.lload 6, 2) := by decide +kernel
theorem d_Mo_fine_124 : decode b_Mo_fine 124 = .ok (.lmul, 1) := by decide +kernel
theorem d_Mo_fine_125 : decode b_Mo_fine 125 = .ok (.ladd, 1) := by decide +kernel
theorem d_Mo_fine_126 : decode b_Mo_fine 126 = .ok (.ldc2_w 166, 3) := by decide +kernel
theorem d_Mo_fine_129 : decode b_Mo_fine 129 = .ok (.lload 8, 2) := by decide +kernel
theorem d_Mo_fine_131 : decode b_Mo_fine 131 = .ok (.lmul, 1) := by decide +kernel
theorem d_Mo_fine_132 : decode b_Mo_fine 132 = .ok (.ladd, 1) := by decide +kernel
theorem d_Mo_fine_133 : decode b_Mo_fine 133 = .ok (.lmul, 1) := by decide +kernel
theorem d_Mo_fine_134 : decode b_Mo_fine 134 = .ok (.lstore 10, 2) := by decide +kernel
theorem d_Mo_fine_136 : decode b_Mo_fine 136 = .ok (.lload 10, 2) := by decide +kernel
theorem d_Mo_fine_138 : decode b_Mo_fine 138 = .ok (.ldc2_w 168, 3) := by decide +kernel
theorem d_Mo_fine_141 : decode b_Mo_fine 141 = .ok (.lcmp, 1) := by decide +kernel
theorem d_Mo_fine_142 : decode b_Mo_fine 142 = .ok (.ifCond .le 8, 3) := by decide +kernel
theorem d_Mo_fine_145 : decode b_Mo_fine 145 = .ok (.ldc 170, 2) := by decide +kernel
theorem d_Mo_fine_147 : decode b_Mo_fine 147 = .ok (.goto 6, 3) := by decide +kernel
theorem d_Mo_fine_150 : decode b_Mo_fine 150 = .ok (.lload 10, 2) := by decide +kernel
theorem d_Mo_fine_152 : decode b_Mo_fine 152 = .ok (.l2i, 1) := by decide +kernel
theorem d_Mo_fine_153 : decode b_Mo_fine 153 = .ok (.ireturn, 1) := by decide +kernel
theorem d_Mo_wanted_0 : decode b_Mo_wanted 0 = .ok (.aload_n 0, 1) := by decide +kernel
theorem d_Mo_wanted_1 : decode b_Mo_wanted 1 = .ok (.iload_n 1, 1) := by decide +kernel
theorem d_Mo_wanted_2 : decode b_Mo_wanted 2 = .ok (.iconst 0, 1) := by decide +kernel
theorem d_Mo_wanted_3 : decode b_Mo_wanted 3 = .ok (.iconst 4, 1) := by decide +kernel
theorem d_Mo_wanted_4 : decode b_Mo_wanted 4 = .ok (.invokestatic 101, 3) := by decide +kernel
theorem d_Mo_wanted_7 : decode b_Mo_wanted 7 = .ok (.ifCond .eq 13, 3) := by decide +kernel
theorem d_Mo_wanted_10 : decode b_Mo_wanted 10 = .ok (.iload_n 2, 1) := by decide +kernel
theorem d_Mo_wanted_11 : decode b_Mo_wanted 11 = .ok (.iconst 0, 1) := by decide +kernel
theorem d_Mo_wanted_12 : decode b_Mo_wanted 12 = .ok (.ldc 114, 2) := by decide +kernel
theorem d_Mo_wanted_14 : decode b_Mo_wanted 14 = .ok (.invokestatic 101, 3) := by decide +kernel
theorem d_Mo_wanted_17 : decode b_Mo_wanted 17 = .ok (.ifCond .ne 7, 3) := by decide +kernel
theorem d_Mo_wanted_20 : decode b_Mo_wanted 20 = .ok (.iconst 1, 1) := by decide +kernel
theorem d_Mo_wanted_21 : decode b_Mo_wanted 21 = .ok (.goto 4, 3) := by decide +kernel
theorem d_Mo_wanted_24 : decode b_Mo_wanted 24 = .ok (.iconst 0, 1) := by decide +kernel
theorem d_Mo_wanted_25 : decode b_Mo_wanted 25 = .ok (.putfield 98, 3) := by decide +kernel
theorem d_Mo_wanted_28 : decode b_Mo_wanted 28 = .ok (.aload_n 0, 1) := by decide +kernel
theorem d_Mo_wanted_29 : decode b_Mo_wanted 29 = .ok (.getfield 98, 3) := by decide +kernel
theorem d_Mo_wanted_32 : decode b_Mo_wanted 32 = .ok (.ifCond .le 5, 3) := by decide +kernel
theorem d_Mo_wanted_35 : decode b_Mo_wanted 35 = .ok (.iconst 0, 1) := by decide +kernel
theorem d_Mo_wanted_36 : decode b_Mo_wanted 36 = .ok (.ireturn, 1) := by decide +kernel
theorem d_Mo_wanted_37 : decode b_Mo_wanted 37 = .ok (.iconst 0, 1) := by decide +kernel
theorem d_Mo_wanted_38 : decode b_Mo_wanted 38 = .ok (.istore_n 3, 1) := by decide +kernel
theorem d_Mo_wanted_39 : decode b_Mo_wanted 39 = .ok (.iconst 0, 1) := by decide +kernel
theorem d_Mo_wanted_40 : decode b_Mo_wanted 40 = .ok (.istore 4, 2) := by decide +kernel
theorem d_Mo_wanted_42 : decode b_Mo_wanted 42 = .ok (.iload 4, 2) := by decide +kernel
theorem d_Mo_wanted_44 : decode b_Mo_wanted 44 = .ok (.aload_n 0, 1) := by decide +kernel
theorem d_Mo_wanted_45 : decode b_Mo_wanted 45 = .ok (.getfield 111, 3) := by decide +kernel
theorem d_Mo_wanted_48 : decode b_Mo_wanted 48 = .ok (.if_icmp .ge 38, 3) := by decide +kernel
theorem d_Mo_wanted_51 : decode b_Mo_wanted 51 = .ok (.iload_n 3, 1) := by decide +kernel
theorem d_Mo_wanted_52 : decode b_Mo_wanted 52 = .ok (.aload_n 0, 1) := by decide +kernel
theorem d_Mo_wanted_53 : decode b_Mo_wanted 53 = .ok (.getfield 43, 3) := by decide +kernel
theorem d_Mo_wanted_56 : decode b_Mo_wanted 56 = .ok (.iload 4, 2) := by decide +kernel
theorem d_Mo_wanted_58 : decode b_Mo_wanted 58 = .ok (.iaload, 1) := by decide +kernel
theorem d_Mo_wanted_59 : decode b_Mo_wanted 59 = .ok (.iload_n 1, 1) := by decide +kernel
theorem d_Mo_wanted_60 : decode b_Mo_wanted 60 = .ok (.if_icmp .ne 17, 3) := by decide +kernel
theorem d_Mo_wanted_63 : decode b_Mo_wanted 63 = .ok (.aload_n 0, 1) := by decide +kernel
theorem d_Mo_wanted_64 : decode b_Mo_wanted 64 = .ok (.iload 4, 2) := by decide +kernel
theorem d_Mo_wanted_66 : decode b_Mo_wanted 66 = .ok (.invokevirtual 129, 3) := by decide +kernel
theorem d_Mo_wanted_69 : decode b_Mo_wanted 69 = .ok (.iload_n 2, 1) := by decide +kernel
theorem d_Mo_wanted_70 : decode b_Mo_wanted 70 = .ok (.if_icmp .gt 7, 3) := by decide +kernel
theorem d_Mo_wanted_73 : decode b_Mo_wanted 73 = .ok (.iconst 1, 1) := by decide +kernel
theorem d_Mo_wanted_74 : decode b_Mo_wanted 74 = .ok (.goto 4, 3) := by decide +kernel
theorem d_Mo_wanted_77 : decode b_Mo_wanted 77 = .ok (.iconst 0, 1) := by decide +kernel
theorem d_Mo_wanted_78 : decode b_Mo_wanted 78 = .ok (.iadd, 1) := by decide +kernel
theorem d_Mo_wanted_79 : decode b_Mo_wanted 79 = .ok (.istore_n 3, 1) := by decide +kernel
theorem d_Mo_wanted_80 : decode b_Mo_wanted 80 = .ok (.iinc 4 1, 3) := by decide +kernel
theorem d_Mo_wanted_83 : decode b_Mo_wanted 83 = .ok (.goto (-41), 3) := by decide +kernel
theorem d_Mo_wanted_86 : decode b_Mo_wanted 86 = .ok (.iload_n 3, 1) := by decide +kernel
theorem d_Mo_wanted_87 : decode b_Mo_wanted 87 = .ok (.aload_n 0, 1) := by decide +kernel
theorem d_Mo_wanted_88 : decode b_Mo_wanted 88 = .ok (.getfield 76, 3) := by decide +kernel
theorem d_Mo_wanted_91 : decode b_Mo_wanted 91 = .ok (.iload_n 1, 1) := by decide +kernel
theorem d_Mo_wanted_92 : decode b_Mo_wanted 92 = .ok (.iaload, 1) := by decide +kernel
theorem d_Mo_wanted_93 : decode b_Mo_wanted 93 = .ok (.if_icmp .le 14, 3) := by decide +kernel
theorem d_Mo_wanted_96 : decode b_Mo_wanted 96 = .ok (.iload_n 3, 1) := by decide +kernel
theorem d_Mo_wanted_97 : decode b_Mo_wanted 97 = .ok (.aload_n 0, 1) := by decide +kernel
theorem d_Mo_wanted_98 : decode b_Mo_wanted 98 = .ok (.getfield 76, 3) := by decide +kernel
theorem d_Mo_wanted_101 : decode b_Mo_wanted 101 = .ok (.iload_n 1, 1) := by decide +kernel
theorem d_Mo_wanted_102 : decode b_Mo_wanted 102 = .ok (.iaload, 1) := by decide +kernel
theorem d_Mo_wanted_103 : decode b_Mo_wanted 103 = .ok (.isub, 1) := by decide +kernel
theorem d_Mo_wanted_104 : decode b_Mo_wanted 104 = .ok (.goto 4, 3) := by decide +kernel
theorem d_Mo_wanted_107 : decode b_Mo_wanted 107 = .ok (.iconst 0, 1) := by decide +kernel
theorem d_Mo_wanted_108 : decode b_Mo_wanted 108 = .ok (.ireturn, 1) := by decide +kernel
end
section
theorem d_La_cell_0 : decode b_La_cell 0 = .ok (.iload_n 1, 1) := by decide +kernel
theorem d_La_cell_1 : decode b_La_cell 1 = .ok (.aload_n 0, 1) := by decide +kernel
theorem d_La_cell_2 : decode b_La_cell 2 = .ok (.arraylength, 1) := by decide +kernel
theorem d_La_cell_3 : decode b_La_cell 3 = .ok (.if_icmp .ge 9, 3) := by decide +kernel
theorem d_La_cell_6 : decode b_La_cell 6 = .ok (.aload_n 0, 1) := by decide +kernel
theorem d_La_cell_7 : decode b_La_cell 7 = .ok (.iload_n 1, 1) := by decide +kernel
theorem d_La_cell_8 : decode b_La_cell 8 = .ok (.iaload, 1) := by decide +kernel
theorem d_La_cell_9 : decode b_La_cell 9 = .ok (.goto 4, 3) := by decide +kernel
theorem d_La_cell_12 : decode b_La_cell 12 = .ok (.iconst 0, 1) := by decide +kernel
theorem d_La_cell_13 : decode b_La_cell 13 = .ok (.ireturn, 1) := by decide +kernel
theorem d_La_place_0 : decode b_La_place 0 = .ok (.aload 4, 2) := by decide +kernel
theorem d_La_place_2 : decode b_La_place 2 = .ok (.iconst 0, 1) := by decide +kernel
theorem d_La_place_3 : decode b_La_place 3 = .ok (.aload_n 0, 1) := by decide +kernel
theorem d_La_place_4 : decode b_La_place 4 = .ok (.iload_n 1, 1) := by decide +kernel
theorem d_La_place_5 : decode b_La_place 5 = .ok (.iload_n 2, 1) := by decide +kernel
theorem d_La_place_6 : decode b_La_place 6 = .ok (.iload_n 3, 1) := by decide +kernel
theorem d_La_place_7 : decode b_La_place 7 = .ok (.invokevirtual 7, 3) := by decide +kernel
theorem d_La_place_10 : decode b_La_place 10 = .ok (.i2l, 1) := by decide +kernel
theorem d_La_place_11 : decode b_La_place 11 = .ok (.lastore, 1) := by decide +kernel
theorem d_La_place_12 : decode b_La_place 12 = .ok (.goto 11, 3) := by decide +kernel
theorem d_La_place_15 : decode b_La_place 15 = .ok (.astore 5, 2) := by decide +kernel
theorem d_La_place_17 : decode b_La_place 17 = .ok (.iconst 1, 1) := by decide +kernel
theorem d_La_place_18 : decode b_La_place 18 = .ok (.ireturn, 1) := by decide +kernel
theorem d_La_place_19 : decode b_La_place 19 = .ok (.astore 5, 2) := by decide +kernel
theorem d_La_place_21 : decode b_La_place 21 = .ok (.iconst 2, 1) := by decide +kernel
theorem d_La_place_22 : decode b_La_place 22 = .ok (.ireturn, 1) := by decide +kernel
theorem d_La_place_23 : decode b_La_place 23 = .ok (.iconst 0, 1) := by decide +kernel
theorem d_La_place_24 : decode b_La_place 24 = .ok (.ireturn, 1) := by decide +kernel
theorem d_La_lift_0 : decode b_La_lift 0 = .ok (.aload 7, 2) := by decide +kernel
theorem d_La_lift_2 : decode b_La_lift 2 = .ok (.iconst 0, 1) := by decide +kernel
theorem d_La_lift_3 : decode b_La_lift 3 = .ok (.aload_n 0, 1) := by decide +kernel
theorem d_La_lift_4 : decode b_La_lift 4 = .ok (.iload_n 1, 1) := by decide +kernel
theorem d_La_lift_5 : decode b_La_lift 5 = .ok (.iload_n 2, 1) := by decide +kernel
theorem d_La_lift_6 : decode b_La_lift 6 = .ok (.iload_n 3, 1) := by decide +kernel
theorem d_La_lift_7 : decode b_La_lift 7 = .ok (.iload 4, 2) := by decide +kernel
theorem d_La_lift_9 : decode b_La_lift 9 = .ok (.iload 5, 2) := by decide +kernel
theorem d_La_lift_11 : decode b_La_lift 11 = .ok (.iload 6, 2) := by decide +kernel
theorem d_La_lift_13 : decode b_La_lift 13 = .ok (.invokevirtual 17, 3) := by decide +kernel
theorem d_La_lift_16 : decode b_La_lift 16 = .ok (.i2l, 1) := by decide +kernel
theorem d_La_lift_17 : decode b_La_lift 17 = .ok (.lastore, 1) := by decide +kernel
theorem d_La_lift_18 : decode b_La_lift 18 = .ok (.goto 11, 3) := by decide +kernel
theorem d_La_lift_21 : decode b_La_lift 21 = .ok (.astore 8, 2) := by decide +kernel
theorem d_La_lift_23 : decode b_La_lift 23 = .ok (.iconst 1, 1) := by decide +kernel
theorem d_La_lift_24 : decode b_La_lift 24 = .ok (.ireturn, 1) := by decide +kernel
theorem d_La_lift_25 : decode b_La_lift 25 = .ok (.astore 8, 2) := by decide +kernel
theorem d_La_lift_27 : decode b_La_lift 27 = .ok (.iconst 2, 1) := by decide +kernel
theorem d_La_lift_28 : decode b_La_lift 28 = .ok (.ireturn, 1) := by decide +kernel
theorem d_La_lift_29 : decode b_La_lift 29 = .ok (.iconst 0, 1) := by decide +kernel
theorem d_La_lift_30 : decode b_La_lift 30 = .ok (.ireturn, 1) := by decide +kernel
theorem d_La_part_0 : decode b_La_part 0 = .ok (.aload 7, 2) := by decide +kernel
theorem d_La_part_2 : decode b_La_part 2 = .ok (.iconst 0, 1) := by decide +kernel
theorem d_La_part_3 : decode b_La_part 3 = .ok (.aload_n 0, 1) := by decide +kernel
theorem d_La_part_4 : decode b_La_part 4 = .ok (.iload_n 1, 1) := by decide +kernel
theorem d_La_part_5 : decode b_La_part 5 = .ok (.iload_n 2, 1) := by decide +kernel
theorem d_La_part_6 : decode b_La_part 6 = .ok (.iload_n 3, 1) := by decide +kernel
theorem d_La_part_7 : decode b_La_part 7 = .ok (.iload 4, 2) := by decide +kernel
theorem d_La_part_9 : decode b_La_part 9 = .ok (.iload 5, 2) := by decide +kernel
theorem d_La_part_11 : decode b_La_part 11 = .ok (.iload 6, 2) := by decide +kernel
theorem d_La_part_13 : decode b_La_part 13 = .ok (.invokevirtual 21, 3) := by decide +kernel
theorem d_La_part_16 : decode b_La_part 16 = .ok (.i2l, 1) := by decide +kernel
theorem d_La_part_17 : decode b_La_part 17 = .ok (.lastore, 1) := by decide +kernel
theorem d_La_part_18 : decode b_La_part 18 = .ok (.goto 11, 3) := by decide +kernel
theorem d_La_part_21 : decode b_La_part 21 = .ok (.astore 8, 2) := by decide +kernel
theorem d_La_part_23 : decode b_La_part 23 = .ok (.iconst 1, 1) := by decide +kernel
theorem d_La_part_24 : decode b_La_part 24 = .ok (.ireturn, 1) := by decide +kernel
theorem d_La_part_25 : decode b_La_part 25 = .ok (.astore 8, 2) := by decide +kernel
theorem d_La_part_27 : decode b_La_part 27 = .ok (.iconst 2, 1) := by decide +kernel
theorem d_La_part_28 : decode b_La_part 28 = .ok (.ireturn, 1) := by decide +kernel
theorem d_La_part_29 : decode b_La_part 29 = .ok (.iconst 0, 1) := by decide +kernel
theorem d_La_part_30 : decode b_La_part 30 = .ok (.ireturn, 1) := by decide +kernel
theorem d_La_person_0 : decode b_La_person 0 = .ok (.aload 4, 2) := by decide +kernel
theorem d_La_person_2 : decode b_La_person 2 = .ok (.iconst 0, 1) := by decide +kernel
theorem d_La_person_3 : decode b_La_person 3 = .ok (.aload_n 0, 1) := by decide +kernel
theorem d_La_person_4 : decode b_La_person 4 = .ok (.iload_n 1, 1) := by decide +kernel
theorem d_La_person_5 : decode b_La_person 5 = .ok (.iload_n 2, 1) := by decide +kernel
theorem d_La_person_6 : decode b_La_person 6 = .ok (.iload_n 3, 1) := by decide +kernel
theorem d_La_person_7 : decode b_La_person 7 = .ok (.invokevirtual 24, 3) := by decide +kernel
theorem d_La_person_10 : decode b_La_person 10 = .ok (.i2l, 1) := by decide +kernel
theorem d_La_person_11 : decode b_La_person 11 = .ok (.lastore, 1) := by decide +kernel
theorem d_La_person_12 : decode b_La_person 12 = .ok (.goto 11, 3) := by decide +kernel
theorem d_La_person_15 : decode b_La_person 15 = .ok (.astore 5, 2) := by decide +kernel
theorem d_La_person_17 : decode b_La_person 17 = .ok (.iconst 1, 1) := by decide +kernel
theorem d_La_person_18 : decode b_La_person 18 = .ok (.ireturn, 1) := by decide +kernel
theorem d_La_person_19 : decode b_La_person 19 = .ok (.astore 5, 2) := by decide +kernel
theorem d_La_person_21 : decode b_La_person 21 = .ok (.iconst 2, 1) := by decide +kernel
theorem d_La_person_22 : decode b_La_person 22 = .ok (.ireturn, 1) := by decide +kernel
theorem d_La_person_23 : decode b_La_person 23 = .ok (.iconst 0, 1) := by decide +kernel
theorem d_La_person_24 : decode b_La_person 24 = .ok (.ireturn, 1) := by decide +kernel
theorem d_La_used_0 : decode b_La_used 0 = .ok (.aload 4, 2) := by decide +kernel
theorem d_La_used_2 : decode b_La_used 2 = .ok (.iconst 0, 1) := by decide +kernel
theorem d_La_used_3 : decode b_La_used 3 = .ok (.aload_n 0, 1) := by decide +kernel
theorem d_La_used_4 : decode b_La_used 4 = .ok (.iload_n 1, 1) := by decide +kernel
theorem d_La_used_5 : decode b_La_used 5 = .ok (.iload_n 2, 1) := by decide +kernel
theorem d_La_used_6 : decode b_La_used 6 = .ok (.iload_n 3, 1) := by decide +kernel
theorem d_La_used_7 : decode b_La_used 7 = .ok (.invokevirtual 27, 3) := by decide +kernel
theorem d_La_used_10 : decode b_La_used 10 = .ok (.i2l, 1) := by decide +kernel
theorem d_La_used_11 : decode b_La_used 11 = .ok (.lastore, 1) := by decide +kernel
theorem d_La_used_12 : decode b_La_used 12 = .ok (.goto 7, 3) := by decide +kernel
theorem d_La_used_15 : decode b_La_used 15 = .ok (.astore 5, 2) := by decide +kernel
theorem d_La_used_17 : decode b_La_used 17 = .ok (.iconst 1, 1) := by decide +kernel
theorem d_La_used_18 : decode b_La_used 18 = .ok (.ireturn, 1) := by decide +kernel
theorem d_La_used_19 : decode b_La_used 19 = .ok (.iconst 0, 1) := by decide +kernel
theorem d_La_used_20 : decode b_La_used 20 = .ok (.ireturn, 1) := by decide +kernel
theorem d_La_stock_0 : decode b_La_stock 0 = .ok (.aload_n 3, 1) := by decide +kernel
theorem d_La_stock_1 : decode b_La_stock 1 = .ok (.iconst 0, 1) := by decide +kernel
theorem d_La_stock_2 : decode b_La_stock 2 = .ok (.aload_n 0, 1) := by decide +kernel
theorem d_La_stock_3 : decode b_La_stock 3 = .ok (.iload_n 1, 1) := by decide +kernel
theorem d_La_stock_4 : decode b_La_stock 4 = .ok (.iload_n 2, 1) := by decide +kernel
theorem d_La_stock_5 : decode b_La_stock 5 = .ok (.invokevirtual 30, 3) := by decide +kernel
theorem d_La_stock_8 : decode b_La_stock 8 = .ok (.i2l, 1) := by decide +kernel
theorem d_La_stock_9 : decode b_La_stock 9 = .ok (.lastore, 1) := by decide +kernel
theorem d_La_stock_10 : decode b_La_stock 10 = .ok (.goto 7, 3) := by decide +kernel
theorem d_La_stock_13 : decode b_La_stock 13 = .ok (.astore 4, 2) := by decide +kernel
theorem d_La_stock_15 : decode b_La_stock 15 = .ok (.iconst 1, 1) := by decide +kernel
theorem d_La_stock_16 : decode b_La_stock 16 = .ok (.ireturn, 1) := by decide +kernel
theorem d_La_stock_17 : decode b_La_stock 17 = .ok (.iconst 0, 1) := by decide +kernel
theorem d_La_stock_18 : decode b_La_stock 18 = .ok (.ireturn, 1) := by decide +kernel
theorem d_La_walk_0 : decode b_La_walk 0 = .ok (.aload_n 3, 1) := by decide +kernel
theorem d_La_walk_1 : decode b_La_walk 1 = .ok (.iconst 0, 1) := by decide +kernel
theorem d_La_walk_2 : decode b_La_walk 2 = .ok (.aload_n 0, 1) := by decide +kernel
theorem d_La_walk_3 : decode b_La_walk 3 = .ok (.iload_n 1, 1) := by decide +kernel
theorem d_La_walk_4 : decode b_La_walk 4 = .ok (.iload_n 2, 1) := by decide +kernel
theorem d_La_walk_5 : decode b_La_walk 5 = .ok (.invokevirtual 34, 3) := by decide +kernel
theorem d_La_walk_8 : decode b_La_walk 8 = .ok (.i2l, 1) := by decide +kernel
theorem d_La_walk_9 : decode b_La_walk 9 = .ok (.lastore, 1) := by decide +kernel
theorem d_La_walk_10 : decode b_La_walk 10 = .ok (.goto 7, 3) := by decide +kernel
theorem d_La_walk_13 : decode b_La_walk 13 = .ok (.astore 4, 2) := by decide +kernel
theorem d_La_walk_15 : decode b_La_walk 15 = .ok (.iconst 1, 1) := by decide +kernel
theorem d_La_walk_16 : decode b_La_walk 16 = .ok (.ireturn, 1) := by decide +kernel
theorem d_La_walk_17 : decode b_La_walk 17 = .ok (.iconst 0, 1) := by decide +kernel
theorem d_La_walk_18 : decode b_La_walk 18 = .ok (.ireturn, 1) := by decide +kernel
theorem d_La_tour_0 : decode b_La_tour 0 = .ok (.aload_n 3, 1) := by decide +kernel
theorem d_La_tour_1 : decode b_La_tour 1 = .ok (.iconst 0, 1) := by decide +kernel
theorem d_La_tour_2 : decode b_La_tour 2 = .ok (.aload_n 0, 1) := by decide +kernel
theorem d_La_tour_3 : decode b_La_tour 3 = .ok (.iload_n 1, 1) := by decide +kernel
theorem d_La_tour_4 : decode b_La_tour 4 = .ok (.iload_n 2, 1) := by decide +kernel
theorem d_La_tour_5 : decode b_La_tour 5 = .ok (.invokevirtual 37, 3) := by decide +kernel
theorem d_La_tour_8 : decode b_La_tour 8 = .ok (.i2l, 1) := by decide +kernel
theorem d_La_tour_9 : decode b_La_tour 9 = .ok (.lastore, 1) := by decide +kernel
theorem d_La_tour_10 : decode b_La_tour 10 = .ok (.goto 7, 3) := by decide +kernel
theorem d_La_tour_13 : decode b_La_tour 13 = .ok (.astore 4, 2) := by decide +kernel
theorem d_La_tour_15 : decode b_La_tour 15 = .ok (.iconst 1, 1) := by decide +kernel
theorem d_La_tour_16 : decode b_La_tour 16 = .ok (.ireturn, 1) := by decide +kernel
theorem d_La_tour_17 : decode b_La_tour 17 = .ok (.iconst 0, 1) := by decide +kernel
theorem d_La_tour_18 : decode b_La_tour 18 = .ok (.ireturn, 1) := by decide +kernel
theorem d_La_stop_0 : decode b_La_stop 0 = .ok (.aload_n 2, 1) := by decide +kernel
theorem d_La_stop_1 : decode b_La_stop 1 = .ok (.iconst 0, 1) := by decide +kernel
theorem d_La_stop_2 : decode b_La_stop 2 = .ok (.aload_n 0, 1) := by decide +kernel
theorem d_La_stop_3 : decode b_La_stop 3 = .ok (.iload_n 1, 1) := by decide +kernel
theorem d_La_stop_4 : decode b_La_stop 4 = .ok (.invokevirtual 40, 3) := by decide +kernel
theorem d_La_stop_7 : decode b_La_stop 7 = .ok (.i2l, 1) := by decide +kernel
theorem d_La_stop_8 : decode b_La_stop 8 = .ok (.lastore, 1) := by decide +kernel
theorem d_La_stop_9 : decode b_La_stop 9 = .ok (.goto 6, 3) := by decide +kernel
theorem d_La_stop_12 : decode b_La_stop 12 = .ok (.astore_n 3, 1) := by decide +kernel
theorem d_La_stop_13 : decode b_La_stop 13 = .ok (.iconst 1, 1) := by decide +kernel
theorem d_La_stop_14 : decode b_La_stop 14 = .ok (.ireturn, 1) := by decide +kernel
theorem d_La_stop_15 : decode b_La_stop 15 = .ok (.iconst 0, 1) := by decide +kernel
theorem d_La_stop_16 : decode b_La_stop 16 = .ok (.ireturn, 1) := by decide +kernel
theorem d_La_told_0 : decode b_La_told 0 = .ok (.aload_n 2, 1) := by decide +kernel
theorem d_La_told_1 : decode b_La_told 1 = .ok (.iconst 0, 1) := by decide +kernel
theorem d_La_told_2 : decode b_La_told 2 = .ok (.aload_n 0, 1) := by decide +kernel
theorem d_La_told_3 : decode b_La_told 3 = .ok (.iload_n 1, 1) := by decide +kernel
theorem d_La_told_4 : decode b_La_told 4 = .ok (.invokevirtual 44, 3) := by decide +kernel
theorem d_La_told_7 : decode b_La_told 7 = .ok (.i2l, 1) := by decide +kernel
theorem d_La_told_8 : decode b_La_told 8 = .ok (.lastore, 1) := by decide +kernel
theorem d_La_told_9 : decode b_La_told 9 = .ok (.goto 6, 3) := by decide +kernel
theorem d_La_told_12 : decode b_La_told 12 = .ok (.astore_n 3, 1) := by decide +kernel
theorem d_La_told_13 : decode b_La_told 13 = .ok (.iconst 1, 1) := by decide +kernel
theorem d_La_told_14 : decode b_La_told 14 = .ok (.ireturn, 1) := by decide +kernel
theorem d_La_told_15 : decode b_La_told 15 = .ok (.iconst 0, 1) := by decide +kernel
theorem d_La_told_16 : decode b_La_told 16 = .ok (.ireturn, 1) := by decide +kernel
theorem d_La_put_0 : decode b_La_put 0 = .ok (.aload_n 2, 1) := by decide +kernel
theorem d_La_put_1 : decode b_La_put 1 = .ok (.iconst 0, 1) := by decide +kernel
theorem d_La_put_2 : decode b_La_put 2 = .ok (.aload_n 0, 1) := by decide +kernel
theorem d_La_put_3 : decode b_La_put 3 = .ok (.iload_n 1, 1) := by decide +kernel
theorem d_La_put_4 : decode b_La_put 4 = .ok (.invokevirtual 47, 3) := by decide +kernel
theorem d_La_put_7 : decode b_La_put 7 = .ok (.i2l, 1) := by decide +kernel
theorem d_La_put_8 : decode b_La_put 8 = .ok (.lastore, 1) := by decide +kernel
theorem d_La_put_9 : decode b_La_put 9 = .ok (.goto 9, 3) := by decide +kernel
theorem d_La_put_12 : decode b_La_put 12 = .ok (.astore_n 3, 1) := by decide +kernel
theorem d_La_put_13 : decode b_La_put 13 = .ok (.iconst 1, 1) := by decide +kernel
theorem d_La_put_14 : decode b_La_put 14 = .ok (.ireturn, 1) := by decide +kernel
theorem d_La_put_15 : decode b_La_put 15 = .ok (.astore_n 3, 1) := by decide +kernel
theorem d_La_put_16 : decode b_La_put 16 = .ok (.iconst 2, 1) := by decide +kernel
theorem d_La_put_17 : decode b_La_put 17 = .ok (.ireturn, 1) := by decide +kernel
theorem d_La_put_18 : decode b_La_put 18 = .ok (.iconst 0, 1) := by decide +kernel
theorem d_La_put_19 : decode b_La_put 19 = .ok (.ireturn, 1) := by decide +kernel
theorem d_La_done_0 : decode b_La_done 0 = .ok (.aload_n 1, 1) := by decide +kernel
theorem d_La_done_1 : decode b_La_done 1 = .ok (.iconst 0, 1) := by decide +kernel
theorem d_La_done_2 : decode b_La_done 2 = .ok (.aload_n 0, 1) := by decide +kernel
theorem d_La_done_3 : decode b_La_done 3 = .ok (.invokevirtual 50, 3) := by decide +kernel
theorem d_La_done_6 : decode b_La_done 6 = .ok (.i2l, 1) := by decide +kernel
theorem d_La_done_7 : decode b_La_done 7 = .ok (.lastore, 1) := by decide +kernel
theorem d_La_done_8 : decode b_La_done 8 = .ok (.goto 6, 3) := by decide +kernel
theorem d_La_done_11 : decode b_La_done 11 = .ok (.astore_n 2, 1) := by decide +kernel
theorem d_La_done_12 : decode b_La_done 12 = .ok (.iconst 1, 1) := by decide +kernel
theorem d_La_done_13 : decode b_La_done 13 = .ok (.ireturn, 1) := by decide +kernel
theorem d_La_done_14 : decode b_La_done 14 = .ok (.iconst 0, 1) := by decide +kernel
theorem d_La_done_15 : decode b_La_done 15 = .ok (.ireturn, 1) := by decide +kernel
theorem d_La_due_0 : decode b_La_due 0 = .ok (.aload_n 2, 1) := by decide +kernel
theorem d_La_due_1 : decode b_La_due 1 = .ok (.iconst 0, 1) := by decide +kernel
theorem d_La_due_2 : decode b_La_due 2 = .ok (.aload_n 0, 1) := by decide +kernel
theorem d_La_due_3 : decode b_La_due 3 = .ok (.iload_n 1, 1) := by decide +kernel
theorem d_La_due_4 : decode b_La_due 4 = .ok (.invokevirtual 54, 3) := by decide +kernel
theorem d_La_due_7 : decode b_La_due 7 = .ok (.i2l, 1) := by decide +kernel
theorem d_La_due_8 : decode b_La_due 8 = .ok (.lastore, 1) := by decide +kernel
theorem d_La_due_9 : decode b_La_due 9 = .ok (.goto 6, 3) := by decide +kernel
theorem d_La_due_12 : decode b_La_due 12 = .ok (.astore_n 3, 1) := by decide +kernel
theorem d_La_due_13 : decode b_La_due 13 = .ok (.iconst 1, 1) := by decide +kernel
theorem d_La_due_14 : decode b_La_due 14 = .ok (.ireturn, 1) := by decide +kernel
theorem d_La_due_15 : decode b_La_due 15 = .ok (.iconst 0, 1) := by decide +kernel
theorem d_La_due_16 : decode b_La_due 16 = .ok (.ireturn, 1) := by decide +kernel
theorem d_La_late_0 : decode b_La_late 0 = .ok (.aload_n 2, 1) := by decide +kernel
theorem d_La_late_1 : decode b_La_late 1 = .ok (.iconst 0, 1) := by decide +kernel
theorem d_La_late_2 : decode b_La_late 2 = .ok (.aload_n 0, 1) := by decide +kernel
theorem d_La_late_3 : decode b_La_late 3 = .ok (.iload_n 1, 1) := by decide +kernel
theorem d_La_late_4 : decode b_La_late 4 = .ok (.invokevirtual 57, 3) := by decide +kernel
theorem d_La_late_7 : decode b_La_late 7 = .ok (.i2l, 1) := by decide +kernel
theorem d_La_late_8 : decode b_La_late 8 = .ok (.lastore, 1) := by decide +kernel
theorem d_La_late_9 : decode b_La_late 9 = .ok (.goto 6, 3) := by decide +kernel
theorem d_La_late_12 : decode b_La_late 12 = .ok (.astore_n 3, 1) := by decide +kernel
theorem d_La_late_13 : decode b_La_late 13 = .ok (.iconst 1, 1) := by decide +kernel
theorem d_La_late_14 : decode b_La_late 14 = .ok (.ireturn, 1) := by decide +kernel
theorem d_La_late_15 : decode b_La_late 15 = .ok (.iconst 0, 1) := by decide +kernel
theorem d_La_late_16 : decode b_La_late 16 = .ok (.ireturn, 1) := by decide +kernel
theorem d_La_fine_0 : decode b_La_fine 0 = .ok (.aload_n 3, 1) := by decide +kernel
theorem d_La_fine_1 : decode b_La_fine 1 = .ok (.iconst 0, 1) := by decide +kernel
theorem d_La_fine_2 : decode b_La_fine 2 = .ok (.aload_n 0, 1) := by decide +kernel
theorem d_La_fine_3 : decode b_La_fine 3 = .ok (.iload_n 1, 1) := by decide +kernel
theorem d_La_fine_4 : decode b_La_fine 4 = .ok (.iload_n 2, 1) := by decide +kernel
theorem d_La_fine_5 : decode b_La_fine 5 = .ok (.invokevirtual 60, 3) := by decide +kernel
theorem d_La_fine_8 : decode b_La_fine 8 = .ok (.i2l, 1) := by decide +kernel
theorem d_La_fine_9 : decode b_La_fine 9 = .ok (.lastore, 1) := by decide +kernel
theorem d_La_fine_10 : decode b_La_fine 10 = .ok (.goto 7, 3) := by decide +kernel
theorem d_La_fine_13 : decode b_La_fine 13 = .ok (.astore 4, 2) := by decide +kernel
theorem d_La_fine_15 : decode b_La_fine 15 = .ok (.iconst 1, 1) := by decide +kernel
theorem d_La_fine_16 : decode b_La_fine 16 = .ok (.ireturn, 1) := by decide +kernel
theorem d_La_fine_17 : decode b_La_fine 17 = .ok (.iconst 0, 1) := by decide +kernel
theorem d_La_fine_18 : decode b_La_fine 18 = .ok (.ireturn, 1) := by decide +kernel
theorem d_La_wanted_0 : decode b_La_wanted 0 = .ok (.aload_n 3, 1) := by decide +kernel
theorem d_La_wanted_1 : decode b_La_wanted 1 = .ok (.iconst 0, 1) := by decide +kernel
theorem d_La_wanted_2 : decode b_La_wanted 2 = .ok (.aload_n 0, 1) := by decide +kernel
theorem d_La_wanted_3 : decode b_La_wanted 3 = .ok (.iload_n 1, 1) := by decide +kernel
theorem d_La_wanted_4 : decode b_La_wanted 4 = .ok (.iload_n 2, 1) := by decide +kernel
theorem d_La_wanted_5 : decode b_La_wanted 5 = .ok (.invokevirtual 63, 3) := by decide +kernel
theorem d_La_wanted_8 : decode b_La_wanted 8 = .ok (.i2l, 1) := by decide +kernel
theorem d_La_wanted_9 : decode b_La_wanted 9 = .ok (.lastore, 1) := by decide +kernel
theorem d_La_wanted_10 : decode b_La_wanted 10 = .ok (.goto 7, 3) := by decide +kernel
theorem d_La_wanted_13 : decode b_La_wanted 13 = .ok (.astore 4, 2) := by decide +kernel
theorem d_La_wanted_15 : decode b_La_wanted 15 = .ok (.iconst 1, 1) := by decide +kernel
theorem d_La_wanted_16 : decode b_La_wanted 16 = .ok (.ireturn, 1) := by decide +kernel
theorem d_La_wanted_17 : decode b_La_wanted 17 = .ok (.iconst 0, 1) := by decide +kernel
theorem d_La_wanted_18 : decode b_La_wanted 18 = .ok (.ireturn, 1) := by decide +kernel
theorem d_La_law_0 : decode b_La_law 0 = .ok (.new 8, 3) := by decide +kernel
theorem d_La_law_3 : decode b_La_law 3 = .ok (.dup, 1) := by decide +kernel
theorem d_La_law_4 : decode b_La_law 4 = .ok (.aload_n 0, 1) := by decide +kernel
theorem d_La_law_5 : decode b_La_law 5 = .ok (.iconst 0, 1) := by decide +kernel
theorem d_La_law_6 : decode b_La_law 6 = .ok (.invokestatic 66, 3) := by decide +kernel
theorem d_La_law_9 : decode b_La_law 9 = .ok (.invokespecial 72, 3) := by decide +kernel
theorem d_La_law_12 : decode b_La_law 12 = .ok (.astore_n 1, 1) := by decide +kernel
theorem d_La_law_13 : decode b_La_law 13 = .ok (.new 75, 3) := by decide +kernel
theorem d_La_law_16 : decode b_La_law 16 = .ok (.dup, 1) := by decide +kernel
theorem d_La_law_17 : decode b_La_law 17 = .ok (.aload_n 0, 1) := by decide +kernel
theorem d_La_law_18 : decode b_La_law 18 = .ok (.iconst 0, 1) := by decide +kernel
theorem d_La_law_19 : decode b_La_law 19 = .ok (.invokestatic 66, 3) := by decide +kernel
theorem d_La_law_22 : decode b_La_law 22 = .ok (.invokespecial 77, 3) := by decide +kernel
theorem d_La_law_25 : decode b_La_law 25 = .ok (.astore_n 2, 1) := by decide +kernel
theorem d_La_law_26 : decode b_La_law 26 = .ok (.iconst 1, 1) := by decide +kernel
theorem d_La_law_27 : decode b_La_law 27 = .ok (.newarray .long, 2) := by decide +kernel
theorem d_La_law_29 : decode b_La_law 29 = .ok (.astore_n 3, 1) := by decide +kernel
theorem d_La_law_30 : decode b_La_law 30 = .ok (.iconst 1, 1) := by decide +kernel
theorem d_La_law_31 : decode b_La_law 31 = .ok (.istore 4, 2) := by decide +kernel
theorem d_La_law_33 : decode b_La_law 33 = .ok (.iload 4, 2) := by decide +kernel
theorem d_La_law_35 : decode b_La_law 35 = .ok (.aload_n 0, 1) := by decide +kernel
theorem d_La_law_36 : decode b_La_law 36 = .ok (.arraylength, 1) := by decide +kernel
theorem d_La_law_37 : decode b_La_law 37 = .ok (.bipush 7, 2) := by decide +kernel
theorem d_La_law_39 : decode b_La_law 39 = .ok (.isub, 1) := by decide +kernel
theorem d_La_law_40 : decode b_La_law 40 = .ok (.if_icmp .gt 1234, 3) := by decide +kernel
theorem d_La_law_43 : decode b_La_law 43 = .ok (.aload_n 0, 1) := by decide +kernel
theorem d_La_law_44 : decode b_La_law 44 = .ok (.iload 4, 2) := by decide +kernel
theorem d_La_law_46 : decode b_La_law 46 = .ok (.iaload, 1) := by decide +kernel
theorem d_La_law_47 : decode b_La_law 47 = .ok (.bipush 15, 2) := by decide +kernel
theorem d_La_law_49 : decode b_La_law 49 = .ok (.iand, 1) := by decide +kernel
theorem d_La_law_50 : decode b_La_law 50 = .ok (.tableswitch 1218 0 15 #[78, 158, 276, 394, 474, 554, 622, 690, 758, 814, 870, 926, 970, 1026, 1082, 1150], 78) := by decide +kernel
theorem d_La_law_128 : decode b_La_law 128 = .ok (.aload_n 1, 1) := by decide +kernel
theorem d_La_law_129 : decode b_La_law 129 = .ok (.aload_n 0, 1) := by decide +kernel
theorem d_La_law_130 : decode b_La_law 130 = .ok (.iload 4, 2) := by decide +kernel
theorem d_La_law_132 : decode b_La_law 132 = .ok (.iconst 1, 1) := by decide +kernel
theorem d_La_law_133 : decode b_La_law 133 = .ok (.iadd, 1) := by decide +kernel
theorem d_La_law_134 : decode b_La_law 134 = .ok (.iaload, 1) := by decide +kernel
theorem d_La_law_135 : decode b_La_law 135 = .ok (.aload_n 0, 1) := by decide +kernel
theorem d_La_law_136 : decode b_La_law 136 = .ok (.iload 4, 2) := by decide +kernel
theorem d_La_law_138 : decode b_La_law 138 = .ok (.iconst 2, 1) := by decide +kernel
theorem d_La_law_139 : decode b_La_law 139 = .ok (.iadd, 1) := by decide +kernel
theorem d_La_law_140 : decode b_La_law 140 = .ok (.iaload, 1) := by decide +kernel
theorem d_La_law_141 : decode b_La_law 141 = .ok (.aload_n 0, 1) := by decide +kernel
theorem d_La_law_142 : decode b_La_law 142 = .ok (.iload 4, 2) := by decide +kernel
theorem d_La_law_144 : decode b_La_law 144 = .ok (.iconst 3, 1) := by decide +kernel
theorem d_La_law_145 : decode b_La_law 145 = .ok (.iadd, 1) := by decide +kernel
theorem d_La_law_146 : decode b_La_law 146 = .ok (.iaload, 1) := by decide +kernel
theorem d_La_law_147 : decode b_La_law 147 = .ok (.aload_n 3, 1) := by decide +kernel
theorem d_La_law_148 : decode b_La_law 148 = .ok (.invokestatic 78, 3) := by decide +kernel
theorem d_La_law_151 : decode b_La_law 151 = .ok (.istore 5, 2) := by decide +kernel
theorem d_La_law_153 : decode b_La_law 153 = .ok (.aload_n 2, 1) := by decide +kernel
theorem d_La_law_154 : decode b_La_law 154 = .ok (.aload_n 0, 1) := by decide +kernel
theorem d_La_law_155 : decode b_La_law 155 = .ok (.iload 4, 2) := by decide +kernel
theorem d_La_law_157 : decode b_La_law 157 = .ok (.iconst 1, 1) := by decide +kernel
theorem d_La_law_158 : decode b_La_law 158 = .ok (.iadd, 1) := by decide +kernel
theorem d_La_law_159 : decode b_La_law 159 = .ok (.iaload, 1) := by decide +kernel
theorem d_La_law_160 : decode b_La_law 160 = .ok (.aload_n 0, 1) := by decide +kernel
theorem d_La_law_161 : decode b_La_law 161 = .ok (.iload 4, 2) := by decide +kernel
theorem d_La_law_163 : decode b_La_law 163 = .ok (.iconst 2, 1) := by decide +kernel
theorem d_La_law_164 : decode b_La_law 164 = .ok (.iadd, 1) := by decide +kernel
theorem d_La_law_165 : decode b_La_law 165 = .ok (.iaload, 1) := by decide +kernel
theorem d_La_law_166 : decode b_La_law 166 = .ok (.aload_n 0, 1) := by decide +kernel
theorem d_La_law_167 : decode b_La_law 167 = .ok (.iload 4, 2) := by decide +kernel
theorem d_La_law_169 : decode b_La_law 169 = .ok (.iconst 3, 1) := by decide +kernel
theorem d_La_law_170 : decode b_La_law 170 = .ok (.iadd, 1) := by decide +kernel
theorem d_La_law_171 : decode b_La_law 171 = .ok (.iaload, 1) := by decide +kernel
theorem d_La_law_172 : decode b_La_law 172 = .ok (.invokevirtual 81, 3) := by decide +kernel
theorem d_La_law_175 : decode b_La_law 175 = .ok (.istore 6, 2) := by decide +kernel
theorem d_La_law_177 : decode b_La_law 177 = .ok (.aload_n 2, 1) := by decide +kernel
theorem d_La_law_178 : decode b_La_law 178 = .ok (.invokevirtual 82, 3) := by decide +kernel
theorem d_La_law_181 : decode b_La_law 181 = .ok (.iload 5, 2) := by decide +kernel
theorem d_La_law_183 : decode b_La_law 183 = .ok (.if_icmp .eq 5, 3) := by decide +kernel
theorem d_La_law_186 : decode b_La_law 186 = .ok (.iconst 0, 1) := by decide +kernel
theorem d_La_law_187 : decode b_La_law 187 = .ok (.ireturn, 1) := by decide +kernel
theorem d_La_law_188 : decode b_La_law 188 = .ok (.iload 5, 2) := by decide +kernel
theorem d_La_law_190 : decode b_La_law 190 = .ok (.ifCond .ne 15, 3) := by decide +kernel
theorem d_La_law_193 : decode b_La_law 193 = .ok (.aload_n 3, 1) := by decide +kernel
theorem d_La_law_194 : decode b_La_law 194 = .ok (.iconst 0, 1) := by decide +kernel
theorem d_La_law_195 : decode b_La_law 195 = .ok (.laload, 1) := by decide +kernel
theorem d_La_law_196 : decode b_La_law 196 = .ok (.iload 6, 2) := by decide +kernel
theorem d_La_law_198 : decode b_La_law 198 = .ok (.i2l, 1) := by decide +kernel
theorem d_La_law_199 : decode b_La_law 199 = .ok (.lcmp, 1) := by decide +kernel
theorem d_La_law_200 : decode b_La_law 200 = .ok (.ifCond .eq 5, 3) := by decide +kernel
theorem d_La_law_203 : decode b_La_law 203 = .ok (.iconst 0, 1) := by decide +kernel
theorem d_La_law_204 : decode b_La_law 204 = .ok (.ireturn, 1) := by decide +kernel
theorem d_La_law_205 : decode b_La_law 205 = .ok (.goto 1063, 3) := by decide +kernel
theorem d_La_law_208 : decode b_La_law 208 = .ok (.aload_n 1, 1) := by decide +kernel
theorem d_La_law_209 : decode b_La_law 209 = .ok (.aload_n 0, 1) := by decide +kernel
theorem d_La_law_210 : decode b_La_law 210 = .ok (.iload 4, 2) := by decide +kernel
theorem d_La_law_212 : decode b_La_law 212 = .ok (.iconst 1, 1) := by decide +kernel
theorem d_La_law_213 : decode b_La_law 213 = .ok (.iadd, 1) := by decide +kernel
theorem d_La_law_214 : decode b_La_law 214 = .ok (.iaload, 1) := by decide +kernel
theorem d_La_law_215 : decode b_La_law 215 = .ok (.aload_n 0, 1) := by decide +kernel
theorem d_La_law_216 : decode b_La_law 216 = .ok (.iload 4, 2) := by decide +kernel
theorem d_La_law_218 : decode b_La_law 218 = .ok (.iconst 2, 1) := by decide +kernel
theorem d_La_law_219 : decode b_La_law 219 = .ok (.iadd, 1) := by decide +kernel
theorem d_La_law_220 : decode b_La_law 220 = .ok (.iaload, 1) := by decide +kernel
theorem d_La_law_221 : decode b_La_law 221 = .ok (.aload_n 0, 1) := by decide +kernel
theorem d_La_law_222 : decode b_La_law 222 = .ok (.iload 4, 2) := by decide +kernel
theorem d_La_law_224 : decode b_La_law 224 = .ok (.iconst 3, 1) := by decide +kernel
theorem d_La_law_225 : decode b_La_law 225 = .ok (.iadd, 1) := by decide +kernel
theorem d_La_law_226 : decode b_La_law 226 = .ok (.iaload, 1) := by decide +kernel
theorem d_La_law_227 : decode b_La_law 227 = .ok (.aload_n 0, 1) := by decide +kernel
theorem d_La_law_228 : decode b_La_law 228 = .ok (.iload 4, 2) := by decide +kernel
theorem d_La_law_230 : decode b_La_law 230 = .ok (.iconst 4, 1) := by decide +kernel
theorem d_La_law_231 : decode b_La_law 231 = .ok (.iadd, 1) := by decide +kernel
theorem d_La_law_232 : decode b_La_law 232 = .ok (.iaload, 1) := by decide +kernel
theorem d_La_law_233 : decode b_La_law 233 = .ok (.aload_n 0, 1) := by decide +kernel
theorem d_La_law_234 : decode b_La_law 234 = .ok (.iload 4, 2) := by decide +kernel
theorem d_La_law_236 : decode b_La_law 236 = .ok (.iconst 5, 1) := by decide +kernel
theorem d_La_law_237 : decode b_La_law 237 = .ok (.iadd, 1) := by decide +kernel
theorem d_La_law_238 : decode b_La_law 238 = .ok (.iaload, 1) := by decide +kernel
theorem d_La_law_239 : decode b_La_law 239 = .ok (.aload_n 0, 1) := by decide +kernel
theorem d_La_law_240 : decode b_La_law 240 = .ok (.iload 4, 2) := by decide +kernel
theorem d_La_law_242 : decode b_La_law 242 = .ok (.bipush 6, 2) := by decide +kernel
theorem d_La_law_244 : decode b_La_law 244 = .ok (.iadd, 1) := by decide +kernel
theorem d_La_law_245 : decode b_La_law 245 = .ok (.iaload, 1) := by decide +kernel
theorem d_La_law_246 : decode b_La_law 246 = .ok (.aload_n 3, 1) := by decide +kernel
theorem d_La_law_247 : decode b_La_law 247 = .ok (.invokestatic 85, 3) := by decide +kernel
theorem d_La_law_250 : decode b_La_law 250 = .ok (.istore 5, 2) := by decide +kernel
theorem d_La_law_252 : decode b_La_law 252 = .ok (.aload_n 2, 1) := by decide +kernel
theorem d_La_law_253 : decode b_La_law 253 = .ok (.aload_n 0, 1) := by decide +kernel
theorem d_La_law_254 : decode b_La_law 254 = .ok (.iload 4, 2) := by decide +kernel
theorem d_La_law_256 : decode b_La_law 256 = .ok (.iconst 1, 1) := by decide +kernel
theorem d_La_law_257 : decode b_La_law 257 = .ok (.iadd, 1) := by decide +kernel
theorem d_La_law_258 : decode b_La_law 258 = .ok (.iaload, 1) := by decide +kernel
theorem d_La_law_259 : decode b_La_law 259 = .ok (.aload_n 0, 1) := by decide +kernel
theorem d_La_law_260 : decode b_La_law 260 = .ok (.iload 4, 2) := by decide +kernel
theorem d_La_law_262 : decode b_La_law 262 = .ok (.iconst 2, 1) := by decide +kernel
theorem d_La_law_263 : decode b_La_law 263 = .ok (.iadd, 1) := by decide +kernel
theorem d_La_law_264 : decode b_La_law 264 = .ok (.iaload, 1) := by decide +kernel
theorem d_La_law_265 : decode b_La_law 265 = .ok (.aload_n 0, 1) := by decide +kernel
theorem d_La_law_266 : decode b_La_law 266 = .ok (.iload 4, 2) := by decide +kernel
theorem d_La_law_268 : decode b_La_law 268 = .ok (.iconst 3, 1) := by decide +kernel
theorem d_La_law_269 : decode b_La_law 269 = .ok (.iadd, 1) := by decide +kernel
theorem d_La_law_270 : decode b_La_law 270 = .ok (.iaload, 1) := by decide +kernel
theorem d_La_law_271 : decode b_La_law 271 = .ok (.aload_n 0, 1) := by decide +kernel
theorem d_La_law_272 : decode b_La_law 272 = .ok (.iload 4, 2) := by decide +kernel
theorem d_La_law_274 : decode b_La_law 274 = .ok (.iconst 4, 1) := by decide +kernel
theorem d_La_law_275 : decode b_La_law 275 = .ok (.iadd, 1) := by decide +kernel
theorem d_La_law_276 : decode b_La_law 276 = .ok (.iaload, 1) := by decide +kernel
theorem d_La_law_277 : decode b_La_law 277 = .ok (.aload_n 0, 1) := by decide +kernel
theorem d_La_law_278 : decode b_La_law 278 = .ok (.iload 4, 2) := by decide +kernel
theorem d_La_law_280 : decode b_La_law 280 = .ok (.iconst 5, 1) := by decide +kernel
theorem d_La_law_281 : decode b_La_law 281 = .ok (.iadd, 1) := by decide +kernel
theorem d_La_law_282 : decode b_La_law 282 = .ok (.iaload, 1) := by decide +kernel
theorem d_La_law_283 : decode b_La_law 283 = .ok (.aload_n 0, 1) := by decide +kernel
theorem d_La_law_284 : decode b_La_law 284 = .ok (.iload 4, 2) := by decide +kernel
theorem d_La_law_286 : decode b_La_law 286 = .ok (.bipush 6, 2) := by decide +kernel
theorem d_La_law_288 : decode b_La_law 288 = .ok (.iadd, 1) := by decide +kernel
theorem d_La_law_289 : decode b_La_law 289 = .ok (.iaload, 1) := by decide +kernel
theorem d_La_law_290 : decode b_La_law 290 = .ok (.invokevirtual 88, 3) := by decide +kernel
theorem d_La_law_293 : decode b_La_law 293 = .ok (.istore 6, 2) := by decide +kernel
theorem d_La_law_295 : decode b_La_law 295 = .ok (.aload_n 2, 1) := by decide +kernel
theorem d_La_law_296 : decode b_La_law 296 = .ok (.invokevirtual 82, 3) := by decide +kernel
theorem d_La_law_299 : decode b_La_law 299 = .ok (.iload 5, 2) := by decide +kernel
theorem d_La_law_301 : decode b_La_law 301 = .ok (.if_icmp .eq 5, 3) := by decide +kernel
theorem d_La_law_304 : decode b_La_law 304 = .ok (.iconst 0, 1) := by decide +kernel
theorem d_La_law_305 : decode b_La_law 305 = .ok (.ireturn, 1) := by decide +kernel
theorem d_La_law_306 : decode b_La_law 306 = .ok (.iload 5, 2) := by decide +kernel
theorem d_La_law_308 : decode b_La_law 308 = .ok (.ifCond .ne 15, 3) := by decide +kernel
theorem d_La_law_311 : decode b_La_law 311 = .ok (.aload_n 3, 1) := by decide +kernel
theorem d_La_law_312 : decode b_La_law 312 = .ok (.iconst 0, 1) := by decide +kernel
theorem d_La_law_313 : decode b_La_law 313 = .ok (.laload, 1) := by decide +kernel
theorem d_La_law_314 : decode b_La_law 314 = .ok (.iload 6, 2) := by decide +kernel
theorem d_La_law_316 : decode b_La_law 316 = .ok (.i2l, 1) := by decide +kernel
theorem d_La_law_317 : decode b_La_law 317 = .ok (.lcmp, 1) := by decide +kernel
theorem d_La_law_318 : decode b_La_law 318 = .ok (.ifCond .eq 5, 3) := by decide +kernel
theorem d_La_law_321 : decode b_La_law 321 = .ok (.iconst 0, 1) := by decide +kernel
theorem d_La_law_322 : decode b_La_law 322 = .ok (.ireturn, 1) := by decide +kernel
theorem d_La_law_323 : decode b_La_law 323 = .ok (.goto 945, 3) := by decide +kernel
theorem d_La_law_326 : decode b_La_law 326 = .ok (.aload_n 1, 1) := by decide +kernel
theorem d_La_law_327 : decode b_La_law 327 = .ok (.aload_n 0, 1) := by decide +kernel
theorem d_La_law_328 : decode b_La_law 328 = .ok (.iload 4, 2) := by decide +kernel
theorem d_La_law_330 : decode b_La_law 330 = .ok (.iconst 1, 1) := by decide +kernel
theorem d_La_law_331 : decode b_La_law 331 = .ok (.iadd, 1) := by decide +kernel
theorem d_La_law_332 : decode b_La_law 332 = .ok (.iaload, 1) := by decide +kernel
theorem d_La_law_333 : decode b_La_law 333 = .ok (.aload_n 0, 1) := by decide +kernel
theorem d_La_law_334 : decode b_La_law 334 = .ok (.iload 4, 2) := by decide +kernel
theorem d_La_law_336 : decode b_La_law 336 = .ok (.iconst 2, 1) := by decide +kernel
theorem d_La_law_337 : decode b_La_law 337 = .ok (.iadd, 1) := by decide +kernel
theorem d_La_law_338 : decode b_La_law 338 = .ok (.iaload, 1) := by decide +kernel
theorem d_La_law_339 : decode b_La_law 339 = .ok (.aload_n 0, 1) := by decide +kernel
theorem d_La_law_340 : decode b_La_law 340 = .ok (.iload 4, 2) := by decide +kernel
theorem d_La_law_342 : decode b_La_law 342 = .ok (.iconst 3, 1) := by decide +kernel
theorem d_La_law_343 : decode b_La_law 343 = .ok (.iadd, 1) := by decide +kernel
theorem d_La_law_344 : decode b_La_law 344 = .ok (.iaload, 1) := by decide +kernel
theorem d_La_law_345 : decode b_La_law 345 = .ok (.aload_n 0, 1) := by decide +kernel
theorem d_La_law_346 : decode b_La_law 346 = .ok (.iload 4, 2) := by decide +kernel
theorem d_La_law_348 : decode b_La_law 348 = .ok (.iconst 4, 1) := by decide +kernel
theorem d_La_law_349 : decode b_La_law 349 = .ok (.iadd, 1) := by decide +kernel
theorem d_La_law_350 : decode b_La_law 350 = .ok (.iaload, 1) := by decide +kernel
theorem d_La_law_351 : decode b_La_law 351 = .ok (.aload_n 0, 1) := by decide +kernel
theorem d_La_law_352 : decode b_La_law 352 = .ok (.iload 4, 2) := by decide +kernel
theorem d_La_law_354 : decode b_La_law 354 = .ok (.iconst 5, 1) := by decide +kernel
theorem d_La_law_355 : decode b_La_law 355 = .ok (.iadd, 1) := by decide +kernel
theorem d_La_law_356 : decode b_La_law 356 = .ok (.iaload, 1) := by decide +kernel
theorem d_La_law_357 : decode b_La_law 357 = .ok (.aload_n 0, 1) := by decide +kernel
theorem d_La_law_358 : decode b_La_law 358 = .ok (.iload 4, 2) := by decide +kernel
theorem d_La_law_360 : decode b_La_law 360 = .ok (.bipush 6, 2) := by decide +kernel
theorem d_La_law_362 : decode b_La_law 362 = .ok (.iadd, 1) := by decide +kernel
theorem d_La_law_363 : decode b_La_law 363 = .ok (.iaload, 1) := by decide +kernel
theorem d_La_law_364 : decode b_La_law 364 = .ok (.aload_n 3, 1) := by decide +kernel
theorem d_La_law_365 : decode b_La_law 365 = .ok (.invokestatic 89, 3) := by decide +kernel
theorem d_La_law_368 : decode b_La_law 368 = .ok (.istore 5, 2) := by decide +kernel
theorem d_La_law_370 : decode b_La_law 370 = .ok (.aload_n 2, 1) := by decide +kernel
theorem d_La_law_371 : decode b_La_law 371 = .ok (.aload_n 0, 1) := by decide +kernel
theorem d_La_law_372 : decode b_La_law 372 = .ok (.iload 4, 2) := by decide +kernel
theorem d_La_law_374 : decode b_La_law 374 = .ok (.iconst 1, 1) := by decide +kernel
theorem d_La_law_375 : decode b_La_law 375 = .ok (.iadd, 1) := by decide +kernel
theorem d_La_law_376 : decode b_La_law 376 = .ok (.iaload, 1) := by decide +kernel
theorem d_La_law_377 : decode b_La_law 377 = .ok (.aload_n 0, 1) := by decide +kernel
theorem d_La_law_378 : decode b_La_law 378 = .ok (.iload 4, 2) := by decide +kernel
theorem d_La_law_380 : decode b_La_law 380 = .ok (.iconst 2, 1) := by decide +kernel
theorem d_La_law_381 : decode b_La_law 381 = .ok (.iadd, 1) := by decide +kernel
theorem d_La_law_382 : decode b_La_law 382 = .ok (.iaload, 1) := by decide +kernel
theorem d_La_law_383 : decode b_La_law 383 = .ok (.aload_n 0, 1) := by decide +kernel
theorem d_La_law_384 : decode b_La_law 384 = .ok (.iload 4, 2) := by decide +kernel
theorem d_La_law_386 : decode b_La_law 386 = .ok (.iconst 3, 1) := by decide +kernel
theorem d_La_law_387 : decode b_La_law 387 = .ok (.iadd, 1) := by decide +kernel
theorem d_La_law_388 : decode b_La_law 388 = .ok (.iaload, 1) := by decide +kernel
theorem d_La_law_389 : decode b_La_law 389 = .ok (.aload_n 0, 1) := by decide +kernel
theorem d_La_law_390 : decode b_La_law 390 = .ok (.iload 4, 2) := by decide +kernel
theorem d_La_law_392 : decode b_La_law 392 = .ok (.iconst 4, 1) := by decide +kernel
theorem d_La_law_393 : decode b_La_law 393 = .ok (.iadd, 1) := by decide +kernel
theorem d_La_law_394 : decode b_La_law 394 = .ok (.iaload, 1) := by decide +kernel
theorem d_La_law_395 : decode b_La_law 395 = .ok (.aload_n 0, 1) := by decide +kernel
theorem d_La_law_396 : decode b_La_law 396 = .ok (.iload 4, 2) := by decide +kernel
theorem d_La_law_398 : decode b_La_law 398 = .ok (.iconst 5, 1) := by decide +kernel
theorem d_La_law_399 : decode b_La_law 399 = .ok (.iadd, 1) := by decide +kernel
theorem d_La_law_400 : decode b_La_law 400 = .ok (.iaload, 1) := by decide +kernel
theorem d_La_law_401 : decode b_La_law 401 = .ok (.aload_n 0, 1) := by decide +kernel
theorem d_La_law_402 : decode b_La_law 402 = .ok (.iload 4, 2) := by decide +kernel
theorem d_La_law_404 : decode b_La_law 404 = .ok (.bipush 6, 2) := by decide +kernel
theorem d_La_law_406 : decode b_La_law 406 = .ok (.iadd, 1) := by decide +kernel
theorem d_La_law_407 : decode b_La_law 407 = .ok (.iaload, 1) := by decide +kernel
theorem d_La_law_408 : decode b_La_law 408 = .ok (.invokevirtual 91, 3) := by decide +kernel
theorem d_La_law_411 : decode b_La_law 411 = .ok (.istore 6, 2) := by decide +kernel
theorem d_La_law_413 : decode b_La_law 413 = .ok (.aload_n 2, 1) := by decide +kernel
theorem d_La_law_414 : decode b_La_law 414 = .ok (.invokevirtual 82, 3) := by decide +kernel
theorem d_La_law_417 : decode b_La_law 417 = .ok (.iload 5, 2) := by decide +kernel
theorem d_La_law_419 : decode b_La_law 419 = .ok (.if_icmp .eq 5, 3) := by decide +kernel
theorem d_La_law_422 : decode b_La_law 422 = .ok (.iconst 0, 1) := by decide +kernel
theorem d_La_law_423 : decode b_La_law 423 = .ok (.ireturn, 1) := by decide +kernel
theorem d_La_law_424 : decode b_La_law 424 = .ok (.iload 5, 2) := by decide +kernel
theorem d_La_law_426 : decode b_La_law 426 = .ok (.ifCond .ne 15, 3) := by decide +kernel
theorem d_La_law_429 : decode b_La_law 429 = .ok (.aload_n 3, 1) := by decide +kernel
theorem d_La_law_430 : decode b_La_law 430 = .ok (.iconst 0, 1) := by decide +kernel
theorem d_La_law_431 : decode b_La_law 431 = .ok (.laload, 1) := by decide +kernel
theorem d_La_law_432 : decode b_La_law 432 = .ok (.iload 6, 2) := by decide +kernel
theorem d_La_law_434 : decode b_La_law 434 = .ok (.i2l, 1) := by decide +kernel
theorem d_La_law_435 : decode b_La_law 435 = .ok (.lcmp, 1) := by decide +kernel
theorem d_La_law_436 : decode b_La_law 436 = .ok (.ifCond .eq 5, 3) := by decide +kernel
theorem d_La_law_439 : decode b_La_law 439 = .ok (.iconst 0, 1) := by decide +kernel
theorem d_La_law_440 : decode b_La_law 440 = .ok (.ireturn, 1) := by decide +kernel
theorem d_La_law_441 : decode b_La_law 441 = .ok (.goto 827, 3) := by decide +kernel
theorem d_La_law_444 : decode b_La_law 444 = .ok (.aload_n 1, 1) := by decide +kernel
theorem d_La_law_445 : decode b_La_law 445 = .ok (.aload_n 0, 1) := by decide +kernel
theorem d_La_law_446 : decode b_La_law 446 = .ok (.iload 4, 2) := by decide +kernel
theorem d_La_law_448 : decode b_La_law 448 = .ok (.iconst 1, 1) := by decide +kernel
theorem d_La_law_449 : decode b_La_law 449 = .ok (.iadd, 1) := by decide +kernel
theorem d_La_law_450 : decode b_La_law 450 = .ok (.iaload, 1) := by decide +kernel
theorem d_La_law_451 : decode b_La_law 451 = .ok (.aload_n 0, 1) := by decide +kernel
theorem d_La_law_452 : decode b_La_law 452 = .ok (.iload 4, 2) := by decide +kernel
theorem d_La_law_454 : decode b_La_law 454 = .ok (.iconst 2, 1) := by decide +kernel
theorem d_La_law_455 : decode b_La_law 455 = .ok (.iadd, 1) := by decide +kernel
theorem d_La_law_456 : decode b_La_law 456 = .ok (.iaload, 1) := by decide +kernel
theorem d_La_law_457 : decode b_La_law 457 = .ok (.aload_n 0, 1) := by decide +kernel
theorem d_La_law_458 : decode b_La_law 458 = .ok (.iload 4, 2) := by decide +kernel
theorem d_La_law_460 : decode b_La_law 460 = .ok (.iconst 3, 1) := by decide +kernel
theorem d_La_law_461 : decode b_La_law 461 = .ok (.iadd, 1) := by decide +kernel
theorem d_La_law_462 : decode b_La_law 462 = .ok (.iaload, 1) := by decide +kernel
theorem d_La_law_463 : decode b_La_law 463 = .ok (.aload_n 3, 1) := by decide +kernel
theorem d_La_law_464 : decode b_La_law 464 = .ok (.invokestatic 92, 3) := by decide +kernel
theorem d_La_law_467 : decode b_La_law 467 = .ok (.istore 5, 2) := by decide +kernel
theorem d_La_law_469 : decode b_La_law 469 = .ok (.aload_n 2, 1) := by decide +kernel
theorem d_La_law_470 : decode b_La_law 470 = .ok (.aload_n 0, 1) := by decide +kernel
theorem d_La_law_471 : decode b_La_law 471 = .ok (.iload 4, 2) := by decide +kernel
theorem d_La_law_473 : decode b_La_law 473 = .ok (.iconst 1, 1) := by decide +kernel
theorem d_La_law_474 : decode b_La_law 474 = .ok (.iadd, 1) := by decide +kernel
theorem d_La_law_475 : decode b_La_law 475 = .ok (.iaload, 1) := by decide +kernel
theorem d_La_law_476 : decode b_La_law 476 = .ok (.aload_n 0, 1) := by decide +kernel
theorem d_La_law_477 : decode b_La_law 477 = .ok (.iload 4, 2) := by decide +kernel
theorem d_La_law_479 : decode b_La_law 479 = .ok (.iconst 2, 1) := by decide +kernel
theorem d_La_law_480 : decode b_La_law 480 = .ok (.iadd, 1) := by decide +kernel
theorem d_La_law_481 : decode b_La_law 481 = .ok (.iaload, 1) := by decide +kernel
theorem d_La_law_482 : decode b_La_law 482 = .ok (.aload_n 0, 1) := by decide +kernel
theorem d_La_law_483 : decode b_La_law 483 = .ok (.iload 4, 2) := by decide +kernel
theorem d_La_law_485 : decode b_La_law 485 = .ok (.iconst 3, 1) := by decide +kernel
theorem d_La_law_486 : decode b_La_law 486 = .ok (.iadd, 1) := by decide +kernel
theorem d_La_law_487 : decode b_La_law 487 = .ok (.iaload, 1) := by decide +kernel
theorem d_La_law_488 : decode b_La_law 488 = .ok (.invokevirtual 94, 3) := by decide +kernel
theorem d_La_law_491 : decode b_La_law 491 = .ok (.istore 6, 2) := by decide +kernel
theorem d_La_law_493 : decode b_La_law 493 = .ok (.aload_n 2, 1) := by decide +kernel
theorem d_La_law_494 : decode b_La_law 494 = .ok (.invokevirtual 82, 3) := by decide +kernel
theorem d_La_law_497 : decode b_La_law 497 = .ok (.iload 5, 2) := by decide +kernel
theorem d_La_law_499 : decode b_La_law 499 = .ok (.if_icmp .eq 5, 3) := by decide +kernel
theorem d_La_law_502 : decode b_La_law 502 = .ok (.iconst 0, 1) := by decide +kernel
theorem d_La_law_503 : decode b_La_law 503 = .ok (.ireturn, 1) := by decide +kernel
theorem d_La_law_504 : decode b_La_law 504 = .ok (.iload 5, 2) := by decide +kernel
theorem d_La_law_506 : decode b_La_law 506 = .ok (.ifCond .ne 15, 3) := by decide +kernel
theorem d_La_law_509 : decode b_La_law 509 = .ok (.aload_n 3, 1) := by decide +kernel
theorem d_La_law_510 : decode b_La_law 510 = .ok (.iconst 0, 1) := by decide +kernel
theorem d_La_law_511 : decode b_La_law 511 = .ok (.laload, 1) := by decide +kernel
theorem d_La_law_512 : decode b_La_law 512 = .ok (.iload 6, 2) := by decide +kernel
theorem d_La_law_514 : decode b_La_law 514 = .ok (.i2l, 1) := by decide +kernel
theorem d_La_law_515 : decode b_La_law 515 = .ok (.lcmp, 1) := by decide +kernel
theorem d_La_law_516 : decode b_La_law 516 = .ok (.ifCond .eq 5, 3) := by decide +kernel
theorem d_La_law_519 : decode b_La_law 519 = .ok (.iconst 0, 1) := by decide +kernel
theorem d_La_law_520 : decode b_La_law 520 = .ok (.ireturn, 1) := by decide +kernel
theorem d_La_law_521 : decode b_La_law 521 = .ok (.goto 747, 3) := by decide +kernel
theorem d_La_law_524 : decode b_La_law 524 = .ok (.aload_n 1, 1) := by decide +kernel
theorem d_La_law_525 : decode b_La_law 525 = .ok (.aload_n 0, 1) := by decide +kernel
theorem d_La_law_526 : decode b_La_law 526 = .ok (.iload 4, 2) := by decide +kernel
theorem d_La_law_528 : decode b_La_law 528 = .ok (.iconst 1, 1) := by decide +kernel
theorem d_La_law_529 : decode b_La_law 529 = .ok (.iadd, 1) := by decide +kernel
theorem d_La_law_530 : decode b_La_law 530 = .ok (.iaload, 1) := by decide +kernel
theorem d_La_law_531 : decode b_La_law 531 = .ok (.aload_n 0, 1) := by decide +kernel
theorem d_La_law_532 : decode b_La_law 532 = .ok (.iload 4, 2) := by decide +kernel
theorem d_La_law_534 : decode b_La_law 534 = .ok (.iconst 2, 1) := by decide +kernel
theorem d_La_law_535 : decode b_La_law 535 = .ok (.iadd, 1) := by decide +kernel
theorem d_La_law_536 : decode b_La_law 536 = .ok (.iaload, 1) := by decide +kernel
theorem d_La_law_537 : decode b_La_law 537 = .ok (.aload_n 0, 1) := by decide +kernel
theorem d_La_law_538 : decode b_La_law 538 = .ok (.iload 4, 2) := by decide +kernel
theorem d_La_law_540 : decode b_La_law 540 = .ok (.iconst 3, 1) := by decide +kernel
theorem d_La_law_541 : decode b_La_law 541 = .ok (.iadd, 1) := by decide +kernel
theorem d_La_law_542 : decode b_La_law 542 = .ok (.iaload, 1) := by decide +kernel
theorem d_La_law_543 : decode b_La_law 543 = .ok (.aload_n 3, 1) := by decide +kernel
theorem d_La_law_544 : decode b_La_law 544 = .ok (.invokestatic 95, 3) := by decide +kernel
theorem d_La_law_547 : decode b_La_law 547 = .ok (.istore 5, 2) := by decide +kernel
theorem d_La_law_549 : decode b_La_law 549 = .ok (.aload_n 2, 1) := by decide +kernel
theorem d_La_law_550 : decode b_La_law 550 = .ok (.aload_n 0, 1) := by decide +kernel
theorem d_La_law_551 : decode b_La_law 551 = .ok (.iload 4, 2) := by decide +kernel
theorem d_La_law_553 : decode b_La_law 553 = .ok (.iconst 1, 1) := by decide +kernel
theorem d_La_law_554 : decode b_La_law 554 = .ok (.iadd, 1) := by decide +kernel
theorem d_La_law_555 : decode b_La_law 555 = .ok (.iaload, 1) := by decide +kernel
theorem d_La_law_556 : decode b_La_law 556 = .ok (.aload_n 0, 1) := by decide +kernel
theorem d_La_law_557 : decode b_La_law 557 = .ok (.iload 4, 2) := by decide +kernel
theorem d_La_law_559 : decode b_La_law 559 = .ok (.iconst 2, 1) := by decide +kernel
theorem d_La_law_560 : decode b_La_law 560 = .ok (.iadd, 1) := by decide +kernel
theorem d_La_law_561 : decode b_La_law 561 = .ok (.iaload, 1) := by decide +kernel
theorem d_La_law_562 : decode b_La_law 562 = .ok (.aload_n 0, 1) := by decide +kernel
theorem d_La_law_563 : decode b_La_law 563 = .ok (.iload 4, 2) := by decide +kernel
theorem d_La_law_565 : decode b_La_law 565 = .ok (.iconst 3, 1) := by decide +kernel
theorem d_La_law_566 : decode b_La_law 566 = .ok (.iadd, 1) := by decide +kernel
theorem d_La_law_567 : decode b_La_law 567 = .ok (.iaload, 1) := by decide +kernel
theorem d_La_law_568 : decode b_La_law 568 = .ok (.invokevirtual 97, 3) := by decide +kernel
theorem d_La_law_571 : decode b_La_law 571 = .ok (.istore 6, 2) := by decide +kernel
theorem d_La_law_573 : decode b_La_law 573 = .ok (.aload_n 2, 1) := by decide +kernel
theorem d_La_law_574 : decode b_La_law 574 = .ok (.invokevirtual 82, 3) := by decide +kernel
theorem d_La_law_577 : decode b_La_law 577 = .ok (.iload 5, 2) := by decide +kernel
theorem d_La_law_579 : decode b_La_law 579 = .ok (.if_icmp .eq 5, 3) := by decide +kernel
theorem d_La_law_582 : decode b_La_law 582 = .ok (.iconst 0, 1) := by decide +kernel
theorem d_La_law_583 : decode b_La_law 583 = .ok (.ireturn, 1) := by decide +kernel
theorem d_La_law_584 : decode b_La_law 584 = .ok (.iload 5, 2) := by decide +kernel
theorem d_La_law_586 : decode b_La_law 586 = .ok (.ifCond .ne 15, 3) := by decide +kernel
theorem d_La_law_589 : decode b_La_law 589 = .ok (.aload_n 3, 1) := by decide +kernel
theorem d_La_law_590 : decode b_La_law 590 = .ok (.iconst 0, 1) := by decide +kernel
theorem d_La_law_591 : decode b_La_law 591 = .ok (.laload, 1) := by decide +kernel
theorem d_La_law_592 : decode b_La_law 592 = .ok (.iload 6, 2) := by decide +kernel
theorem d_La_law_594 : decode b_La_law 594 = .ok (.i2l, 1) := by decide +kernel
theorem d_La_law_595 : decode b_La_law 595 = .ok (.lcmp, 1) := by decide +kernel
theorem d_La_law_596 : decode b_La_law 596 = .ok (.ifCond .eq 5, 3) := by decide +kernel
theorem d_La_law_599 : decode b_La_law 599 = .ok (.iconst 0, 1) := by decide +kernel
theorem d_La_law_600 : decode b_La_law 600 = .ok (.ireturn, 1) := by decide +kernel
theorem d_La_law_601 : decode b_La_law 601 = .ok (.goto 667, 3) := by decide +kernel
theorem d_La_law_604 : decode b_La_law 604 = .ok (.aload_n 1, 1) := by decide +kernel
theorem d_La_law_605 : decode b_La_law 605 = .ok (.aload_n 0, 1) := by decide +kernel
theorem d_La_law_606 : decode b_La_law 606 = .ok (.iload 4, 2) := by decide +kernel
theorem d_La_law_608 : decode b_La_law 608 = .ok (.iconst 1, 1) := by decide +kernel
theorem d_La_law_609 : decode b_La_law 609 = .ok (.iadd, 1) := by decide +kernel
theorem d_La_law_610 : decode b_La_law 610 = .ok (.iaload, 1) := by decide +kernel
theorem d_La_law_611 : decode b_La_law 611 = .ok (.aload_n 0, 1) := by decide +kernel
theorem d_La_law_612 : decode b_La_law 612 = .ok (.iload 4, 2) := by decide +kernel
theorem d_La_law_614 : decode b_La_law 614 = .ok (.iconst 2, 1) := by decide +kernel
theorem d_La_law_615 : decode b_La_law 615 = .ok (.iadd, 1) := by decide +kernel
theorem d_La_law_616 : decode b_La_law 616 = .ok (.iaload, 1) := by decide +kernel
theorem d_La_law_617 : decode b_La_law 617 = .ok (.aload_n 3, 1) := by decide +kernel
theorem d_La_law_618 : decode b_La_law 618 = .ok (.invokestatic 98, 3) := by decide +kernel
theorem d_La_law_621 : decode b_La_law 621 = .ok (.istore 5, 2) := by decide +kernel
theorem d_La_law_623 : decode b_La_law 623 = .ok (.aload_n 2, 1) := by decide +kernel
theorem d_La_law_624 : decode b_La_law 624 = .ok (.aload_n 0, 1) := by decide +kernel
theorem d_La_law_625 : decode b_La_law 625 = .ok (.iload 4, 2) := by decide +kernel
theorem d_La_law_627 : decode b_La_law 627 = .ok (.iconst 1, 1) := by decide +kernel
theorem d_La_law_628 : decode b_La_law 628 = .ok (.iadd, 1) := by decide +kernel
theorem d_La_law_629 : decode b_La_law 629 = .ok (.iaload, 1) := by decide +kernel
theorem d_La_law_630 : decode b_La_law 630 = .ok (.aload_n 0, 1) := by decide +kernel
theorem d_La_law_631 : decode b_La_law 631 = .ok (.iload 4, 2) := by decide +kernel
theorem d_La_law_633 : decode b_La_law 633 = .ok (.iconst 2, 1) := by decide +kernel
theorem d_La_law_634 : decode b_La_law 634 = .ok (.iadd, 1) := by decide +kernel
theorem d_La_law_635 : decode b_La_law 635 = .ok (.iaload, 1) := by decide +kernel
theorem d_La_law_636 : decode b_La_law 636 = .ok (.invokevirtual 101, 3) := by decide +kernel
theorem d_La_law_639 : decode b_La_law 639 = .ok (.istore 6, 2) := by decide +kernel
theorem d_La_law_641 : decode b_La_law 641 = .ok (.aload_n 2, 1) := by decide +kernel
theorem d_La_law_642 : decode b_La_law 642 = .ok (.invokevirtual 82, 3) := by decide +kernel
theorem d_La_law_645 : decode b_La_law 645 = .ok (.iload 5, 2) := by decide +kernel
theorem d_La_law_647 : decode b_La_law 647 = .ok (.if_icmp .eq 5, 3) := by decide +kernel
theorem d_La_law_650 : decode b_La_law 650 = .ok (.iconst 0, 1) := by decide +kernel
theorem d_La_law_651 : decode b_La_law 651 = .ok (.ireturn, 1) := by decide +kernel
theorem d_La_law_652 : decode b_La_law 652 = .ok (.iload 5, 2) := by decide +kernel
theorem d_La_law_654 : decode b_La_law 654 = .ok (.ifCond .ne 15, 3) := by decide +kernel
theorem d_La_law_657 : decode b_La_law 657 = .ok (.aload_n 3, 1) := by decide +kernel
theorem d_La_law_658 : decode b_La_law 658 = .ok (.iconst 0, 1) := by decide +kernel
theorem d_La_law_659 : decode b_La_law 659 = .ok (.laload, 1) := by decide +kernel
theorem d_La_law_660 : decode b_La_law 660 = .ok (.iload 6, 2) := by decide +kernel
theorem d_La_law_662 : decode b_La_law 662 = .ok (.i2l, 1) := by decide +kernel
theorem d_La_law_663 : decode b_La_law 663 = .ok (.lcmp, 1) := by decide +kernel
theorem d_La_law_664 : decode b_La_law 664 = .ok (.ifCond .eq 5, 3) := by decide +kernel
theorem d_La_law_667 : decode b_La_law 667 = .ok (.iconst 0, 1) := by decide +kernel
theorem d_La_law_668 : decode b_La_law 668 = .ok (.ireturn, 1) := by decide +kernel
theorem d_La_law_669 : decode b_La_law 669 = .ok (.goto 599, 3) := by decide +kernel
theorem d_La_law_672 : decode b_La_law 672 = .ok (.aload_n 1, 1) := by decide +kernel
theorem d_La_law_673 : decode b_La_law 673 = .ok (.aload_n 0, 1) := by decide +kernel
theorem d_La_law_674 : decode b_La_law 674 = .ok (.iload 4, 2) := by decide +kernel
theorem d_La_law_676 : decode b_La_law 676 = .ok (.iconst 1, 1) := by decide +kernel
theorem d_La_law_677 : decode b_La_law 677 = .ok (.iadd, 1) := by decide +kernel
theorem d_La_law_678 : decode b_La_law 678 = .ok (.iaload, 1) := by decide +kernel
theorem d_La_law_679 : decode b_La_law 679 = .ok (.aload_n 0, 1) := by decide +kernel
theorem d_La_law_680 : decode b_La_law 680 = .ok (.iload 4, 2) := by decide +kernel
theorem d_La_law_682 : decode b_La_law 682 = .ok (.iconst 2, 1) := by decide +kernel
theorem d_La_law_683 : decode b_La_law 683 = .ok (.iadd, 1) := by decide +kernel
theorem d_La_law_684 : decode b_La_law 684 = .ok (.iaload, 1) := by decide +kernel
theorem d_La_law_685 : decode b_La_law 685 = .ok (.aload_n 3, 1) := by decide +kernel
theorem d_La_law_686 : decode b_La_law 686 = .ok (.invokestatic 102, 3) := by decide +kernel
theorem d_La_law_689 : decode b_La_law 689 = .ok (.istore 5, 2) := by decide +kernel
theorem d_La_law_691 : decode b_La_law 691 = .ok (.aload_n 2, 1) := by decide +kernel
theorem d_La_law_692 : decode b_La_law 692 = .ok (.aload_n 0, 1) := by decide +kernel
theorem d_La_law_693 : decode b_La_law 693 = .ok (.iload 4, 2) := by decide +kernel
theorem d_La_law_695 : decode b_La_law 695 = .ok (.iconst 1, 1) := by decide +kernel
theorem d_La_law_696 : decode b_La_law 696 = .ok (.iadd, 1) := by decide +kernel
theorem d_La_law_697 : decode b_La_law 697 = .ok (.iaload, 1) := by decide +kernel
theorem d_La_law_698 : decode b_La_law 698 = .ok (.aload_n 0, 1) := by decide +kernel
theorem d_La_law_699 : decode b_La_law 699 = .ok (.iload 4, 2) := by decide +kernel
theorem d_La_law_701 : decode b_La_law 701 = .ok (.iconst 2, 1) := by decide +kernel
theorem d_La_law_702 : decode b_La_law 702 = .ok (.iadd, 1) := by decide +kernel
theorem d_La_law_703 : decode b_La_law 703 = .ok (.iaload, 1) := by decide +kernel
theorem d_La_law_704 : decode b_La_law 704 = .ok (.invokevirtual 104, 3) := by decide +kernel
theorem d_La_law_707 : decode b_La_law 707 = .ok (.istore 6, 2) := by decide +kernel
theorem d_La_law_709 : decode b_La_law 709 = .ok (.aload_n 2, 1) := by decide +kernel
theorem d_La_law_710 : decode b_La_law 710 = .ok (.invokevirtual 82, 3) := by decide +kernel
theorem d_La_law_713 : decode b_La_law 713 = .ok (.iload 5, 2) := by decide +kernel
theorem d_La_law_715 : decode b_La_law 715 = .ok (.if_icmp .eq 5, 3) := by decide +kernel
theorem d_La_law_718 : decode b_La_law 718 = .ok (.iconst 0, 1) := by decide +kernel
theorem d_La_law_719 : decode b_La_law 719 = .ok (.ireturn, 1) := by decide +kernel
theorem d_La_law_720 : decode b_La_law 720 = .ok (.iload 5, 2) := by decide +kernel
theorem d_La_law_722 : decode b_La_law 722 = .ok (.ifCond .ne 15, 3) := by decide +kernel
theorem d_La_law_725 : decode b_La_law 725 = .ok (.aload_n 3, 1) := by decide +kernel
theorem d_La_law_726 : decode b_La_law 726 = .ok (.iconst 0, 1) := by decide +kernel
theorem d_La_law_727 : decode b_La_law 727 = .ok (.laload, 1) := by decide +kernel
theorem d_La_law_728 : decode b_La_law 728 = .ok (.iload 6, 2) := by decide +kernel
theorem d_La_law_730 : decode b_La_law 730 = .ok (.i2l, 1) := by decide +kernel
theorem d_La_law_731 : decode b_La_law 731 = .ok (.lcmp, 1) := by decide +kernel
theorem d_La_law_732 : decode b_La_law 732 = .ok (.ifCond .eq 5, 3) := by decide +kernel
theorem d_La_law_735 : decode b_La_law 735 = .ok (.iconst 0, 1) := by decide +kernel
theorem d_La_law_736 : decode b_La_law 736 = .ok (.ireturn, 1) := by decide +kernel
theorem d_La_law_737 : decode b_La_law 737 = .ok (.goto 531, 3) := by decide +kernel
theorem d_La_law_740 : decode b_La_law 740 = .ok (.aload_n 1, 1) := by decide +kernel
theorem d_La_law_741 : decode b_La_law 741 = .ok (.aload_n 0, 1) := by decide +kernel
theorem d_La_law_742 : decode b_La_law 742 = .ok (.iload 4, 2) := by decide +kernel
theorem d_La_law_744 : decode b_La_law 744 = .ok (.iconst 1, 1) := by decide +kernel
theorem d_La_law_745 : decode b_La_law 745 = .ok (.iadd, 1) := by decide +kernel
theorem d_La_law_746 : decode b_La_law 746 = .ok (.iaload, 1) := by decide +kernel
theorem d_La_law_747 : decode b_La_law 747 = .ok (.aload_n 0, 1) := by decide +kernel
theorem d_La_law_748 : decode b_La_law 748 = .ok (.iload 4, 2) := by decide +kernel
theorem d_La_law_750 : decode b_La_law 750 = .ok (.iconst 2, 1) := by decide +kernel
theorem d_La_law_751 : decode b_La_law 751 = .ok (.iadd, 1) := by decide +kernel
theorem d_La_law_752 : decode b_La_law 752 = .ok (.iaload, 1) := by decide +kernel
theorem d_La_law_753 : decode b_La_law 753 = .ok (.aload_n 3, 1) := by decide +kernel
theorem d_La_law_754 : decode b_La_law 754 = .ok (.invokestatic 105, 3) := by decide +kernel
theorem d_La_law_757 : decode b_La_law 757 = .ok (.istore 5, 2) := by decide +kernel
theorem d_La_law_759 : decode b_La_law 759 = .ok (.aload_n 2, 1) := by decide +kernel
theorem d_La_law_760 : decode b_La_law 760 = .ok (.aload_n 0, 1) := by decide +kernel
theorem d_La_law_761 : decode b_La_law 761 = .ok (.iload 4, 2) := by decide +kernel
theorem d_La_law_763 : decode b_La_law 763 = .ok (.iconst 1, 1) := by decide +kernel
theorem d_La_law_764 : decode b_La_law 764 = .ok (.iadd, 1) := by decide +kernel
theorem d_La_law_765 : decode b_La_law 765 = .ok (.iaload, 1) := by decide +kernel
theorem d_La_law_766 : decode b_La_law 766 = .ok (.aload_n 0, 1) := by decide +kernel
theorem d_La_law_767 : decode b_La_law 767 = .ok (.iload 4, 2) := by decide +kernel
theorem d_La_law_769 : decode b_La_law 769 = .ok (.iconst 2, 1) := by decide +kernel
theorem d_La_law_770 : decode b_La_law 770 = .ok (.iadd, 1) := by decide +kernel
theorem d_La_law_771 : decode b_La_law 771 = .ok (.iaload, 1) := by decide +kernel
theorem d_La_law_772 : decode b_La_law 772 = .ok (.invokevirtual 107, 3) := by decide +kernel
theorem d_La_law_775 : decode b_La_law 775 = .ok (.istore 6, 2) := by decide +kernel
theorem d_La_law_777 : decode b_La_law 777 = .ok (.aload_n 2, 1) := by decide +kernel
theorem d_La_law_778 : decode b_La_law 778 = .ok (.invokevirtual 82, 3) := by decide +kernel
theorem d_La_law_781 : decode b_La_law 781 = .ok (.iload 5, 2) := by decide +kernel
theorem d_La_law_783 : decode b_La_law 783 = .ok (.if_icmp .eq 5, 3) := by decide +kernel
theorem d_La_law_786 : decode b_La_law 786 = .ok (.iconst 0, 1) := by decide +kernel
theorem d_La_law_787 : decode b_La_law 787 = .ok (.ireturn, 1) := by decide +kernel
theorem d_La_law_788 : decode b_La_law 788 = .ok (.iload 5, 2) := by decide +kernel
theorem d_La_law_790 : decode b_La_law 790 = .ok (.ifCond .ne 15, 3) := by decide +kernel
theorem d_La_law_793 : decode b_La_law 793 = .ok (.aload_n 3, 1) := by decide +kernel
theorem d_La_law_794 : decode b_La_law 794 = .ok (.iconst 0, 1) := by decide +kernel
theorem d_La_law_795 : decode b_La_law 795 = .ok (.laload, 1) := by decide +kernel
theorem d_La_law_796 : decode b_La_law 796 = .ok (.iload 6, 2) := by decide +kernel
theorem d_La_law_798 : decode b_La_law 798 = .ok (.i2l, 1) := by decide +kernel
theorem d_La_law_799 : decode b_La_law 799 = .ok (.lcmp, 1) := by decide +kernel
theorem d_La_law_800 : decode b_La_law 800 = .ok (.ifCond .eq 5, 3) := by decide +kernel
theorem d_La_law_803 : decode b_La_law 803 = .ok (.iconst 0, 1) := by decide +kernel
theorem d_La_law_804 : decode b_La_law 804 = .ok (.ireturn, 1) := by decide +kernel
theorem d_La_law_805 : decode b_La_law 805 = .ok (.goto 463, 3) := by decide +kernel
theorem d_La_law_808 : decode b_La_law 808 = .ok (.aload_n 1, 1) := by decide +kernel
theorem d_La_law_809 : decode b_La_law 809 = .ok (.aload_n 0, 1) := by decide +kernel
theorem d_La_law_810 : decode b_La_law 810 = .ok (.iload 4, 2) := by decide +kernel
theorem d_La_law_812 : decode b_La_law 812 = .ok (.iconst 1, 1) := by decide +kernel
theorem d_La_law_813 : decode b_La_law 813 = .ok (.iadd, 1) := by decide +kernel
theorem d_La_law_814 : decode b_La_law 814 = .ok (.iaload, 1) := by decide +kernel
theorem d_La_law_815 : decode b_La_law 815 = .ok (.aload_n 3, 1) := by decide +kernel
theorem d_La_law_816 : decode b_La_law 816 = .ok (.invokestatic 108, 3) := by decide +kernel
theorem d_La_law_819 : decode b_La_law 819 = .ok (.istore 5, 2) := by decide +kernel
theorem d_La_law_821 : decode b_La_law 821 = .ok (.aload_n 2, 1) := by decide +kernel
theorem d_La_law_822 : decode b_La_law 822 = .ok (.aload_n 0, 1) := by decide +kernel
theorem d_La_law_823 : decode b_La_law 823 = .ok (.iload 4, 2) := by decide +kernel
theorem d_La_law_825 : decode b_La_law 825 = .ok (.iconst 1, 1) := by decide +kernel
theorem d_La_law_826 : decode b_La_law 826 = .ok (.iadd, 1) := by decide +kernel
theorem d_La_law_827 : decode b_La_law 827 = .ok (.iaload, 1) := by decide +kernel
theorem d_La_law_828 : decode b_La_law 828 = .ok (.invokevirtual 111, 3) := by decide +kernel
theorem d_La_law_831 : decode b_La_law 831 = .ok (.istore 6, 2) := by decide +kernel
theorem d_La_law_833 : decode b_La_law 833 = .ok (.aload_n 2, 1) := by decide +kernel
theorem d_La_law_834 : decode b_La_law 834 = .ok (.invokevirtual 82, 3) := by decide +kernel
theorem d_La_law_837 : decode b_La_law 837 = .ok (.iload 5, 2) := by decide +kernel
theorem d_La_law_839 : decode b_La_law 839 = .ok (.if_icmp .eq 5, 3) := by decide +kernel
theorem d_La_law_842 : decode b_La_law 842 = .ok (.iconst 0, 1) := by decide +kernel
theorem d_La_law_843 : decode b_La_law 843 = .ok (.ireturn, 1) := by decide +kernel
theorem d_La_law_844 : decode b_La_law 844 = .ok (.iload 5, 2) := by decide +kernel
theorem d_La_law_846 : decode b_La_law 846 = .ok (.ifCond .ne 15, 3) := by decide +kernel
theorem d_La_law_849 : decode b_La_law 849 = .ok (.aload_n 3, 1) := by decide +kernel
theorem d_La_law_850 : decode b_La_law 850 = .ok (.iconst 0, 1) := by decide +kernel
theorem d_La_law_851 : decode b_La_law 851 = .ok (.laload, 1) := by decide +kernel
theorem d_La_law_852 : decode b_La_law 852 = .ok (.iload 6, 2) := by decide +kernel
theorem d_La_law_854 : decode b_La_law 854 = .ok (.i2l, 1) := by decide +kernel
theorem d_La_law_855 : decode b_La_law 855 = .ok (.lcmp, 1) := by decide +kernel
theorem d_La_law_856 : decode b_La_law 856 = .ok (.ifCond .eq 5, 3) := by decide +kernel
theorem d_La_law_859 : decode b_La_law 859 = .ok (.iconst 0, 1) := by decide +kernel
theorem d_La_law_860 : decode b_La_law 860 = .ok (.ireturn, 1) := by decide +kernel
theorem d_La_law_861 : decode b_La_law 861 = .ok (.goto 407, 3) := by decide +kernel
theorem d_La_law_864 : decode b_La_law 864 = .ok (.aload_n 1, 1) := by decide +kernel
theorem d_La_law_865 : decode b_La_law 865 = .ok (.aload_n 0, 1) := by decide +kernel
theorem d_La_law_866 : decode b_La_law 866 = .ok (.iload 4, 2) := by decide +kernel
theorem d_La_law_868 : decode b_La_law 868 = .ok (.iconst 1, 1) := by decide +kernel
theorem d_La_law_869 : decode b_La_law 869 = .ok (.iadd, 1) := by decide +kernel
theorem d_La_law_870 : decode b_La_law 870 = .ok (.iaload, 1) := by decide +kernel
theorem d_La_law_871 : decode b_La_law 871 = .ok (.aload_n 3, 1) := by decide +kernel
theorem d_La_law_872 : decode b_La_law 872 = .ok (.invokestatic 112, 3) := by decide +kernel
theorem d_La_law_875 : decode b_La_law 875 = .ok (.istore 5, 2) := by decide +kernel
theorem d_La_law_877 : decode b_La_law 877 = .ok (.aload_n 2, 1) := by decide +kernel
theorem d_La_law_878 : decode b_La_law 878 = .ok (.aload_n 0, 1) := by decide +kernel
theorem d_La_law_879 : decode b_La_law 879 = .ok (.iload 4, 2) := by decide +kernel
theorem d_La_law_881 : decode b_La_law 881 = .ok (.iconst 1, 1) := by decide +kernel
theorem d_La_law_882 : decode b_La_law 882 = .ok (.iadd, 1) := by decide +kernel
theorem d_La_law_883 : decode b_La_law 883 = .ok (.iaload, 1) := by decide +kernel
theorem d_La_law_884 : decode b_La_law 884 = .ok (.invokevirtual 114, 3) := by decide +kernel
theorem d_La_law_887 : decode b_La_law 887 = .ok (.istore 6, 2) := by decide +kernel
theorem d_La_law_889 : decode b_La_law 889 = .ok (.aload_n 2, 1) := by decide +kernel
theorem d_La_law_890 : decode b_La_law 890 = .ok (.invokevirtual 82, 3) := by decide +kernel
theorem d_La_law_893 : decode b_La_law 893 = .ok (.iload 5, 2) := by decide +kernel
theorem d_La_law_895 : decode b_La_law 895 = .ok (.if_icmp .eq 5, 3) := by decide +kernel
theorem d_La_law_898 : decode b_La_law 898 = .ok (.iconst 0, 1) := by decide +kernel
theorem d_La_law_899 : decode b_La_law 899 = .ok (.ireturn, 1) := by decide +kernel
theorem d_La_law_900 : decode b_La_law 900 = .ok (.iload 5, 2) := by decide +kernel
theorem d_La_law_902 : decode b_La_law 902 = .ok (.ifCond .ne 15, 3) := by decide +kernel
theorem d_La_law_905 : decode b_La_law 905 = .ok (.aload_n 3, 1) := by decide +kernel
theorem d_La_law_906 : decode b_La_law 906 = .ok (.iconst 0, 1) := by decide +kernel
theorem d_La_law_907 : decode b_La_law 907 = .ok (.laload, 1) := by decide +kernel
theorem d_La_law_908 : decode b_La_law 908 = .ok (.iload 6, 2) := by decide +kernel
theorem d_La_law_910 : decode b_La_law 910 = .ok (.i2l, 1) := by decide +kernel
theorem d_La_law_911 : decode b_La_law 911 = .ok (.lcmp, 1) := by decide +kernel
theorem d_La_law_912 : decode b_La_law 912 = .ok (.ifCond .eq 5, 3) := by decide +kernel
theorem d_La_law_915 : decode b_La_law 915 = .ok (.iconst 0, 1) := by decide +kernel
theorem d_La_law_916 : decode b_La_law 916 = .ok (.ireturn, 1) := by decide +kernel
theorem d_La_law_917 : decode b_La_law 917 = .ok (.goto 351, 3) := by decide +kernel
theorem d_La_law_920 : decode b_La_law 920 = .ok (.aload_n 1, 1) := by decide +kernel
theorem d_La_law_921 : decode b_La_law 921 = .ok (.aload_n 0, 1) := by decide +kernel
theorem d_La_law_922 : decode b_La_law 922 = .ok (.iload 4, 2) := by decide +kernel
theorem d_La_law_924 : decode b_La_law 924 = .ok (.iconst 1, 1) := by decide +kernel
theorem d_La_law_925 : decode b_La_law 925 = .ok (.iadd, 1) := by decide +kernel
theorem d_La_law_926 : decode b_La_law 926 = .ok (.iaload, 1) := by decide +kernel
theorem d_La_law_927 : decode b_La_law 927 = .ok (.aload_n 3, 1) := by decide +kernel
theorem d_La_law_928 : decode b_La_law 928 = .ok (.invokestatic 115, 3) := by decide +kernel
theorem d_La_law_931 : decode b_La_law 931 = .ok (.istore 5, 2) := by decide +kernel
theorem d_La_law_933 : decode b_La_law 933 = .ok (.aload_n 2, 1) := by decide +kernel
theorem d_La_law_934 : decode b_La_law 934 = .ok (.aload_n 0, 1) := by decide +kernel
theorem d_La_law_935 : decode b_La_law 935 = .ok (.iload 4, 2) := by decide +kernel
theorem d_La_law_937 : decode b_La_law 937 = .ok (.iconst 1, 1) := by decide +kernel
theorem d_La_law_938 : decode b_La_law 938 = .ok (.iadd, 1) := by decide +kernel
theorem d_La_law_939 : decode b_La_law 939 = .ok (.iaload, 1) := by decide +kernel
theorem d_La_law_940 : decode b_La_law 940 = .ok (.invokevirtual 117, 3) := by decide +kernel
theorem d_La_law_943 : decode b_La_law 943 = .ok (.istore 6, 2) := by decide +kernel
theorem d_La_law_945 : decode b_La_law 945 = .ok (.aload_n 2, 1) := by decide +kernel
theorem d_La_law_946 : decode b_La_law 946 = .ok (.invokevirtual 82, 3) := by decide +kernel
theorem d_La_law_949 : decode b_La_law 949 = .ok (.iload 5, 2) := by decide +kernel
theorem d_La_law_951 : decode b_La_law 951 = .ok (.if_icmp .eq 5, 3) := by decide +kernel
theorem d_La_law_954 : decode b_La_law 954 = .ok (.iconst 0, 1) := by decide +kernel
theorem d_La_law_955 : decode b_La_law 955 = .ok (.ireturn, 1) := by decide +kernel
theorem d_La_law_956 : decode b_La_law 956 = .ok (.iload 5, 2) := by decide +kernel
theorem d_La_law_958 : decode b_La_law 958 = .ok (.ifCond .ne 15, 3) := by decide +kernel
theorem d_La_law_961 : decode b_La_law 961 = .ok (.aload_n 3, 1) := by decide +kernel
theorem d_La_law_962 : decode b_La_law 962 = .ok (.iconst 0, 1) := by decide +kernel
theorem d_La_law_963 : decode b_La_law 963 = .ok (.laload, 1) := by decide +kernel
theorem d_La_law_964 : decode b_La_law 964 = .ok (.iload 6, 2) := by decide +kernel
theorem d_La_law_966 : decode b_La_law 966 = .ok (.i2l, 1) := by decide +kernel
theorem d_La_law_967 : decode b_La_law 967 = .ok (.lcmp, 1) := by decide +kernel
theorem d_La_law_968 : decode b_La_law 968 = .ok (.ifCond .eq 5, 3) := by decide +kernel
theorem d_La_law_971 : decode b_La_law 971 = .ok (.iconst 0, 1) := by decide +kernel
theorem d_La_law_972 : decode b_La_law 972 = .ok (.ireturn, 1) := by decide +kernel
theorem d_La_law_973 : decode b_La_law 973 = .ok (.goto 295, 3) := by decide +kernel
theorem d_La_law_976 : decode b_La_law 976 = .ok (.aload_n 1, 1) := by decide +kernel
theorem d_La_law_977 : decode b_La_law 977 = .ok (.aload_n 3, 1) := by decide +kernel
theorem d_La_law_978 : decode b_La_law 978 = .ok (.invokestatic 118, 3) := by decide +kernel
theorem d_La_law_981 : decode b_La_law 981 = .ok (.istore 5, 2) := by decide +kernel
theorem d_La_law_983 : decode b_La_law 983 = .ok (.aload_n 2, 1) := by decide +kernel
theorem d_La_law_984 : decode b_La_law 984 = .ok (.invokevirtual 121, 3) := by decide +kernel
theorem d_La_law_987 : decode b_La_law 987 = .ok (.istore 6, 2) := by decide +kernel
theorem d_La_law_989 : decode b_La_law 989 = .ok (.aload_n 2, 1) := by decide +kernel
theorem d_La_law_990 : decode b_La_law 990 = .ok (.invokevirtual 82, 3) := by decide +kernel
theorem d_La_law_993 : decode b_La_law 993 = .ok (.iload 5, 2) := by decide +kernel
theorem d_La_law_995 : decode b_La_law 995 = .ok (.if_icmp .eq 5, 3) := by decide +kernel
theorem d_La_law_998 : decode b_La_law 998 = .ok (.iconst 0, 1) := by decide +kernel
theorem d_La_law_999 : decode b_La_law 999 = .ok (.ireturn, 1) := by decide +kernel
theorem d_La_law_1000 : decode b_La_law 1000 = .ok (.iload 5, 2) := by decide +kernel
theorem d_La_law_1002 : decode b_La_law 1002 = .ok (.ifCond .ne 15, 3) := by decide +kernel
theorem d_La_law_1005 : decode b_La_law 1005 = .ok (.aload_n 3, 1) := by decide +kernel
theorem d_La_law_1006 : decode b_La_law 1006 = .ok (.iconst 0, 1) := by decide +kernel
theorem d_La_law_1007 : decode b_La_law 1007 = .ok (.laload, 1) := by decide +kernel
theorem d_La_law_1008 : decode b_La_law 1008 = .ok (.iload 6, 2) := by decide +kernel
theorem d_La_law_1010 : decode b_La_law 1010 = .ok (.i2l, 1) := by decide +kernel
theorem d_La_law_1011 : decode b_La_law 1011 = .ok (.lcmp, 1) := by decide +kernel
theorem d_La_law_1012 : decode b_La_law 1012 = .ok (.ifCond .eq 5, 3) := by decide +kernel
theorem d_La_law_1015 : decode b_La_law 1015 = .ok (.iconst 0, 1) := by decide +kernel
theorem d_La_law_1016 : decode b_La_law 1016 = .ok (.ireturn, 1) := by decide +kernel
theorem d_La_law_1017 : decode b_La_law 1017 = .ok (.goto 251, 3) := by decide +kernel
theorem d_La_law_1020 : decode b_La_law 1020 = .ok (.aload_n 1, 1) := by decide +kernel
theorem d_La_law_1021 : decode b_La_law 1021 = .ok (.aload_n 0, 1) := by decide +kernel
theorem d_La_law_1022 : decode b_La_law 1022 = .ok (.iload 4, 2) := by decide +kernel
theorem d_La_law_1024 : decode b_La_law 1024 = .ok (.iconst 1, 1) := by decide +kernel
theorem d_La_law_1025 : decode b_La_law 1025 = .ok (.iadd, 1) := by decide +kernel
theorem d_La_law_1026 : decode b_La_law 1026 = .ok (.iaload, 1) := by decide +kernel
theorem d_La_law_1027 : decode b_La_law 1027 = .ok (.aload_n 3, 1) := by decide +kernel
theorem d_La_law_1028 : decode b_La_law 1028 = .ok (.invokestatic 122, 3) := by decide +kernel
theorem d_La_law_1031 : decode b_La_law 1031 = .ok (.istore 5, 2) := by decide +kernel
theorem d_La_law_1033 : decode b_La_law 1033 = .ok (.aload_n 2, 1) := by decide +kernel
theorem d_La_law_1034 : decode b_La_law 1034 = .ok (.aload_n 0, 1) := by decide +kernel
theorem d_La_law_1035 : decode b_La_law 1035 = .ok (.iload 4, 2) := by decide +kernel
theorem d_La_law_1037 : decode b_La_law 1037 = .ok (.iconst 1, 1) := by decide +kernel
theorem d_La_law_1038 : decode b_La_law 1038 = .ok (.iadd, 1) := by decide +kernel
theorem d_La_law_1039 : decode b_La_law 1039 = .ok (.iaload, 1) := by decide +kernel
theorem d_La_law_1040 : decode b_La_law 1040 = .ok (.invokevirtual 124, 3) := by decide +kernel
theorem d_La_law_1043 : decode b_La_law 1043 = .ok (.istore 6, 2) := by decide +kernel
theorem d_La_law_1045 : decode b_La_law 1045 = .ok (.aload_n 2, 1) := by decide +kernel
theorem d_La_law_1046 : decode b_La_law 1046 = .ok (.invokevirtual 82, 3) := by decide +kernel
theorem d_La_law_1049 : decode b_La_law 1049 = .ok (.iload 5, 2) := by decide +kernel
theorem d_La_law_1051 : decode b_La_law 1051 = .ok (.if_icmp .eq 5, 3) := by decide +kernel
theorem d_La_law_1054 : decode b_La_law 1054 = .ok (.iconst 0, 1) := by decide +kernel
theorem d_La_law_1055 : decode b_La_law 1055 = .ok (.ireturn, 1) := by decide +kernel
theorem d_La_law_1056 : decode b_La_law 1056 = .ok (.iload 5, 2) := by decide +kernel
theorem d_La_law_1058 : decode b_La_law 1058 = .ok (.ifCond .ne 15, 3) := by decide +kernel
theorem d_La_law_1061 : decode b_La_law 1061 = .ok (.aload_n 3, 1) := by decide +kernel
theorem d_La_law_1062 : decode b_La_law 1062 = .ok (.iconst 0, 1) := by decide +kernel
theorem d_La_law_1063 : decode b_La_law 1063 = .ok (.laload, 1) := by decide +kernel
theorem d_La_law_1064 : decode b_La_law 1064 = .ok (.iload 6, 2) := by decide +kernel
theorem d_La_law_1066 : decode b_La_law 1066 = .ok (.i2l, 1) := by decide +kernel
theorem d_La_law_1067 : decode b_La_law 1067 = .ok (.lcmp, 1) := by decide +kernel
theorem d_La_law_1068 : decode b_La_law 1068 = .ok (.ifCond .eq 5, 3) := by decide +kernel
theorem d_La_law_1071 : decode b_La_law 1071 = .ok (.iconst 0, 1) := by decide +kernel
theorem d_La_law_1072 : decode b_La_law 1072 = .ok (.ireturn, 1) := by decide +kernel
theorem d_La_law_1073 : decode b_La_law 1073 = .ok (.goto 195, 3) := by decide +kernel
theorem d_La_law_1076 : decode b_La_law 1076 = .ok (.aload_n 1, 1) := by decide +kernel
theorem d_La_law_1077 : decode b_La_law 1077 = .ok (.aload_n 0, 1) := by decide +kernel
theorem d_La_law_1078 : decode b_La_law 1078 = .ok (.iload 4, 2) := by decide +kernel
theorem d_La_law_1080 : decode b_La_law 1080 = .ok (.iconst 1, 1) := by decide +kernel
theorem d_La_law_1081 : decode b_La_law 1081 = .ok (.iadd, 1) := by decide +kernel
theorem d_La_law_1082 : decode b_La_law 1082 = .ok (.iaload, 1) := by decide +kernel
theorem d_La_law_1083 : decode b_La_law 1083 = .ok (.aload_n 3, 1) := by decide +kernel
theorem d_La_law_1084 : decode b_La_law 1084 = .ok (.invokestatic 125, 3) := by decide +kernel
theorem d_La_law_1087 : decode b_La_law 1087 = .ok (.istore 5, 2) := by decide +kernel
theorem d_La_law_1089 : decode b_La_law 1089 = .ok (.aload_n 2, 1) := by decide +kernel
theorem d_La_law_1090 : decode b_La_law 1090 = .ok (.aload_n 0, 1) := by decide +kernel
theorem d_La_law_1091 : decode b_La_law 1091 = .ok (.iload 4, 2) := by decide +kernel
theorem d_La_law_1093 : decode b_La_law 1093 = .ok (.iconst 1, 1) := by decide +kernel
theorem d_La_law_1094 : decode b_La_law 1094 = .ok (.iadd, 1) := by decide +kernel
theorem d_La_law_1095 : decode b_La_law 1095 = .ok (.iaload, 1) := by decide +kernel
theorem d_La_law_1096 : decode b_La_law 1096 = .ok (.invokevirtual 127, 3) := by decide +kernel
theorem d_La_law_1099 : decode b_La_law 1099 = .ok (.istore 6, 2) := by decide +kernel
theorem d_La_law_1101 : decode b_La_law 1101 = .ok (.aload_n 2, 1) := by decide +kernel
theorem d_La_law_1102 : decode b_La_law 1102 = .ok (.invokevirtual 82, 3) := by decide +kernel
theorem d_La_law_1105 : decode b_La_law 1105 = .ok (.iload 5, 2) := by decide +kernel
theorem d_La_law_1107 : decode b_La_law 1107 = .ok (.if_icmp .eq 5, 3) := by decide +kernel
theorem d_La_law_1110 : decode b_La_law 1110 = .ok (.iconst 0, 1) := by decide +kernel
theorem d_La_law_1111 : decode b_La_law 1111 = .ok (.ireturn, 1) := by decide +kernel
theorem d_La_law_1112 : decode b_La_law 1112 = .ok (.iload 5, 2) := by decide +kernel
theorem d_La_law_1114 : decode b_La_law 1114 = .ok (.ifCond .ne 15, 3) := by decide +kernel
theorem d_La_law_1117 : decode b_La_law 1117 = .ok (.aload_n 3, 1) := by decide +kernel
theorem d_La_law_1118 : decode b_La_law 1118 = .ok (.iconst 0, 1) := by decide +kernel
theorem d_La_law_1119 : decode b_La_law 1119 = .ok (.laload, 1) := by decide +kernel
theorem d_La_law_1120 : decode b_La_law 1120 = .ok (.iload 6, 2) := by decide +kernel
theorem d_La_law_1122 : decode b_La_law 1122 = .ok (.i2l, 1) := by decide +kernel
theorem d_La_law_1123 : decode b_La_law 1123 = .ok (.lcmp, 1) := by decide +kernel
theorem d_La_law_1124 : decode b_La_law 1124 = .ok (.ifCond .eq 5, 3) := by decide +kernel
theorem d_La_law_1127 : decode b_La_law 1127 = .ok (.iconst 0, 1) := by decide +kernel
theorem d_La_law_1128 : decode b_La_law 1128 = .ok (.ireturn, 1) := by decide +kernel
theorem d_La_law_1129 : decode b_La_law 1129 = .ok (.goto 139, 3) := by decide +kernel
theorem d_La_law_1132 : decode b_La_law 1132 = .ok (.aload_n 1, 1) := by decide +kernel
theorem d_La_law_1133 : decode b_La_law 1133 = .ok (.aload_n 0, 1) := by decide +kernel
theorem d_La_law_1134 : decode b_La_law 1134 = .ok (.iload 4, 2) := by decide +kernel
theorem d_La_law_1136 : decode b_La_law 1136 = .ok (.iconst 1, 1) := by decide +kernel
theorem d_La_law_1137 : decode b_La_law 1137 = .ok (.iadd, 1) := by decide +kernel
theorem d_La_law_1138 : decode b_La_law 1138 = .ok (.iaload, 1) := by decide +kernel
theorem d_La_law_1139 : decode b_La_law 1139 = .ok (.aload_n 0, 1) := by decide +kernel
theorem d_La_law_1140 : decode b_La_law 1140 = .ok (.iload 4, 2) := by decide +kernel
theorem d_La_law_1142 : decode b_La_law 1142 = .ok (.iconst 2, 1) := by decide +kernel
theorem d_La_law_1143 : decode b_La_law 1143 = .ok (.iadd, 1) := by decide +kernel
theorem d_La_law_1144 : decode b_La_law 1144 = .ok (.iaload, 1) := by decide +kernel
theorem d_La_law_1145 : decode b_La_law 1145 = .ok (.aload_n 3, 1) := by decide +kernel
theorem d_La_law_1146 : decode b_La_law 1146 = .ok (.invokestatic 128, 3) := by decide +kernel
theorem d_La_law_1149 : decode b_La_law 1149 = .ok (.istore 5, 2) := by decide +kernel
theorem d_La_law_1151 : decode b_La_law 1151 = .ok (.aload_n 2, 1) := by decide +kernel
theorem d_La_law_1152 : decode b_La_law 1152 = .ok (.aload_n 0, 1) := by decide +kernel
theorem d_La_law_1153 : decode b_La_law 1153 = .ok (.iload 4, 2) := by decide +kernel
theorem d_La_law_1155 : decode b_La_law 1155 = .ok (.iconst 1, 1) := by decide +kernel
theorem d_La_law_1156 : decode b_La_law 1156 = .ok (.iadd, 1) := by decide +kernel
theorem d_La_law_1157 : decode b_La_law 1157 = .ok (.iaload, 1) := by decide +kernel
theorem d_La_law_1158 : decode b_La_law 1158 = .ok (.aload_n 0, 1) := by decide +kernel
theorem d_La_law_1159 : decode b_La_law 1159 = .ok (.iload 4, 2) := by decide +kernel
theorem d_La_law_1161 : decode b_La_law 1161 = .ok (.iconst 2, 1) := by decide +kernel
theorem d_La_law_1162 : decode b_La_law 1162 = .ok (.iadd, 1) := by decide +kernel
theorem d_La_law_1163 : decode b_La_law 1163 = .ok (.iaload, 1) := by decide +kernel
theorem d_La_law_1164 : decode b_La_law 1164 = .ok (.invokevirtual 130, 3) := by decide +kernel
theorem d_La_law_1167 : decode b_La_law 1167 = .ok (.istore 6, 2) := by decide +kernel
theorem d_La_law_1169 : decode b_La_law 1169 = .ok (.aload_n 2, 1) := by decide +kernel
theorem d_La_law_1170 : decode b_La_law 1170 = .ok (.invokevirtual 82, 3) := by decide +kernel
theorem d_La_law_1173 : decode b_La_law 1173 = .ok (.iload 5, 2) := by decide +kernel
theorem d_La_law_1175 : decode b_La_law 1175 = .ok (.if_icmp .eq 5, 3) := by decide +kernel
theorem d_La_law_1178 : decode b_La_law 1178 = .ok (.iconst 0, 1) := by decide +kernel
theorem d_La_law_1179 : decode b_La_law 1179 = .ok (.ireturn, 1) := by decide +kernel
theorem d_La_law_1180 : decode b_La_law 1180 = .ok (.iload 5, 2) := by decide +kernel
theorem d_La_law_1182 : decode b_La_law 1182 = .ok (.ifCond .ne 15, 3) := by decide +kernel
theorem d_La_law_1185 : decode b_La_law 1185 = .ok (.aload_n 3, 1) := by decide +kernel
theorem d_La_law_1186 : decode b_La_law 1186 = .ok (.iconst 0, 1) := by decide +kernel
theorem d_La_law_1187 : decode b_La_law 1187 = .ok (.laload, 1) := by decide +kernel
theorem d_La_law_1188 : decode b_La_law 1188 = .ok (.iload 6, 2) := by decide +kernel
theorem d_La_law_1190 : decode b_La_law 1190 = .ok (.i2l, 1) := by decide +kernel
theorem d_La_law_1191 : decode b_La_law 1191 = .ok (.lcmp, 1) := by decide +kernel
theorem d_La_law_1192 : decode b_La_law 1192 = .ok (.ifCond .eq 5, 3) := by decide +kernel
theorem d_La_law_1195 : decode b_La_law 1195 = .ok (.iconst 0, 1) := by decide +kernel
theorem d_La_law_1196 : decode b_La_law 1196 = .ok (.ireturn, 1) := by decide +kernel
theorem d_La_law_1197 : decode b_La_law 1197 = .ok (.goto 71, 3) := by decide +kernel
theorem d_La_law_1200 : decode b_La_law 1200 = .ok (.aload_n 1, 1) := by decide +kernel
theorem d_La_law_1201 : decode b_La_law 1201 = .ok (.aload_n 0, 1) := by decide +kernel
theorem d_La_law_1202 : decode b_La_law 1202 = .ok (.iload 4, 2) := by decide +kernel
theorem d_La_law_1204 : decode b_La_law 1204 = .ok (.iconst 1, 1) := by decide +kernel
theorem d_La_law_1205 : decode b_La_law 1205 = .ok (.iadd, 1) := by decide +kernel
theorem d_La_law_1206 : decode b_La_law 1206 = .ok (.iaload, 1) := by decide +kernel
theorem d_La_law_1207 : decode b_La_law 1207 = .ok (.aload_n 0, 1) := by decide +kernel
theorem d_La_law_1208 : decode b_La_law 1208 = .ok (.iload 4, 2) := by decide +kernel
theorem d_La_law_1210 : decode b_La_law 1210 = .ok (.iconst 2, 1) := by decide +kernel
theorem d_La_law_1211 : decode b_La_law 1211 = .ok (.iadd, 1) := by decide +kernel
theorem d_La_law_1212 : decode b_La_law 1212 = .ok (.iaload, 1) := by decide +kernel
theorem d_La_law_1213 : decode b_La_law 1213 = .ok (.aload_n 3, 1) := by decide +kernel
theorem d_La_law_1214 : decode b_La_law 1214 = .ok (.invokestatic 131, 3) := by decide +kernel
theorem d_La_law_1217 : decode b_La_law 1217 = .ok (.istore 5, 2) := by decide +kernel
theorem d_La_law_1219 : decode b_La_law 1219 = .ok (.aload_n 2, 1) := by decide +kernel
theorem d_La_law_1220 : decode b_La_law 1220 = .ok (.aload_n 0, 1) := by decide +kernel
theorem d_La_law_1221 : decode b_La_law 1221 = .ok (.iload 4, 2) := by decide +kernel
theorem d_La_law_1223 : decode b_La_law 1223 = .ok (.iconst 1, 1) := by decide +kernel
theorem d_La_law_1224 : decode b_La_law 1224 = .ok (.iadd, 1) := by decide +kernel
theorem d_La_law_1225 : decode b_La_law 1225 = .ok (.iaload, 1) := by decide +kernel
theorem d_La_law_1226 : decode b_La_law 1226 = .ok (.aload_n 0, 1) := by decide +kernel
theorem d_La_law_1227 : decode b_La_law 1227 = .ok (.iload 4, 2) := by decide +kernel
theorem d_La_law_1229 : decode b_La_law 1229 = .ok (.iconst 2, 1) := by decide +kernel
theorem d_La_law_1230 : decode b_La_law 1230 = .ok (.iadd, 1) := by decide +kernel
theorem d_La_law_1231 : decode b_La_law 1231 = .ok (.iaload, 1) := by decide +kernel
theorem d_La_law_1232 : decode b_La_law 1232 = .ok (.invokevirtual 133, 3) := by decide +kernel
theorem d_La_law_1235 : decode b_La_law 1235 = .ok (.istore 6, 2) := by decide +kernel
theorem d_La_law_1237 : decode b_La_law 1237 = .ok (.aload_n 2, 1) := by decide +kernel
theorem d_La_law_1238 : decode b_La_law 1238 = .ok (.invokevirtual 82, 3) := by decide +kernel
theorem d_La_law_1241 : decode b_La_law 1241 = .ok (.iload 5, 2) := by decide +kernel
theorem d_La_law_1243 : decode b_La_law 1243 = .ok (.if_icmp .eq 5, 3) := by decide +kernel
theorem d_La_law_1246 : decode b_La_law 1246 = .ok (.iconst 0, 1) := by decide +kernel
theorem d_La_law_1247 : decode b_La_law 1247 = .ok (.ireturn, 1) := by decide +kernel
theorem d_La_law_1248 : decode b_La_law 1248 = .ok (.iload 5, 2) := by decide +kernel
theorem d_La_law_1250 : decode b_La_law 1250 = .ok (.ifCond .ne 15, 3) := by decide +kernel
theorem d_La_law_1253 : decode b_La_law 1253 = .ok (.aload_n 3, 1) := by decide +kernel
theorem d_La_law_1254 : decode b_La_law 1254 = .ok (.iconst 0, 1) := by decide +kernel
theorem d_La_law_1255 : decode b_La_law 1255 = .ok (.laload, 1) := by decide +kernel
theorem d_La_law_1256 : decode b_La_law 1256 = .ok (.iload 6, 2) := by decide +kernel
theorem d_La_law_1258 : decode b_La_law 1258 = .ok (.i2l, 1) := by decide +kernel
theorem d_La_law_1259 : decode b_La_law 1259 = .ok (.lcmp, 1) := by decide +kernel
theorem d_La_law_1260 : decode b_La_law 1260 = .ok (.ifCond .eq 5, 3) := by decide +kernel
theorem d_La_law_1263 : decode b_La_law 1263 = .ok (.iconst 0, 1) := by decide +kernel
theorem d_La_law_1264 : decode b_La_law 1264 = .ok (.ireturn, 1) := by decide +kernel
theorem d_La_law_1265 : decode b_La_law 1265 = .ok (.goto 3, 3) := by decide +kernel
theorem d_La_law_1268 : decode b_La_law 1268 = .ok (.iinc 4 7, 3) := by decide +kernel
theorem d_La_law_1271 : decode b_La_law 1271 = .ok (.goto (-1238), 3) := by decide +kernel
theorem d_La_law_1274 : decode b_La_law 1274 = .ok (.iconst 1, 1) := by decide +kernel
theorem d_La_law_1275 : decode b_La_law 1275 = .ok (.ireturn, 1) := by decide +kernel
end
section
/-! INTS BY THEIR NUMBERS: iI z for every z; sums, differences and products need no bound, comparisons do. -/
def iI (z : Int) : Int32 := Int32.ofInt z
theorem iI_of (x : Int32) : iI x.toInt = x := Int32.ofInt_toInt x
theorem iI_toInt {z : Int} (h : -2147483648 ≤ z ∧ z < 2147483648) : (iI z).toInt = z := Int32.toInt_ofInt_of_le (by omega) (by omega)
theorem iI_rng (x : Int32) : -2147483648 ≤ x.toInt ∧ x.toInt < 2147483648 := by
  have h1 := x.le_toInt
  have h2 := x.toInt_lt
  omega
theorem iI_ex (x : Int32) : ∃ z : Int, (-2147483648 ≤ z ∧ z < 2147483648) ∧ x = iI z := ⟨x.toInt, iI_rng x, (iI_of x).symm⟩
theorem iI_add (a b : Int) : iI a + iI b = iI (a + b) := (Int32.ofInt_add a b).symm
theorem iI_sub (a b : Int) : iI a - iI b = iI (a - b) := (Int32.ofInt_sub a b).symm
theorem iI_mul (a b : Int) : iI a * iI b = iI (a * b) := (Int32.ofInt_mul a b).symm
theorem iI_neg (a : Int) : -iI a = iI (-a) := (Int32.ofInt_neg a).symm
theorem iI_nat (n : Nat) : iI (n : Int) = nI n := Int32.ofInt_eq_ofNat
theorem iI_clamp {z : Int} (h : -2147483648 ≤ z ∧ z < 2147483648) : (iI z).toNatClampNeg = z.toNat := Int32.toNatClampNeg_ofInt_of_le (by omega) (by omega)
theorem iI_eq {a b : Int} (ha : -2147483648 ≤ a ∧ a < 2147483648) (hb : -2147483648 ≤ b ∧ b < 2147483648) : iI a = iI b ↔ a = b := by
  constructor
  · intro h
    have := congrArg Int32.toInt h
    rwa [iI_toInt ha, iI_toInt hb] at this
  · intro h
    rw [h]
theorem iI_lt {a b : Int} (ha : -2147483648 ≤ a ∧ a < 2147483648) (hb : -2147483648 ≤ b ∧ b < 2147483648) : iI a < iI b ↔ a < b := by
  rw [Int32.lt_iff_toInt_lt, iI_toInt ha, iI_toInt hb]
theorem iI_le {a b : Int} (ha : -2147483648 ≤ a ∧ a < 2147483648) (hb : -2147483648 ≤ b ∧ b < 2147483648) : iI a ≤ iI b ↔ a ≤ b := by
  rw [Int32.le_iff_toInt_le, iI_toInt ha, iI_toInt hb]
theorem iI_0 : iI 0 = 0 := rfl
theorem iI_in {z : Int} {n : Nat} (h : 0 ≤ z ∧ z < n) (hn : n < 2147483648) : vp_in (iI z) n := by
  rw [vp_in_iff, iI_toInt (by omega)]
  exact h
theorem iI_inj {a b : Int} (h : iI a = iI b) (ha : -2147483648 ≤ a ∧ a < 2147483648) (hb : -2147483648 ≤ b ∧ b < 2147483648) : a = b := (iI_eq ha hb).mp h
end
section
/-! WORLDS BY ADDRESS: what is known of the cells is a function from addresses; a write is an update of it. -/
abbrev Wm : Type := Nat → Option va_E
/-- the heap holds all that M says, and all of it lies in A -/
def wd_ok (D : va_G) (cl : List vw_C) (A : Nat → Prop) (M : Wm) (H : Heap) : Prop := ∀ (q : Nat) (x : va_E), M q = some x → va_at D cl (q, x) H ∧ A q
def wd_ls (M : Wm) (n : Nat) : va_W := (List.range n).filterMap (fun q => (M q).map (fun x => (q, x)))
theorem wd_ls_mem {M : Wm} {n q : Nat} {x : va_E} : (q, x) ∈ wd_ls M n ↔ q < n ∧ M q = some x := by
  unfold wd_ls
  rw [List.mem_filterMap]
  constructor
  · rintro ⟨a, ha, h⟩
    rw [List.mem_range] at ha
    cases hm : M a with
    | none => rw [hm] at h; cases h
    | some z => rw [hm] at h; cases h; exact ⟨ha, hm⟩
  · rintro ⟨h1, h2⟩
    exact ⟨q, List.mem_range.mpr h1, by rw [h2]; rfl⟩
theorem wd_ls_pw (M : Wm) (n : Nat) : (wd_ls M n).Pairwise (fun a b => a.1 < b.1) := by
  unfold wd_ls
  rw [List.pairwise_filterMap]
  refine List.pairwise_lt_range.imp ?_
  intro a b hab x hx y hy
  cases ha : M a with
  | none => rw [ha] at hx; cases hx
  | some u =>
    cases hb : M b with
    | none => rw [hb] at hy; cases hy
    | some v => rw [ha] at hx; rw [hb] at hy; cases hx; cases hy; exact hab
theorem wd_ls_inj {M : Wm} {n : Nat} (i j : Nat) (a b : Nat × va_E) (hi : (wd_ls M n)[i]? = some a) (hj : (wd_ls M n)[j]? = some b) (h : a.1 = b.1) : i = j := by
  have hp := List.pairwise_iff_getElem.mp (wd_ls_pw M n)
  obtain ⟨li, ei⟩ := List.getElem?_eq_some_iff.mp hi
  obtain ⟨lj, ej⟩ := List.getElem?_eq_some_iff.mp hj
  rcases Nat.lt_trichotomy i j with q | q | q
  · have := hp i j li lj q
    rw [ei, ej] at this
    omega
  · exact q
  · have := hp j i lj li q
    rw [ei, ej] at this
    omega
theorem wd_ls_P {D : va_G} {cl : List vw_C} {A : Nat → Prop} {M : Wm} {H : Heap} (h : wd_ok D cl A M H) (n : Nat) : va_P D cl (wd_ls M n) H := by
  intro k q hq
  obtain ⟨a, x⟩ := q
  exact (h a x (wd_ls_mem.mp (List.mem_of_getElem? hq)).2).1
theorem wd_ls_D {D : va_G} {cl : List vw_C} {A : Nat → Prop} {M : Wm} {H : Heap} (h : wd_ok D cl A M H) (n : Nat) : va_D A (wd_ls M n) := by
  refine ⟨wd_ls_inj, ?_⟩
  intro k q hq
  obtain ⟨a, x⟩ := q
  exact (h a x (wd_ls_mem.mp (List.mem_of_getElem? hq)).2).2
theorem wd_ls_at {D : va_G} {cl : List vw_C} {A : Nat → Prop} {M : Wm} {H : Heap} (h : wd_ok D cl A M H) {a : Nat} {x : va_E} (ha : M a = some x) : ∃ k : Nat, (wd_ls M H.size)[k]? = some (a, x) := by
  have h1 : (a, x) ∈ wd_ls M H.size := wd_ls_mem.mpr ⟨(h a x ha).1.lt, ha⟩
  exact List.mem_iff_getElem?.mp h1
theorem wd_one {D : va_G} {cl : List vw_C} {A : Nat → Prop} {M : Wm} {H : Heap} (h : wd_ok D cl A M H) {a : Nat} {x : va_E} (ha : M a = some x) : va_P D cl [(a, x)] H := by
  intro k q hq
  cases k with
  | zero => cases hq; exact (h a x ha).1
  | succ k => simp at hq
theorem wd_set {D : va_G} {cl : List vw_C} {A : Nat → Prop} {M : Wm} {H H1 : Heap} (h : wd_ok D cl A M H) {a k : Nat} {x y : va_E} (ha : (wd_ls M H.size)[k]? = some (a, x)) (h1 : va_P D cl ((wd_ls M H.size).set k (a, y)) H1) : wd_ok D cl A (va_up M a (some y)) H1 := by
  have hk : k < (wd_ls M H.size).length := (List.getElem?_eq_some_iff.mp ha).1
  intro q z hz
  unfold va_up at hz
  by_cases e : q = a
  · rw [if_pos e] at hz
    cases hz
    subst e
    exact ⟨h1 k _ (by rw [List.getElem?_set_self hk]), (h q x (wd_ls_mem.mp (List.mem_of_getElem? ha)).2).2⟩
  · rw [if_neg e] at hz
    obtain ⟨j, hj⟩ := wd_ls_at h hz
    have hne : k ≠ j := by
      intro e2
      subst e2
      rw [ha] at hj
      cases hj
      exact e rfl
    exact ⟨h1 j _ (by rw [List.getElem?_set_ne hne]; exact hj), (h q z hz).2⟩
theorem wd_push {D : va_G} {cl : List vw_C} {A : Nat → Prop} {M : Wm} {H H1 : Heap} (h : wd_ok D cl A M H) {a : Nat} {y : va_E} (h1 : va_P D cl (wd_ls M H.size ++ [(a, y)]) H1) (h2 : va_D A (wd_ls M H.size ++ [(a, y)])) : wd_ok D cl A (va_up M a (some y)) H1 ∧ M a = none := by
  have hl : (wd_ls M H.size ++ [(a, y)])[(wd_ls M H.size).length]? = some (a, y) := by simp
  refine ⟨?_, ?_⟩
  · intro q z hz
    unfold va_up at hz
    by_cases e : q = a
    · rw [if_pos e] at hz
      cases hz
      subst e
      exact ⟨h1 _ _ hl, h2.2 _ _ hl⟩
    · rw [if_neg e] at hz
      obtain ⟨j, hj⟩ := wd_ls_at h hz
      have hlt : j < (wd_ls M H.size).length := (List.getElem?_eq_some_iff.mp hj).1
      exact ⟨h1 j _ (by rw [List.getElem?_append_left hlt]; exact hj), (h q z hz).2⟩
  · cases hm : M a with
    | none => rfl
    | some z =>
      obtain ⟨j, hj⟩ := wd_ls_at h hm
      have hlt : j < (wd_ls M H.size).length := (List.getElem?_eq_some_iff.mp hj).1
      have := h2.1 j _ (a, z) _ (by rw [List.getElem?_append_left hlt]; exact hj) hl rfl
      omega
/-- a world of which less is known -/
theorem wd_ok.less {D : va_G} {cl : List vw_C} {A : Nat → Prop} {M M' : Wm} {H : Heap} (h : wd_ok D cl A M H) (hl : ∀ q x, M' q = some x → M q = some x) : wd_ok D cl A M' H := fun q x hx => h q x (hl q x hx)
theorem wd_up_s {M : Wm} {a : Nat} {x : Option va_E} : va_up M a x a = x := by unfold va_up; exact if_pos rfl
theorem wd_up_n {M : Wm} {a b : Nat} {x : Option va_E} (h : b ≠ a) : va_up M a x b = M b := by unfold va_up; exact if_neg h
end
section
/-! ROWS OF THE WALK, over worlds by address. A goal 'gW .. pc lv st M': from pc, with the locals lv, the stack st and the world M, the machine comes to Q. -/
abbrev xK : Type := List (ClassId × FieldType)
def cX (p : Program) (m : MethodId) (meth : Method) (c : Code) (cc : ByteArray) (nL : Nat) (s : State) (args : Array Value) (own : String) (D : va_G) (tys : xK) (A : Nat → Prop) : Prop :=
  CallFix p m c cc nL s args xAll own ∧ va_K D xCl tys s ∧ (∀ w ∈ xNw, va_Nw w s) ∧ (∀ q : Nat, s.heap.size ≤ q → A q) ∧ meth.locks = false ∧ sT A s
def gW (p : Program) (l : Launch) (e : Env) (R : Room) (s : State) (m : MethodId) (args : Array Value) (below : List Frame) (meth : Method) (c : Code) (D : va_G) (A : Nat → Prop) (nL cells slots : Nat) (Q : State → Prop) (P : Heap → List Loc → Prop) (pc : Nat) (lv : List (Nat × Value)) (st : List Value) (M : Wm) : Prop :=
  ∀ (H : Heap) (locs : List Loc) (ls : Array Slot), P H locs → wd_ok D xCl A M H → va_S A s.heap H locs → lv_has ls nL lv → W p l e R s m args below meth c H locs cells slots Q (F0 m pc ls st)
/-- heap and places written: whatever they are -/
def wX : Heap → List Loc → Prop := fun _ _ => True
/-- nothing written yet -/
def wN (s : State) : Heap → List Loc → Prop := fun H locs => H = s.heap ∧ locs = []
section XR
variable {p : Program} {l : Launch} {e : Env} {R : Room} {s : State} {m : MethodId} {args : Array Value} {below : List Frame} {meth : Method} {c : Code} {cells slots : Nat} {Q : State → Prop} {P : Heap → List Loc → Prop}
variable {cc : ByteArray} {pc nL : Nat} {own : String} {D : va_G} {A : Nat → Prop} {tys : xK} {lv lv' : List (Nat × Value)} {st : List Value} {M : Wm}
theorem g_iconst (C : cX p m meth c cc nL s args own D tys A) {n : Int} (hd : decode cc pc = .ok (.iconst n, 1)) (k : gW p l e R s m args below meth c D A nL cells slots Q P (pc + 1) lv (.int (iI n) :: st) M) : gW p l e R s m args below meth c D A nL cells slots Q P pc lv st M :=
  fun H locs ls hP hW hS hl => lv_iconst C.1.1 C.1.2.1 hd rfl (k H locs ls hP hW hS hl)
theorem g_bipush (C : cX p m meth c cc nL s args own D tys A) {n : Int} (hd : decode cc pc = .ok (.bipush n, 2)) (hn : (Int8.ofInt n).toInt32 = iI n) (k : gW p l e R s m args below meth c D A nL cells slots Q P (pc + 2) lv (.int (iI n) :: st) M) : gW p l e R s m args below meth c D A nL cells slots Q P pc lv st M :=
  fun H locs ls hP hW hS hl => lv_bipush C.1.1 C.1.2.1 hd hn (k H locs ls hP hW hS hl)
theorem g_sipush (C : cX p m meth c cc nL s args own D tys A) {n : Int} (hd : decode cc pc = .ok (.sipush n, 3)) (hn : (Int16.ofInt n).toInt32 = iI n) (k : gW p l e R s m args below meth c D A nL cells slots Q P (pc + 3) lv (.int (iI n) :: st) M) : gW p l e R s m args below meth c D A nL cells slots Q P pc lv st M :=
  fun H locs ls hP hW hS hl => lv_sipush C.1.1 C.1.2.1 hd hn (k H locs ls hP hW hS hl)
theorem g_ldc (C : cX p m meth c cc nL s args own D tys A) {index : Nat} (n : Int) (hc : Jvm.Cond.constant own index (iI n) ∈ xAll) (hd : decode cc pc = .ok (.ldc index, 2)) (k : gW p l e R s m args below meth c D A nL cells slots Q P (pc + 2) lv (.int (iI n) :: st) M) : gW p l e R s m args below meth c D A nL cells slots Q P pc lv st M :=
  fun H locs ls hP hW hS hl => lv_ldc C.1.1 C.1.2.1 C.1.2.2.2.1 (C.1.2.2.2.2 _ hc) hd (k H locs ls hP hW hS hl)
theorem g_null (C : cX p m meth c cc nL s args own D tys A) (hd : decode cc pc = .ok (.aconst_null, 1)) (k : gW p l e R s m args below meth c D A nL cells slots Q P (pc + 1) lv (.null :: st) M) : gW p l e R s m args below meth c D A nL cells slots Q P pc lv st M :=
  fun H locs ls hP hW hS hl => lv_null C.1.1 C.1.2.1 hd (k H locs ls hP hW hS hl)
theorem g_iload_n (C : cX p m meth c cc nL s args own D tys A) {k0 : Fin 4} (hd : decode cc pc = .ok (.iload_n k0, 1)) (i : Nat) {x : Int32} (hi : lv[i]? = some ((k0 : Nat), .int x)) (k : gW p l e R s m args below meth c D A nL cells slots Q P (pc + 1) lv (.int x :: st) M) : gW p l e R s m args below meth c D A nL cells slots Q P pc lv st M :=
  fun H locs ls hP hW hS hl => lv_iload_n C.1.1 C.1.2.1 hd rfl (lv_at hl i hi) (k H locs ls hP hW hS hl)
theorem g_iload (C : cX p m meth c cc nL s args own D tys A) {k0 : Nat} (hd : decode cc pc = .ok (.iload k0, 2)) (i : Nat) {x : Int32} (hi : lv[i]? = some (k0, .int x)) (k : gW p l e R s m args below meth c D A nL cells slots Q P (pc + 2) lv (.int x :: st) M) : gW p l e R s m args below meth c D A nL cells slots Q P pc lv st M :=
  fun H locs ls hP hW hS hl => lv_iload C.1.1 C.1.2.1 hd (lv_at hl i hi) (k H locs ls hP hW hS hl)
theorem g_aload_n (C : cX p m meth c cc nL s args own D tys A) {k0 : Fin 4} (hd : decode cc pc = .ok (.aload_n k0, 1)) (i : Nat) {x : Nat} (hi : lv[i]? = some ((k0 : Nat), .ref x)) (k : gW p l e R s m args below meth c D A nL cells slots Q P (pc + 1) lv (.ref x :: st) M) : gW p l e R s m args below meth c D A nL cells slots Q P pc lv st M :=
  fun H locs ls hP hW hS hl => lv_aload_n C.1.1 C.1.2.1 hd rfl (lv_at hl i hi) (k H locs ls hP hW hS hl)
theorem g_aload (C : cX p m meth c cc nL s args own D tys A) {k0 : Nat} (hd : decode cc pc = .ok (.aload k0, 2)) (i : Nat) {x : Nat} (hi : lv[i]? = some (k0, .ref x)) (k : gW p l e R s m args below meth c D A nL cells slots Q P (pc + 2) lv (.ref x :: st) M) : gW p l e R s m args below meth c D A nL cells slots Q P pc lv st M :=
  fun H locs ls hP hW hS hl => lv_aload C.1.1 C.1.2.1 hd (lv_at hl i hi) (k H locs ls hP hW hS hl)
theorem g_istore_n (C : cX p m meth c cc nL s args own D tys A) {k0 : Fin 4} {x : Int32} (hd : decode cc pc = .ok (.istore_n k0, 1)) (hn : (k0 : Nat) < nL) (hv : ((k0 : Nat), Value.int x) :: lv.filter (fun q => !(q.1 == (k0 : Nat)) && !(q.1 + 1 == (k0 : Nat) && q.2.category == 2)) = lv') (k : gW p l e R s m args below meth c D A nL cells slots Q P (pc + 1) lv' st M) : gW p l e R s m args below meth c D A nL cells slots Q P pc lv (.int x :: st) M :=
  fun H locs _ hP hW hS hl => lv_istore_n C.1.1 C.1.2.1 hd rfl hl hn hv (fun ls' hl' => k H locs ls' hP hW hS hl')
theorem g_istore (C : cX p m meth c cc nL s args own D tys A) {k0 : Nat} {x : Int32} (hd : decode cc pc = .ok (.istore k0, 2)) (hn : k0 < nL) (hv : (k0, Value.int x) :: lv.filter (fun q => !(q.1 == k0) && !(q.1 + 1 == k0 && q.2.category == 2)) = lv') (k : gW p l e R s m args below meth c D A nL cells slots Q P (pc + 2) lv' st M) : gW p l e R s m args below meth c D A nL cells slots Q P pc lv (.int x :: st) M :=
  fun H locs _ hP hW hS hl => lv_istore C.1.1 C.1.2.1 hd hl hn hv (fun ls' hl' => k H locs ls' hP hW hS hl')
theorem g_astore_n (C : cX p m meth c cc nL s args own D tys A) {k0 : Fin 4} {x : Nat} (hd : decode cc pc = .ok (.astore_n k0, 1)) (hn : (k0 : Nat) < nL) (hv : ((k0 : Nat), Value.ref x) :: lv.filter (fun q => !(q.1 == (k0 : Nat)) && !(q.1 + 1 == (k0 : Nat) && q.2.category == 2)) = lv') (k : gW p l e R s m args below meth c D A nL cells slots Q P (pc + 1) lv' st M) : gW p l e R s m args below meth c D A nL cells slots Q P pc lv (.ref x :: st) M :=
  fun H locs _ hP hW hS hl => lv_astore_n C.1.1 C.1.2.1 hd rfl hl hn hv (fun ls' hl' => k H locs ls' hP hW hS hl')
theorem g_astore (C : cX p m meth c cc nL s args own D tys A) {k0 : Nat} {x : Nat} (hd : decode cc pc = .ok (.astore k0, 2)) (hn : k0 < nL) (hv : (k0, Value.ref x) :: lv.filter (fun q => !(q.1 == k0) && !(q.1 + 1 == k0 && q.2.category == 2)) = lv') (k : gW p l e R s m args below meth c D A nL cells slots Q P (pc + 2) lv' st M) : gW p l e R s m args below meth c D A nL cells slots Q P pc lv (.ref x :: st) M :=
  fun H locs _ hP hW hS hl => lv_astore C.1.1 C.1.2.1 hd hl hn hv (fun ls' hl' => k H locs ls' hP hW hS hl')
theorem g_iinc (C : cX p m meth c cc nL s args own D tys A) {k0 : Nat} {n x : Int} (hd : decode cc pc = .ok (.iinc k0 n, 3)) (i : Nat) (hi : lv[i]? = some (k0, .int (iI x))) (hn : k0 < nL) (hv : (k0, Value.int (iI (x + n))) :: lv.filter (fun q => !(q.1 == k0) && !(q.1 + 1 == k0 && q.2.category == 2)) = lv') (k : gW p l e R s m args below meth c D A nL cells slots Q P (pc + 3) lv' st M) : gW p l e R s m args below meth c D A nL cells slots Q P pc lv st M :=
  fun H locs _ hP hW hS hl => lv_iinc (k := i) C.1.1 C.1.2.1 hd hl hi (iI_add x n) hn hv (fun ls' hl' => k H locs ls' hP hW hS hl')
theorem g_iadd (C : cX p m meth c cc nL s args own D tys A) {a b : Int} (hd : decode cc pc = .ok (.iadd, 1)) (k : gW p l e R s m args below meth c D A nL cells slots Q P (pc + 1) lv (.int (iI (a + b)) :: st) M) : gW p l e R s m args below meth c D A nL cells slots Q P pc lv (.int (iI b) :: .int (iI a) :: st) M :=
  fun H locs ls hP hW hS hl => lv_iadd C.1.1 C.1.2.1 hd (by rw [iI_add]; exact k H locs ls hP hW hS hl)
theorem g_isub (C : cX p m meth c cc nL s args own D tys A) {a b : Int} (hd : decode cc pc = .ok (.isub, 1)) (k : gW p l e R s m args below meth c D A nL cells slots Q P (pc + 1) lv (.int (iI (a - b)) :: st) M) : gW p l e R s m args below meth c D A nL cells slots Q P pc lv (.int (iI b) :: .int (iI a) :: st) M :=
  fun H locs ls hP hW hS hl => lv_isub C.1.1 C.1.2.1 hd (by rw [iI_sub]; exact k H locs ls hP hW hS hl)
theorem g_imul (C : cX p m meth c cc nL s args own D tys A) {a b : Int} (hd : decode cc pc = .ok (.imul, 1)) (k : gW p l e R s m args below meth c D A nL cells slots Q P (pc + 1) lv (.int (iI (a * b)) :: st) M) : gW p l e R s m args below meth c D A nL cells slots Q P pc lv (.int (iI b) :: .int (iI a) :: st) M :=
  fun H locs ls hP hW hS hl => lv_imul C.1.1 C.1.2.1 hd (by rw [iI_mul]; exact k H locs ls hP hW hS hl)
theorem g_ineg (C : cX p m meth c cc nL s args own D tys A) {a : Int} (hd : decode cc pc = .ok (.ineg, 1)) (k : gW p l e R s m args below meth c D A nL cells slots Q P (pc + 1) lv (.int (iI (-a)) :: st) M) : gW p l e R s m args below meth c D A nL cells slots Q P pc lv (.int (iI a) :: st) M :=
  fun H locs ls hP hW hS hl => lv_ineg C.1.1 C.1.2.1 hd (by rw [iI_neg]; exact k H locs ls hP hW hS hl)
theorem g_ishl (C : cX p m meth c cc nL s args own D tys A) {x y : Int32} (z : Int) (hz : x <<< (y &&& 31) = iI z) (hd : decode cc pc = .ok (.ishl, 1)) (k : gW p l e R s m args below meth c D A nL cells slots Q P (pc + 1) lv (.int (iI z) :: st) M) : gW p l e R s m args below meth c D A nL cells slots Q P pc lv (.int y :: .int x :: st) M :=
  fun H locs ls hP hW hS hl => lv_ishl C.1.1 C.1.2.1 hd (by rw [hz]; exact k H locs ls hP hW hS hl)
theorem g_ishr (C : cX p m meth c cc nL s args own D tys A) {x y : Int32} (z : Int) (hz : x >>> (y &&& 31) = iI z) (hd : decode cc pc = .ok (.ishr, 1)) (k : gW p l e R s m args below meth c D A nL cells slots Q P (pc + 1) lv (.int (iI z) :: st) M) : gW p l e R s m args below meth c D A nL cells slots Q P pc lv (.int y :: .int x :: st) M :=
  fun H locs ls hP hW hS hl => lv_ishr C.1.1 C.1.2.1 hd (by rw [hz]; exact k H locs ls hP hW hS hl)
theorem g_iand (C : cX p m meth c cc nL s args own D tys A) {x y : Int32} (z : Int) (hz : x &&& y = iI z) (hd : decode cc pc = .ok (.iand, 1)) (k : gW p l e R s m args below meth c D A nL cells slots Q P (pc + 1) lv (.int (iI z) :: st) M) : gW p l e R s m args below meth c D A nL cells slots Q P pc lv (.int y :: .int x :: st) M :=
  fun H locs ls hP hW hS hl => lv_iand C.1.1 C.1.2.1 hd (by rw [hz]; exact k H locs ls hP hW hS hl)
theorem g_ior (C : cX p m meth c cc nL s args own D tys A) {x y : Int32} (z : Int) (hz : x ||| y = iI z) (hd : decode cc pc = .ok (.ior, 1)) (k : gW p l e R s m args below meth c D A nL cells slots Q P (pc + 1) lv (.int (iI z) :: st) M) : gW p l e R s m args below meth c D A nL cells slots Q P pc lv (.int y :: .int x :: st) M :=
  fun H locs ls hP hW hS hl => lv_ior C.1.1 C.1.2.1 hd (by rw [hz]; exact k H locs ls hP hW hS hl)
theorem g_dup (C : cX p m meth c cc nL s args own D tys A) {v : Value} (hv : v.category = 1) (hd : decode cc pc = .ok (.dup, 1)) (k : gW p l e R s m args below meth c D A nL cells slots Q P (pc + 1) lv (v :: v :: st) M) : gW p l e R s m args below meth c D A nL cells slots Q P pc lv (v :: st) M :=
  fun H locs ls hP hW hS hl => lv_dup C.1.1 C.1.2.1 hd hv (k H locs ls hP hW hS hl)
theorem g_pop (C : cX p m meth c cc nL s args own D tys A) {v : Value} (hv : v.category = 1) (hd : decode cc pc = .ok (.pop, 1)) (k : gW p l e R s m args below meth c D A nL cells slots Q P (pc + 1) lv st M) : gW p l e R s m args below meth c D A nL cells slots Q P pc lv (v :: st) M :=
  fun H locs ls hP hW hS hl => lv_pop C.1.1 C.1.2.1 hd hv (k H locs ls hP hW hS hl)
theorem g_dup2 (C : cX p m meth c cc nL s args own D tys A) {v w : Value} (hv : v.category = 1) (hw : w.category = 1) (hd : decode cc pc = .ok (.dup2, 1)) (k : gW p l e R s m args below meth c D A nL cells slots Q P (pc + 1) lv (v :: w :: v :: w :: st) M) : gW p l e R s m args below meth c D A nL cells slots Q P pc lv (v :: w :: st) M :=
  fun H locs ls hP hW hS hl => lv_dup2_11 C.1.1 C.1.2.1 hd hv hw (k H locs ls hP hW hS hl)
theorem g_dup_x1 (C : cX p m meth c cc nL s args own D tys A) {v w : Value} (hv : v.category = 1) (hw : w.category = 1) (hd : decode cc pc = .ok (.dup_x1, 1)) (k : gW p l e R s m args below meth c D A nL cells slots Q P (pc + 1) lv (v :: w :: v :: st) M) : gW p l e R s m args below meth c D A nL cells slots Q P pc lv (v :: w :: st) M :=
  fun H locs ls hP hW hS hl => lv_dup_x1 C.1.1 C.1.2.1 hd hv hw (k H locs ls hP hW hS hl)
theorem g_goto (C : cX p m meth c cc nL s args own D tys A) {off : Int} (tgt : Nat) (hd : decode cc pc = .ok (.goto off, 3)) (ht : (pc : Int) + off = (tgt : Int)) (k : gW p l e R s m args below meth c D A nL cells slots Q P tgt lv st M) : gW p l e R s m args below meth c D A nL cells slots Q P pc lv st M :=
  fun H locs ls hP hW hS hl => lv_goto C.1.1 C.1.2.1 hd ht (k H locs ls hP hW hS hl)
/-- fewer locals, in any order, by their places -/
theorem g_sub (ks : List Nat) (hk : lv_pick lv ks = lv') (k : gW p l e R s m args below meth c D A nL cells slots Q P pc lv' st M) : gW p l e R s m args below meth c D A nL cells slots Q P pc lv st M :=
  fun H locs ls hP hW hS hl => k H locs ls hP hW hS (lv_sub hl ks hk)
theorem g_world {M' : Wm} (hM : M = M') (k : gW p l e R s m args below meth c D A nL cells slots Q P pc lv st M') : gW p l e R s m args below meth c D A nL cells slots Q P pc lv st M := by
  rw [hM]; exact k
theorem g_widen {k n : Nat} (h1 : cells ≤ k) (h2 : slots ≤ n) (kk : gW p l e R s m args below meth c D A nL k n Q P pc lv st M) : gW p l e R s m args below meth c D A nL cells slots Q P pc lv st M :=
  fun H locs ls hP hW hS hl => W.widen h1 h2 (kk H locs ls hP hW hS hl)
theorem g_icmp_eq (C : cX p m meth c cc nL s args own D tys A) {a b off : Int} (tgt : Nat) (hd : decode cc pc = .ok (.if_icmp .eq off, 3)) (ht : (pc : Int) + off = (tgt : Int)) (hr : (-2147483648 ≤ a ∧ a < 2147483648) ∧ (-2147483648 ≤ b ∧ b < 2147483648))
    (kt : a = b → gW p l e R s m args below meth c D A nL cells slots Q P tgt lv st M) (kf : ¬ (a = b) → gW p l e R s m args below meth c D A nL cells slots Q P (pc + 3) lv st M) : gW p l e R s m args below meth c D A nL cells slots Q P pc lv (.int (iI b) :: .int (iI a) :: st) M := by
  obtain ⟨ha, hb⟩ := hr
  intro H locs ls hP hW hS hl
  refine lv_icmp_eq C.1.1 C.1.2.1 hd ht (fun q => kt ((iI_eq ha hb).mp q) H locs ls hP hW hS hl) (fun q => kf (fun z => q ?_) H locs ls hP hW hS hl)
  have q := z
  exact (iI_eq ha hb).mpr q
theorem g_icmp_ne (C : cX p m meth c cc nL s args own D tys A) {a b off : Int} (tgt : Nat) (hd : decode cc pc = .ok (.if_icmp .ne off, 3)) (ht : (pc : Int) + off = (tgt : Int)) (hr : (-2147483648 ≤ a ∧ a < 2147483648) ∧ (-2147483648 ≤ b ∧ b < 2147483648))
    (kt : ¬ a = b → gW p l e R s m args below meth c D A nL cells slots Q P tgt lv st M) (kf : a = b → gW p l e R s m args below meth c D A nL cells slots Q P (pc + 3) lv st M) : gW p l e R s m args below meth c D A nL cells slots Q P pc lv (.int (iI b) :: .int (iI a) :: st) M := by
  obtain ⟨ha, hb⟩ := hr
  intro H locs ls hP hW hS hl
  refine lv_icmp_ne C.1.1 C.1.2.1 hd ht (fun q => kt (fun r => q ((iI_eq ha hb).mpr r)) H locs ls hP hW hS hl) (fun q => kf ((iI_eq ha hb).mp q) H locs ls hP hW hS hl)
theorem g_icmp_lt (C : cX p m meth c cc nL s args own D tys A) {a b off : Int} (tgt : Nat) (hd : decode cc pc = .ok (.if_icmp .lt off, 3)) (ht : (pc : Int) + off = (tgt : Int)) (hr : (-2147483648 ≤ a ∧ a < 2147483648) ∧ (-2147483648 ≤ b ∧ b < 2147483648))
    (kt : a < b → gW p l e R s m args below meth c D A nL cells slots Q P tgt lv st M) (kf : ¬ (a < b) → gW p l e R s m args below meth c D A nL cells slots Q P (pc + 3) lv st M) : gW p l e R s m args below meth c D A nL cells slots Q P pc lv (.int (iI b) :: .int (iI a) :: st) M := by
  obtain ⟨ha, hb⟩ := hr
  intro H locs ls hP hW hS hl
  refine lv_icmp_lt C.1.1 C.1.2.1 hd ht (fun q => kt ((iI_lt ha hb).mp q) H locs ls hP hW hS hl) (fun q => kf (fun z => q ?_) H locs ls hP hW hS hl)
  have q := z
  exact (iI_lt ha hb).mpr q
theorem g_icmp_ge (C : cX p m meth c cc nL s args own D tys A) {a b off : Int} (tgt : Nat) (hd : decode cc pc = .ok (.if_icmp .ge off, 3)) (ht : (pc : Int) + off = (tgt : Int)) (hr : (-2147483648 ≤ a ∧ a < 2147483648) ∧ (-2147483648 ≤ b ∧ b < 2147483648))
    (kt : b ≤ a → gW p l e R s m args below meth c D A nL cells slots Q P tgt lv st M) (kf : ¬ (b ≤ a) → gW p l e R s m args below meth c D A nL cells slots Q P (pc + 3) lv st M) : gW p l e R s m args below meth c D A nL cells slots Q P pc lv (.int (iI b) :: .int (iI a) :: st) M := by
  obtain ⟨ha, hb⟩ := hr
  intro H locs ls hP hW hS hl
  refine lv_icmp_ge C.1.1 C.1.2.1 hd ht (fun q => kt ((iI_le hb ha).mp q) H locs ls hP hW hS hl) (fun q => kf (fun z => q ?_) H locs ls hP hW hS hl)
  have q := z
  exact (iI_le hb ha).mpr q
theorem g_icmp_gt (C : cX p m meth c cc nL s args own D tys A) {a b off : Int} (tgt : Nat) (hd : decode cc pc = .ok (.if_icmp .gt off, 3)) (ht : (pc : Int) + off = (tgt : Int)) (hr : (-2147483648 ≤ a ∧ a < 2147483648) ∧ (-2147483648 ≤ b ∧ b < 2147483648))
    (kt : b < a → gW p l e R s m args below meth c D A nL cells slots Q P tgt lv st M) (kf : ¬ (b < a) → gW p l e R s m args below meth c D A nL cells slots Q P (pc + 3) lv st M) : gW p l e R s m args below meth c D A nL cells slots Q P pc lv (.int (iI b) :: .int (iI a) :: st) M := by
  obtain ⟨ha, hb⟩ := hr
  intro H locs ls hP hW hS hl
  refine lv_icmp_gt C.1.1 C.1.2.1 hd ht (fun q => kt ((iI_lt hb ha).mp q) H locs ls hP hW hS hl) (fun q => kf (fun z => q ?_) H locs ls hP hW hS hl)
  have q := z
  exact (iI_lt hb ha).mpr q
theorem g_icmp_le (C : cX p m meth c cc nL s args own D tys A) {a b off : Int} (tgt : Nat) (hd : decode cc pc = .ok (.if_icmp .le off, 3)) (ht : (pc : Int) + off = (tgt : Int)) (hr : (-2147483648 ≤ a ∧ a < 2147483648) ∧ (-2147483648 ≤ b ∧ b < 2147483648))
    (kt : a ≤ b → gW p l e R s m args below meth c D A nL cells slots Q P tgt lv st M) (kf : ¬ (a ≤ b) → gW p l e R s m args below meth c D A nL cells slots Q P (pc + 3) lv st M) : gW p l e R s m args below meth c D A nL cells slots Q P pc lv (.int (iI b) :: .int (iI a) :: st) M := by
  obtain ⟨ha, hb⟩ := hr
  intro H locs ls hP hW hS hl
  refine lv_icmp_le C.1.1 C.1.2.1 hd ht (fun q => kt ((iI_le ha hb).mp q) H locs ls hP hW hS hl) (fun q => kf (fun z => q ?_) H locs ls hP hW hS hl)
  have q := z
  exact (iI_le ha hb).mpr q
theorem g_if_eq (C : cX p m meth c cc nL s args own D tys A) {a off : Int} (tgt : Nat) (hd : decode cc pc = .ok (.ifCond .eq off, 3)) (ht : (pc : Int) + off = (tgt : Int)) (ha : (-2147483648 ≤ a ∧ a < 2147483648))
    (kt : a = 0 → gW p l e R s m args below meth c D A nL cells slots Q P tgt lv st M) (kf : ¬ (a = 0) → gW p l e R s m args below meth c D A nL cells slots Q P (pc + 3) lv st M) : gW p l e R s m args below meth c D A nL cells slots Q P pc lv (.int (iI a) :: st) M := by
  have h0 : -2147483648 ≤ (0 : Int) ∧ (0 : Int) < 2147483648 := by omega
  intro H locs ls hP hW hS hl
  refine lv_if_eq C.1.1 C.1.2.1 hd ht (fun q => kt ((iI_eq ha h0).mp q) H locs ls hP hW hS hl) (fun q => kf (fun z => q ?_) H locs ls hP hW hS hl)
  have q := z
  exact (iI_eq ha h0).mpr q
theorem g_if_ne (C : cX p m meth c cc nL s args own D tys A) {a off : Int} (tgt : Nat) (hd : decode cc pc = .ok (.ifCond .ne off, 3)) (ht : (pc : Int) + off = (tgt : Int)) (ha : (-2147483648 ≤ a ∧ a < 2147483648))
    (kt : ¬ a = 0 → gW p l e R s m args below meth c D A nL cells slots Q P tgt lv st M) (kf : a = 0 → gW p l e R s m args below meth c D A nL cells slots Q P (pc + 3) lv st M) : gW p l e R s m args below meth c D A nL cells slots Q P pc lv (.int (iI a) :: st) M := by
  have h0 : -2147483648 ≤ (0 : Int) ∧ (0 : Int) < 2147483648 := by omega
  intro H locs ls hP hW hS hl
  refine lv_if_ne C.1.1 C.1.2.1 hd ht (fun q => kt (fun r => q ((iI_eq ha h0).mpr r)) H locs ls hP hW hS hl) (fun q => kf ((iI_eq ha h0).mp q) H locs ls hP hW hS hl)
theorem g_if_lt (C : cX p m meth c cc nL s args own D tys A) {a off : Int} (tgt : Nat) (hd : decode cc pc = .ok (.ifCond .lt off, 3)) (ht : (pc : Int) + off = (tgt : Int)) (ha : (-2147483648 ≤ a ∧ a < 2147483648))
    (kt : a < 0 → gW p l e R s m args below meth c D A nL cells slots Q P tgt lv st M) (kf : ¬ (a < 0) → gW p l e R s m args below meth c D A nL cells slots Q P (pc + 3) lv st M) : gW p l e R s m args below meth c D A nL cells slots Q P pc lv (.int (iI a) :: st) M := by
  have h0 : -2147483648 ≤ (0 : Int) ∧ (0 : Int) < 2147483648 := by omega
  intro H locs ls hP hW hS hl
  refine lv_if_lt C.1.1 C.1.2.1 hd ht (fun q => kt ((iI_lt ha h0).mp q) H locs ls hP hW hS hl) (fun q => kf (fun z => q ?_) H locs ls hP hW hS hl)
  have q := z
  exact (iI_lt ha h0).mpr q
theorem g_if_ge (C : cX p m meth c cc nL s args own D tys A) {a off : Int} (tgt : Nat) (hd : decode cc pc = .ok (.ifCond .ge off, 3)) (ht : (pc : Int) + off = (tgt : Int)) (ha : (-2147483648 ≤ a ∧ a < 2147483648))
    (kt : 0 ≤ a → gW p l e R s m args below meth c D A nL cells slots Q P tgt lv st M) (kf : ¬ (0 ≤ a) → gW p l e R s m args below meth c D A nL cells slots Q P (pc + 3) lv st M) : gW p l e R s m args below meth c D A nL cells slots Q P pc lv (.int (iI a) :: st) M := by
  have h0 : -2147483648 ≤ (0 : Int) ∧ (0 : Int) < 2147483648 := by omega
  intro H locs ls hP hW hS hl
  refine lv_if_ge C.1.1 C.1.2.1 hd ht (fun q => kt ((iI_le h0 ha).mp q) H locs ls hP hW hS hl) (fun q => kf (fun z => q ?_) H locs ls hP hW hS hl)
  have q := z
  exact (iI_le h0 ha).mpr q
theorem g_if_gt (C : cX p m meth c cc nL s args own D tys A) {a off : Int} (tgt : Nat) (hd : decode cc pc = .ok (.ifCond .gt off, 3)) (ht : (pc : Int) + off = (tgt : Int)) (ha : (-2147483648 ≤ a ∧ a < 2147483648))
    (kt : 0 < a → gW p l e R s m args below meth c D A nL cells slots Q P tgt lv st M) (kf : ¬ (0 < a) → gW p l e R s m args below meth c D A nL cells slots Q P (pc + 3) lv st M) : gW p l e R s m args below meth c D A nL cells slots Q P pc lv (.int (iI a) :: st) M := by
  have h0 : -2147483648 ≤ (0 : Int) ∧ (0 : Int) < 2147483648 := by omega
  intro H locs ls hP hW hS hl
  refine lv_if_gt C.1.1 C.1.2.1 hd ht (fun q => kt ((iI_lt h0 ha).mp q) H locs ls hP hW hS hl) (fun q => kf (fun z => q ?_) H locs ls hP hW hS hl)
  have q := z
  exact (iI_lt h0 ha).mpr q
theorem g_if_le (C : cX p m meth c cc nL s args own D tys A) {a off : Int} (tgt : Nat) (hd : decode cc pc = .ok (.ifCond .le off, 3)) (ht : (pc : Int) + off = (tgt : Int)) (ha : (-2147483648 ≤ a ∧ a < 2147483648))
    (kt : a ≤ 0 → gW p l e R s m args below meth c D A nL cells slots Q P tgt lv st M) (kf : ¬ (a ≤ 0) → gW p l e R s m args below meth c D A nL cells slots Q P (pc + 3) lv st M) : gW p l e R s m args below meth c D A nL cells slots Q P pc lv (.int (iI a) :: st) M := by
  have h0 : -2147483648 ≤ (0 : Int) ∧ (0 : Int) < 2147483648 := by omega
  intro H locs ls hP hW hS hl
  refine lv_if_le C.1.1 C.1.2.1 hd ht (fun q => kt ((iI_le ha h0).mp q) H locs ls hP hW hS hl) (fun q => kf (fun z => q ?_) H locs ls hP hW hS hl)
  have q := z
  exact (iI_le ha h0).mpr q
theorem g_ifnull (C : cX p m meth c cc nL s args own D tys A) {x : Nat} {off : Int} (hd : decode cc pc = .ok (.ifnull off, 3)) (k : gW p l e R s m args below meth c D A nL cells slots Q P (pc + 3) lv st M) : gW p l e R s m args below meth c D A nL cells slots Q P pc lv (.ref x :: st) M :=
  fun H locs ls hP hW hS hl => lv_ifnull C.1.1 C.1.2.1 hd (k H locs ls hP hW hS hl)
theorem g_ifnullN (C : cX p m meth c cc nL s args own D tys A) {off : Int} (tgt : Nat) (hd : decode cc pc = .ok (.ifnull off, 3)) (ht : (pc : Int) + off = (tgt : Int)) (k : gW p l e R s m args below meth c D A nL cells slots Q P tgt lv st M) : gW p l e R s m args below meth c D A nL cells slots Q P pc lv (.null :: st) M :=
  fun H locs ls hP hW hS hl => lv_ifnullN C.1.1 C.1.2.1 hd ht (k H locs ls hP hW hS hl)
theorem g_ifnonnull (C : cX p m meth c cc nL s args own D tys A) {x : Nat} {off : Int} (tgt : Nat) (hd : decode cc pc = .ok (.ifnonnull off, 3)) (ht : (pc : Int) + off = (tgt : Int)) (k : gW p l e R s m args below meth c D A nL cells slots Q P tgt lv st M) : gW p l e R s m args below meth c D A nL cells slots Q P pc lv (.ref x :: st) M :=
  fun H locs ls hP hW hS hl => lv_ifnonnull C.1.1 C.1.2.1 hd ht (k H locs ls hP hW hS hl)
theorem g_ifnonnullN (C : cX p m meth c cc nL s args own D tys A) {off : Int} (hd : decode cc pc = .ok (.ifnonnull off, 3)) (k : gW p l e R s m args below meth c D A nL cells slots Q P (pc + 3) lv st M) : gW p l e R s m args below meth c D A nL cells slots Q P pc lv (.null :: st) M :=
  fun H locs ls hP hW hS hl => lv_ifnonnullN C.1.1 C.1.2.1 hd (k H locs ls hP hW hS hl)
end XR
/-- a getfield of own at the pool's index: field k of the world's class ci -/
def xF (own : String) (index ci k : Nat) : Prop := ∃ (CN : String) (T : u_T) (N : Nat), xCl[ci]? = some (CN, T, N) ∧ (∀ w ∈ u_ws CN T N, w ∈ xAll) ∧ k < N ∧ (Cond.fieldLink own index (T k).1 (T k).2.1 (T k).2.2.1 ∈ xAll ∨ ∃ host, Cond.fieldLinkNest own index (T k).1 (T k).2.1 (T k).2.2.1 host ∈ xNw)
/-- a putfield, of a field that isn't final, of the type ty -/
def xP (own : String) (index ci k : Nat) (ty : FieldType) : Prop := ∃ (CN : String) (T : u_T) (N : Nat) (ty0 : Nat → FieldType), xCl[ci]? = some (CN, T, N) ∧ (∀ w ∈ u_ws CN T N, w ∈ xAll) ∧ (∀ k, k < N → parseFieldDescriptor (T k).2.2.1 = some (ty0 k)) ∧ (∀ a, a < N → ∀ b, b < N → a ≠ b → (T a).2.1 ≠ (T b).2.1) ∧ k < N ∧ (Cond.fieldLink own index (T k).1 (T k).2.1 (T k).2.2.1 ∈ xAll ∨ ∃ host, Cond.fieldLinkNest own index (T k).1 (T k).2.1 (T k).2.2.1 host ∈ xNw) ∧ parseFieldDescriptor (T k).2.2.1 = some ty ∧ (T k).2.2.2 = false
/-- of a final one, in its class's constructor -/
def xPF (own : String) (index ci k : Nat) (ty : FieldType) : Prop := ∃ (CN : String) (T : u_T) (N : Nat) (ty0 : Nat → FieldType), xCl[ci]? = some (CN, T, N) ∧ (∀ w ∈ u_ws CN T N, w ∈ xAll) ∧ (∀ k, k < N → parseFieldDescriptor (T k).2.2.1 = some (ty0 k)) ∧ (∀ a, a < N → ∀ b, b < N → a ≠ b → (T a).2.1 ≠ (T b).2.1) ∧ k < N ∧ Cond.fieldLink own index (T k).1 (T k).2.1 (T k).2.2.1 ∈ xAll ∧ parseFieldDescriptor (T k).2.2.1 = some ty ∧ (T k).2.2.2 = true ∧ (T k).1 = own
def tc (tys : xK) (k : Nat) : ClassId := (tys.getD k (0, .int)).1
section XO
variable {p : Program} {l : Launch} {e : Env} {R : Room} {s : State} {m : MethodId} {args : Array Value} {below : List Frame} {meth : Method} {c : Code} {cells slots : Nat} {Q : State → Prop} {P : Heap → List Loc → Prop}
variable {cc : ByteArray} {pc nL : Nat} {own : String} {D : va_G} {A : Nat → Prop} {tys : xK} {lv lv' : List (Nat × Value)} {st : List Value} {M : Wm}
theorem g_get (C : cX p m meth c cc nL s args own D tys A) {ci k index a : Nat} {fs : List Value} {v : Value} (hF : xF own index ci k) (he : M a = some (.inr (ci, fs))) (hv : fs[k]? = some v) (hd : decode cc pc = .ok (.getfield index, 3)) (kk : gW p l e R s m args below meth c D A nL cells slots Q P (pc + 3) lv (v :: st) M) : gW p l e R s m args below meth c D A nL cells slots Q P pc lv (.ref a :: st) M := by
  obtain ⟨CN, T, N, hc, hin, hk, hl | ⟨host, hl⟩⟩ := hF
  · exact fun H locs ls hP hW hS hls => va_get C.1.1 C.1.2.1 C.1.2.2.2.2 hin C.1.2.2.2.1 C.2.1 (wd_one hW he) 0 rfl hc k hk (C.1.2.2.2.2 _ hl) (fun _ h => h) hv hd (kk H locs ls hP hW hS hls)
  · exact fun H locs ls hP hW hS hls => va_getN C.1.1 C.1.2.1 C.1.2.2.2.2 hin C.1.2.2.2.1 C.2.1 (wd_one hW he) 0 rfl hc k hk (va_Nw.use rfl (C.2.2.1 _ hl)) (fun _ h => h) hv hd (kk H locs ls hP hW hS hls)
theorem g_put (C : cX p m meth c cc nL s args own D tys A) {ci k index a : Nat} {ty : FieldType} {fs fs' : List Value} {v : Value} (hF : xP own index ci k ty) (he : M a = some (.inr (ci, fs))) (hn : narrow ty v = v) (hfit : fits ty v = true) (hlen : k < fs.length) (hfs : fs.set k v = fs') (hd : decode cc pc = .ok (.putfield index, 3)) (kk : gW p l e R s m args below meth c D A nL cells slots Q wX (pc + 3) lv st (va_up M a (some (.inr (ci, fs'))))) : gW p l e R s m args below meth c D A nL cells slots Q P pc lv (v :: .ref a :: st) M := by
  subst hfs
  obtain ⟨CN, T, N, ty0, hc, hin, hty, hnm, hk, hl, hdp, hfin⟩ := hF
  intro H locs ls hP hW hS hls
  obtain ⟨q0, hq0⟩ := wd_ls_at hW he
  rcases hl with hl | ⟨host, hl⟩
  · exact va_put C.1.1 C.1.2.1 C.1.2.2.2.2 hin ty0 hty hnm C.1.2.2.2.1 C.2.1 (wd_ls_P hW _) (wd_ls_D hW _) hS q0 hq0 hc k hk (C.1.2.2.2.2 _ hl) (fun _ h => h) hfin hdp hn hfit hlen hd (fun H1 locs1 h1 _ hS1 => kk H1 locs1 ls trivial (wd_set hW hq0 h1) hS1 hls)
  · exact va_putN C.1.1 C.1.2.1 C.1.2.2.2.2 hin ty0 hty hnm C.1.2.2.2.1 C.2.1 (wd_ls_P hW _) (wd_ls_D hW _) hS q0 hq0 hc k hk (va_Nw.use rfl (C.2.2.1 _ hl)) (fun _ h => h) hfin hdp hn hfit hlen hd (fun H1 locs1 h1 _ hS1 => kk H1 locs1 ls trivial (wd_set hW hq0 h1) hS1 hls)
theorem g_putF (C : cX p m meth c cc nL s args own D tys A) (hin2 : meth.name = "<init>") {ci k index a : Nat} {ty : FieldType} {fs fs' : List Value} {v : Value} (hF : xPF own index ci k ty) (he : M a = some (.inr (ci, fs))) (hn : narrow ty v = v) (hfit : fits ty v = true) (hlen : k < fs.length) (hfs : fs.set k v = fs') (hd : decode cc pc = .ok (.putfield index, 3)) (kk : gW p l e R s m args below meth c D A nL cells slots Q wX (pc + 3) lv st (va_up M a (some (.inr (ci, fs'))))) : gW p l e R s m args below meth c D A nL cells slots Q P pc lv (v :: .ref a :: st) M := by
  subst hfs
  obtain ⟨CN, T, N, ty0, hc, hin, hty, hnm, hk, hl, hdp, hfin, hdecl⟩ := hF
  intro H locs ls hP hW hS hls
  obtain ⟨q0, hq0⟩ := wd_ls_at hW he
  exact va_putF C.1.1 C.1.2.1 C.1.2.2.2.2 hin ty0 hty hnm C.1.2.2.2.1 C.2.1 (wd_ls_P hW _) (wd_ls_D hW _) hS q0 hq0 hc k hk (C.1.2.2.2.2 _ hl) (fun _ h => h) hfin hin2 hdecl hdp hn hfit hlen hd (fun H1 locs1 h1 _ hS1 => kk H1 locs1 ls trivial (wd_set hW hq0 h1) hS1 hls)
theorem g_iald (C : cX p m meth c cc nL s args own D tys A) {a n : Nat} {f : Nat → Int} {z : Int} (t0 : Nat) (ht : tys[t0]? = some (tc tys t0, .int)) (he : M a = some (.inl (tc tys t0, n, .inl (fun j => iI (f j))))) (hz : (0 ≤ z ∧ z < n) ∧ n < 2147483648) (hd : decode cc pc = .ok (.iaload, 1)) (kk : gW p l e R s m args below meth c D A nL cells slots Q P (pc + 1) lv (.int (iI (f z.toNat)) :: st) M) : gW p l e R s m args below meth c D A nL cells slots Q P pc lv (.int (iI z) :: .ref a :: st) M := by
  intro H locs ls hP hW hS hls
  refine va_iald C.1.1 C.1.2.1 C.2.1 (wd_one hW he) 0 t0 rfl ht (iI_in hz.1 hz.2) hd ?_
  rw [iI_clamp (by omega)]
  exact kk H locs ls hP hW hS hls
theorem iI_upd (f : Nat → Int) (k : Nat) (v : Int) : upd (fun j => iI (f j)) k (iI v) = fun j => iI (va_up f k v j) := by
  funext j
  unfold upd va_up
  by_cases h : j = k
  · rw [if_pos h, if_pos h]
  · rw [if_neg h, if_neg h]
theorem g_iast (C : cX p m meth c cc nL s args own D tys A) {a n : Nat} {f : Nat → Int} {z v : Int} (t0 : Nat) (ht : tys[t0]? = some (tc tys t0, .int)) (he : M a = some (.inl (tc tys t0, n, .inl (fun j => iI (f j))))) (hz : (0 ≤ z ∧ z < n) ∧ n < 2147483648) (hd : decode cc pc = .ok (.iastore, 1)) (kk : gW p l e R s m args below meth c D A nL cells slots Q wX (pc + 1) lv st (va_up M a (some (.inl (tc tys t0, n, .inl (fun j => iI (va_up f z.toNat v j))))))) : gW p l e R s m args below meth c D A nL cells slots Q P pc lv (.int (iI v) :: .int (iI z) :: .ref a :: st) M := by
  intro H locs ls hP hW hS hls
  obtain ⟨q0, hq0⟩ := wd_ls_at hW he
  refine va_iast C.1.1 C.1.2.1 C.2.1 (wd_ls_P hW _) (wd_ls_D hW _) hS q0 t0 hq0 ht (iI_in hz.1 hz.2) hd (fun H1 locs1 h1 _ hS1 => ?_)
  have h2 := wd_set hW hq0 h1
  rw [iI_clamp (by omega), iI_upd] at h2
  exact kk H1 locs1 ls trivial h2 hS1 hls
theorem g_aald (C : cX p m meth c cc nL s args own D tys A) {a n b : Nat} {f : Nat → Option Nat} {z : Int} {CN : String} (t0 : Nat) (ht : tys[t0]? = some (tc tys t0, .object CN)) (he : M a = some (.inl (tc tys t0, n, .inr (.inr (.inr (.inr f)))))) (hz : (0 ≤ z ∧ z < n) ∧ n < 2147483648) (hb : f z.toNat = some b) (hd : decode cc pc = .ok (.aaload, 1)) (kk : gW p l e R s m args below meth c D A nL cells slots Q P (pc + 1) lv (.ref b :: st) M) : gW p l e R s m args below meth c D A nL cells slots Q P pc lv (.int (iI z) :: .ref a :: st) M := by
  intro H locs ls hP hW hS hls
  refine va_aldq C.1.1 C.1.2.1 C.2.1 (wd_one hW he) 0 t0 rfl ht (iI_in hz.1 hz.2) hd ?_
  rw [iI_clamp (by omega), hb]
  exact kk H locs ls hP hW hS hls
theorem g_aast (C : cX p m meth c cc nL s args own D tys A) {a n b ci : Nat} {f : Nat → Option Nat} {vs : List Value} {z : Int} {CN : String} {T : u_T} {N : Nat} (t0 : Nat) (ht : tys[t0]? = some (tc tys t0, .object CN)) (hc : xCl[ci]? = some (CN, T, N)) (he : M a = some (.inl (tc tys t0, n, .inr (.inr (.inr (.inr f)))))) (hb : M b = some (.inr (ci, vs))) (hz : (0 ≤ z ∧ z < n) ∧ n < 2147483648) (hd : decode cc pc = .ok (.aastore, 1)) (kk : gW p l e R s m args below meth c D A nL cells slots Q wX (pc + 1) lv st (va_up M a (some (.inl (tc tys t0, n, .inr (.inr (.inr (.inr (va_up f z.toNat (some b)))))))))) : gW p l e R s m args below meth c D A nL cells slots Q P pc lv (.ref b :: .int (iI z) :: .ref a :: st) M := by
  intro H locs ls hP hW hS hls
  obtain ⟨q0, hq0⟩ := wd_ls_at hW he
  obtain ⟨qk, hqk⟩ := wd_ls_at hW hb
  refine va_astq (r := (CN, T, N)) C.1.1 C.1.2.1 C.2.1 (wd_ls_P hW _) (wd_ls_D hW _) hS q0 t0 qk ci hq0 ht hqk hc (iI_in hz.1 hz.2) hd (fun H1 locs1 h1 _ hS1 => ?_)
  have h2 := wd_set hW hq0 h1
  rw [iI_clamp (by omega)] at h2
  exact kk H1 locs1 ls trivial h2 hS1 hls
theorem g_alen (C : cX p m meth c cc nL s args own D tys A) {a : Nat} {x : vp_A} {ty : FieldType} (t0 : Nat) (ht : tys[t0]? = some (tc tys t0, ty)) (he : M a = some (.inl (tc tys t0, x))) (hd : decode cc pc = .ok (.arraylength, 1)) (kk : gW p l e R s m args below meth c D A nL cells slots Q P (pc + 1) lv (.int (iI (x.1 : Nat)) :: st) M) : gW p l e R s m args below meth c D A nL cells slots Q P pc lv (.ref a :: st) M := by
  intro H locs ls hP hW hS hls
  exact va_alen C.1.1 C.1.2.1 C.2.1 (wd_one hW he) 0 t0 rfl ht (iI_nat x.1).symm hd (kk H locs ls hP hW hS hls)
end XO
end
section
/-! CONTRACTS OVER WORLDS, entry and ends of a method, calls. -/
def cT (D : va_G) (tys : xK) (A : Nat → Prop) (M : Wm) (U : State) : Prop := wd_ok D xCl A M U.heap ∧ va_K D xCl tys U ∧ (∀ w ∈ xNw, va_Nw w U) ∧ (∀ q : Nat, U.heap.size ≤ q → A q) ∧ sT A U
abbrev qI (D : va_G) (A : Nat → Prop) (post : Int → Wm → Prop) : Array Value → State → Outcome → State → Prop := va_Qi (fun r M' => ∃ z : Int, r = iI z ∧ post z M') (fun M' t => wd_ok D xCl A M' t.heap) A
abbrev qV (D : va_G) (A : Nat → Prop) (post : Wm → Prop) : Array Value → State → Outcome → State → Prop := va_Qv post (fun M' t => wd_ok D xCl A M' t.heap) A
abbrev qR (D : va_G) (A : Nat → Prop) (post : Nat → Wm → Prop) : Array Value → State → Outcome → State → Prop := va_Qr (fun _ : Wm => True) (fun M' a t => post a M' ∧ wd_ok D xCl A M' t.heap) A
/-- an answer, and nothing changed -/
abbrev qP (post : Int → Prop) : Array Value → State → Outcome → State → Prop := fun _ st oc t => ∃ z : Int, oc = .returned (some (.int (iI z))) ∧ post z ∧ t.heap = st.heap
abbrev qPR (post : Nat → Prop) : Array Value → State → Outcome → State → Prop := fun _ st oc t => ∃ a : Nat, oc = .returned (some (.ref a)) ∧ post a ∧ t.heap = st.heap
abbrev wsY (y : MethodName) (cc : ByteArray) (maxL : Nat) (ret : Option FieldType) : List Cond := Cond.code y cc maxL ret :: xAll
/-- a contract: y, on the arguments av and the world M -/
abbrev pT (l : Launch) (y : MethodName) (cc : ByteArray) (maxL : Nat) (ret : Option FieldType) (rm : Room) (D : va_G) (tys : xK) (A : Nat → Prop) (av : List Value) (M : Wm) (Qc : Array Value → State → Outcome → State → Prop) : Prop := Met l y (wsY y cc maxL ret) rm (va_Pc av (cT D tys A M)) Qc 0 0 (fun _ => False)
abbrev mT (l : Launch) (y : MethodName) (cc : ByteArray) (maxL : Nat) (ret : Option FieldType) (rm : Room) (D : va_G) (tys : xK) (A : Nat → Prop) (av : List Value) (M : Wm) (Qc : Array Value → State → Outcome → State → Prop) (mc ms : Nat) : Prop := Met l y (wsY y cc maxL ret) rm (va_Pc av (cT D tys A M)) Qc mc ms A
theorem met_of {own : String} {free : Addr → Prop} {l : Launch} {y : MethodName} {cc : ByteArray} {maxL : Nat} {ret : Option FieldType} {rm : Room} {D : va_G} {tys : xK} {A : Nat → Prop} {av : List Value} {lv : List (Nat × Value)} {M : Wm} {Qc : Array Value → State → Outcome → State → Prop} {mc ms : Nat}
    (ho : y.cls = own) (hy : plainName own = true) (hlen : (lg_sl av).length ≤ maxL) (hlv : lv_args 0 av = lv)
    (body : ∀ (p : Program) (e : Env) (s : State) (m : MethodId) (below : List Frame) (meth : Method) (c : Code), cX p m meth c cc maxL s av.toArray own D tys A → meth.sig.returnType = ret → meth.name = y.name → gW p l e rm s m av.toArray below meth c D A maxL 0 0 (MQ below Qc av.toArray s mc ms free) (wN s) 0 lv [] M) : Met l y (wsY y cc maxL ret) rm (va_Pc av (cT D tys A M)) Qc mc ms free := by
  subst hlv
  subst ho
  refine Met.ofW (cc := cc) (maxL := maxL) (ret := ret) hy rfl ?_
  intro p e s m args below meth c s₁ B hml hv
  obtain ⟨rfl, hW, hK, hN, hA, hZ⟩ := hv
  have hts := atoms_spec (ws := wsY y cc maxL ret) B.pre
  have hown : s.vm.findClass y.cls = some m.cls := findClass_of_methodNamed B.named
  have hl := lv_entry av (n := maxL) hlen
  rw [lg_entry_eq]
  exact body p e s m below meth c ⟨⟨B.exec, B.bytes, hml, hown, fun w h => hts w (List.mem_cons_of_mem _ h)⟩, hK, hN, hA, B.notSynchronized, hZ⟩ B.returns (name_of_methodNamed B.named B.method).1 s.heap [] _ ⟨rfl, rfl⟩ hW va_S.rf hl
section XE
variable {p : Program} {l : Launch} {e : Env} {R : Room} {s : State} {m : MethodId} {args : Array Value} {below : List Frame} {meth : Method} {c : Code} {cells slots : Nat} {Q : State → Prop} {P : Heap → List Loc → Prop}
variable {cc : ByteArray} {pc nL : Nat} {own : String} {D : va_G} {A : Nat → Prop} {tys : xK} {lv lv' : List (Nat × Value)} {st : List Value} {M : Wm}
theorem g_iret (C : cX p m meth c cc nL s args own D tys A) {post : Int → Wm → Prop} {z : Int} (hr : meth.sig.returnType = some .int) (hd : decode cc pc = .ok (.ireturn, 1)) (hp : post z M) : gW p l e R s m args below meth c D A nL cells slots (MQ below (qI D A post) args s cells slots A) P pc lv [.int (iI z)] M :=
  fun _ _ _ _ hW hS _ => W.iret C.1.1 C.1.2.1 hr (fun t ht _ => ⟨⟨iI z, M, rfl, ⟨z, rfl, hp⟩, by show wd_ok D xCl A M t.heap; rw [ht]; exact hW⟩, hS.F ht⟩) hS.2.2 hd C.2.2.2.2.1
theorem g_zret (C : cX p m meth c cc nL s args own D tys A) {post : Int → Wm → Prop} {z : Int} (hr : meth.sig.returnType = some .boolean) (hz : z = 0 ∨ z = 1) (hd : decode cc pc = .ok (.ireturn, 1)) (hp : post z M) : gW p l e R s m args below meth c D A nL cells slots (MQ below (qI D A post) args s cells slots A) P pc lv [.int (iI z)] M :=
  fun _ _ _ _ hW hS _ => W.zret C.1.1 C.1.2.1 hr (by rcases hz with rfl | rfl <;> rfl) (fun t ht _ => ⟨⟨iI z, M, rfl, ⟨z, rfl, hp⟩, by show wd_ok D xCl A M t.heap; rw [ht]; exact hW⟩, hS.F ht⟩) hS.2.2 hd C.2.2.2.2.1
theorem g_vret (C : cX p m meth c cc nL s args own D tys A) {post : Wm → Prop} (hr : meth.sig.returnType = none) (hd : decode cc pc = .ok (.return_, 1)) (hp : post M) : gW p l e R s m args below meth c D A nL cells slots (MQ below (qV D A post) args s cells slots A) P pc lv [] M :=
  fun _ _ _ _ hW hS _ => W.vret C.1.1 C.1.2.1 hr (fun t ht _ => ⟨⟨M, rfl, hp, by show wd_ok D xCl A M t.heap; rw [ht]; exact hW⟩, hS.F ht⟩) hS.2.2 hd C.2.2.2.2.1
theorem g_aret (C : cX p m meth c cc nL s args own D tys A) {post : Nat → Wm → Prop} {a : Nat} {CN : String} (hr : meth.sig.returnType = some (.object CN)) (hd : decode cc pc = .ok (.areturn, 1)) (hp : post a M) : gW p l e R s m args below meth c D A nL cells slots (MQ below (qR D A post) args s cells slots A) P pc lv [.ref a] M :=
  fun _ _ _ _ hW hS _ => W.aret C.1.1 C.1.2.1 hr (Or.inl ⟨CN, rfl⟩) (Or.inr ⟨a, rfl⟩) (fun t ht _ => ⟨⟨M, a, rfl, trivial, hp, by show wd_ok D xCl A M t.heap; rw [ht]; exact hW⟩, hS.F ht⟩) hS.2.2 hd C.2.2.2.2.1
theorem g_iretP (C : cX p m meth c cc nL s args own D tys A) {post : Int → Prop} {z : Int} (hr : meth.sig.returnType = some .int) (hd : decode cc pc = .ok (.ireturn, 1)) (hp : post z) : gW p l e R s m args below meth c D A nL cells slots (MQ below (qP post) args s cells slots (fun _ => False)) (wN s) pc lv [.int (iI z)] M :=
  fun _ locs _ hN _ _ _ => W.iret C.1.1 C.1.2.1 hr (fun t ht _ => ⟨z, rfl, hp, by rw [ht]; exact hN.1⟩) (fun q hq => by rw [hN.2] at hq; cases hq) hd C.2.2.2.2.1
theorem g_zretP (C : cX p m meth c cc nL s args own D tys A) {post : Int → Prop} {z : Int} (hr : meth.sig.returnType = some .boolean) (hz : z = 0 ∨ z = 1) (hd : decode cc pc = .ok (.ireturn, 1)) (hp : post z) : gW p l e R s m args below meth c D A nL cells slots (MQ below (qP post) args s cells slots (fun _ => False)) (wN s) pc lv [.int (iI z)] M :=
  fun _ locs _ hN _ _ _ => W.zret C.1.1 C.1.2.1 hr (by rcases hz with rfl | rfl <;> rfl) (fun t ht _ => ⟨z, rfl, hp, by rw [ht]; exact hN.1⟩) (fun q hq => by rw [hN.2] at hq; cases hq) hd C.2.2.2.2.1
theorem g_aretP (C : cX p m meth c cc nL s args own D tys A) {post : Nat → Prop} {a : Nat} {CN : String} (hr : meth.sig.returnType = some (.object CN)) (hd : decode cc pc = .ok (.areturn, 1)) (hp : post a) : gW p l e R s m args below meth c D A nL cells slots (MQ below (qPR post) args s cells slots (fun _ => False)) (wN s) pc lv [.ref a] M :=
  fun _ locs _ hN _ _ _ => W.aret C.1.1 C.1.2.1 hr (Or.inl ⟨CN, rfl⟩) (Or.inr ⟨a, rfl⟩) (fun t ht _ => ⟨a, rfl, hp, by rw [ht]; exact hN.1⟩) (fun q hq => by rw [hN.2] at hq; cases hq) hd C.2.2.2.2.1
end XE
/-- a call's words: link of own or of a nest mate, the callee's code among the words of all -/
def xC (own : String) (index : Nat) (y : MethodName) (cc : ByteArray) (maxL : Nat) (ret : Option FieldType) (n : Nat) : Prop :=
  Cond.code y cc maxL ret ∈ xAll ∧ Cond.initialized y.cls ∈ xAll ∧ (y.cls ≠ "java/lang/invoke/MethodHandle" ∧ y.cls ≠ "java/lang/invoke/VarHandle" ∧ (parseMethodDescriptor y.desc).map (fun d => d.parameters.length) = some n) ∧ (Cond.methodLink own index y ∈ xAll ∨ ∃ host, Cond.methodLinkNest own index y host ∈ xNw)
def xCV (own : String) (index ci : Nat) (y : MethodName) (cc : ByteArray) (maxL : Nat) (ret : Option FieldType) (n : Nat) : Prop := xC own index y cc maxL ret n ∧ Cond.instanceMethod y ∈ xAll ∧ Cond.selects y.cls y y ∈ xAll ∧ ∃ (T : u_T) (N : Nat), xCl[ci]? = some (y.cls, T, N)
def xCS (own : String) (index : Nat) (y : MethodName) (cc : ByteArray) (maxL : Nat) (ret : Option FieldType) (n : Nat) : Prop := xC own index y cc maxL ret n ∧ Cond.static y ∈ xAll
def xCI (own : String) (index : Nat) (y : MethodName) (cc : ByteArray) (maxL : Nat) (n : Nat) : Prop := xC own index y cc maxL none n ∧ y.name = "<init>" ∧ Cond.instanceMethod y ∈ xAll
theorem good_wsY {y : MethodName} {cc : ByteArray} {maxL : Nat} {ret : Option FieldType} (hc : Cond.code y cc maxL ret ∈ xAll) : GoodIn xAll (wsY y cc maxL ret) := by
  intro w hw
  rcases List.mem_cons.mp hw with rfl | hw
  · exact ⟨hc, Or.inl rfl⟩
  · exact ⟨hw, xAll_good w hw⟩
theorem cT_blind {D : va_G} {tys : xK} {A : Nat → Prop} {M : Wm} {av : List Value} : FrameBlind (va_Pc av (cT D tys A M)) := by
  intro a U g mk h
  obtain ⟨h0, h1, h2, h3, h4, h5⟩ := h
  exact ⟨h0, h1, va_K.moved (u := U) (U := U.calling g mk a) (Vm.Alike.refl U.vm) h2, fun w hw => xNw_same w hw (show U.vm = (U.calling g mk a).vm from rfl) (h3 w hw), h4, sT_same (u := U) rfl rfl h5⟩
section XQ
variable {p : Program} {l : Launch} {e : Env} {R : Room} {s : State} {m : MethodId} {args : Array Value} {below : List Frame} {meth : Method} {c : Code} {cells slots : Nat} {Q : State → Prop} {P : Heap → List Loc → Prop}
variable {cc : ByteArray} {pc nL : Nat} {own : String} {D : va_G} {A : Nat → Prop} {tys : xK} {lv lv' : List (Nat × Value)} {st rest : List Value} {M : Wm} {H : Heap}
theorem cT_at {locs : List Loc} (C : cX p m meth c cc nL s args own D tys A) (hW : wd_ok D xCl A M H) (hz : va_S A s.heap H locs) : ∀ U : State, U.heap = H → s.WarmedH U.vm → cT D tys A M U := by
  intro U hU hWm
  exact ⟨by rw [hU]; exact hW, va_K.moved hWm.alike C.2.1, fun w hw => xNw_warm w hw hWm (C.2.2.1 w hw), fun q hq => C.2.2.2.1 q (by rw [hU] at hq; have := hz.1; omega), sT_at C.2.2.2.2.2 hz hU hWm⟩
/-- what a call must find: the callee runs from here, by its contract -/
def gR (p : Program) (l : Launch) (e : Env) (R : Room) (s : State) (m : MethodId) (args : Array Value) (below : List Frame) (meth : Method) (c : Code) (D : va_G) (A : Nat → Prop) (nL cells slots mc ms : Nat) (pc : Nat) (st rest : List Value) (M : Wm) (Qa : State → Outcome → State → Prop) (free : Addr → Prop) : Prop :=
  ∀ (H : Heap) (locs : List Loc) (ls : Array Slot), wd_ok D xCl A M H → va_S A s.heap H locs → ls.size = nL → va_Run p l e R s m args below meth c H locs cells slots mc ms (F0 m pc ls st) rest Qa free
theorem run_V (C : cX p m meth c cc nL s args own D tys A) {index ci : Nat} {y : MethodName} {bytes : ByteArray} {maxL n b mc ms : Nat} {ret : Option FieldType} {rm : Room} {fs : List Value} {Qc : Array Value → State → Outcome → State → Prop} {free : Addr → Prop} (As : List Value) (hx : xCV own index ci y bytes maxL ret n)
    (hM : Met l y (wsY y bytes maxL ret) rm (va_Pc (.ref b :: As) (cT D tys A M)) Qc mc ms free) (he : M b = some (.inr (ci, fs))) (hrm : rm.cells = mc ∧ rm.slots = ms ∧ rm.frames + 1 ≤ R.frames ∧ 8 + (maxL + 11) + rm.locals ≤ R.locals) (hst : st = As.reverse ++ .ref b :: rest) (hn : As.length = n) (hcat : (rest.map fun v => v.category).sum ≤ 8)
    (hd : decode cc pc = .ok (.invokevirtual index, 3)) (hf : cells + mc ≤ R.cells ∧ slots + ms ≤ R.slots) : gR p l e R s m args below meth c D A nL cells slots mc ms pc st rest M (Qc (Value.ref b :: As).toArray) free := by
  obtain ⟨⟨hc, hini, hq, hl⟩, hinst, hsel, T, N, hcl⟩ := hx
  have hts := C.1.2.2.2.2
  intro H locs ls hW hz hls
  have hrec := va_recv C.2.1 (wd_one hW he) hcl (q0 := 0) rfl
  have hp : PreV s H y.cls b (va_Pc (.ref b :: As) (cT D tys A M)) As := ⟨cT_blind, hrec, fun U hU hWm => ⟨rfl, cT_at C hW hz U hU hWm⟩⟩
  rcases hl with hl | ⟨host, hl⟩
  · exact va_runV C.1 hM ⟨callB_of n hts (good_wsY hc) rfl hrm.1 hrm.2.1 (hts _ hini) (hts _ hl) hq ⟨hrm.2.2.1, hrm.2.2.2⟩, hts _ hinst, hts _ hsel⟩ hp rfl hn hls hst (lv_room hcat) hd hf
  · exact va_runVN C.1 hM ⟨va_cnB n hts (good_wsY hc) rfl hrm.1 hrm.2.1 (C.2.2.1 _ hl) (hts _ hini) hq ⟨hrm.2.2.1, hrm.2.2.2⟩, hts _ hinst, hts _ hsel⟩ hp rfl hn hls hst (lv_room hcat) hd hf
theorem run_S (C : cX p m meth c cc nL s args own D tys A) {index : Nat} {y : MethodName} {bytes : ByteArray} {maxL n mc ms : Nat} {ret : Option FieldType} {rm : Room} {Qc : Array Value → State → Outcome → State → Prop} {free : Addr → Prop} (As : List Value) (hx : xCS own index y bytes maxL ret n)
    (hM : Met l y (wsY y bytes maxL ret) rm (va_Pc As (cT D tys A M)) Qc mc ms free) (hrm : rm.cells = mc ∧ rm.slots = ms ∧ rm.frames + 1 ≤ R.frames ∧ 8 + (maxL + 11) + rm.locals ≤ R.locals) (hst : st = As.reverse ++ rest) (hn : As.length = n) (hcat : (rest.map fun v => v.category).sum ≤ 8)
    (hd : decode cc pc = .ok (.invokestatic index, 3)) (hf : cells + mc ≤ R.cells ∧ slots + ms ≤ R.slots) : gR p l e R s m args below meth c D A nL cells slots mc ms pc st rest M (Qc As.toArray) free := by
  obtain ⟨⟨hc, hini, hq, hl⟩, hstat⟩ := hx
  have hts := C.1.2.2.2.2
  intro H locs ls hW hz hls
  have hp : PreS s H (va_Pc As (cT D tys A M)) As := ⟨cT_blind, fun U hU hWm => ⟨rfl, cT_at C hW hz U hU hWm⟩⟩
  rcases hl with hl | ⟨host, hl⟩
  · exact va_runS C.1 hM ⟨callB_of n hts (good_wsY hc) rfl hrm.1 hrm.2.1 (hts _ hini) (hts _ hl) hq ⟨hrm.2.2.1, hrm.2.2.2⟩, hts _ hstat⟩ hp rfl hn hls hst (lv_room hcat) hd hf
  · exact va_runSN C.1 hM ⟨va_cnB n hts (good_wsY hc) rfl hrm.1 hrm.2.1 (C.2.2.1 _ hl) (hts _ hini) hq ⟨hrm.2.2.1, hrm.2.2.2⟩, hts _ hstat, trivial⟩ hp rfl hn hls hst (lv_room hcat) hd hf
theorem run_I (C : cX p m meth c cc nL s args own D tys A) {index : Nat} {y : MethodName} {bytes : ByteArray} {maxL n b mc ms : Nat} {rm : Room} {Qc : Array Value → State → Outcome → State → Prop} {free : Addr → Prop} (As : List Value) (hx : xCI own index y bytes maxL n)
    (hM : Met l y (wsY y bytes maxL none) rm (va_Pc (.ref b :: As) (cT D tys A M)) Qc mc ms free) (hrm : rm.cells = mc ∧ rm.slots = ms ∧ rm.frames + 1 ≤ R.frames ∧ 8 + (maxL + 11) + rm.locals ≤ R.locals) (hst : st = As.reverse ++ .ref b :: rest) (hn : As.length = n) (hcat : (rest.map fun v => v.category).sum ≤ 8)
    (hd : decode cc pc = .ok (.invokespecial index, 3)) (hf : cells + mc ≤ R.cells ∧ slots + ms ≤ R.slots) : gR p l e R s m args below meth c D A nL cells slots mc ms pc st rest M (Qc (Value.ref b :: As).toArray) free := by
  obtain ⟨⟨hc, hini, hq, hl⟩, hnm, hinst⟩ := hx
  have hts := C.1.2.2.2.2
  intro H locs ls hW hz hls
  have hp : PreS s H (va_Pc (.ref b :: As) (cT D tys A M)) (.ref b :: As) := ⟨cT_blind, fun U hU hWm => ⟨rfl, cT_at C hW hz U hU hWm⟩⟩
  rcases hl with hl | ⟨host, hl⟩
  · exact va_runI C.1 hM ⟨callB_of n hts (good_wsY hc) rfl hrm.1 hrm.2.1 (hts _ hini) (hts _ hl) hq ⟨hrm.2.2.1, hrm.2.2.2⟩, hnm, hts _ hinst⟩ hp rfl hn hls hst (lv_room hcat) hd hf
  · exact va_runIN C.1 hM ⟨va_cnB n hts (good_wsY hc) rfl hrm.1 hrm.2.1 (C.2.2.1 _ hl) (hts _ hini) hq ⟨hrm.2.2.1, hrm.2.2.2⟩, hnm, hts _ hinst⟩ hp rfl hn hls hst (lv_room hcat) hd hf
theorem g_calli (C : cX p m meth c cc nL s args own D tys A) {mc ms : Nat} {a : Array Value} {post : Int → Wm → Prop} (hr : gR p l e R s m args below meth c D A nL cells slots mc ms pc st rest M (qI D A post a) A) (k : ∀ (z : Int) (M' : Wm), post z M' → gW p l e R s m args below meth c D A nL (cells + mc) (slots + ms) Q wX (pc + 3) lv (.int (iI z) :: rest) M') : gW p l e R s m args below meth c D A nL cells slots Q P pc lv st M := by
  intro H locs ls _ hW hS hls
  refine va_calli (hr H locs ls hW hS hls.1) hS (fun q _ h => h) (fun q h => h) (fun r u t H1 locs1 ht _ hp hB _ _ hS1 => ?_)
  obtain ⟨z, rfl, hp⟩ := hp
  exact k z u hp H1 locs1 ls trivial (by rw [← ht]; exact hB) hS1 hls
theorem g_callv (C : cX p m meth c cc nL s args own D tys A) {mc ms : Nat} {a : Array Value} {post : Wm → Prop} (hr : gR p l e R s m args below meth c D A nL cells slots mc ms pc st rest M (qV D A post a) A) (k : ∀ (M' : Wm), post M' → gW p l e R s m args below meth c D A nL (cells + mc) (slots + ms) Q wX (pc + 3) lv rest M') : gW p l e R s m args below meth c D A nL cells slots Q P pc lv st M := by
  intro H locs ls _ hW hS hls
  refine va_callv (hr H locs ls hW hS hls.1) hS (fun q _ h => h) (fun q h => h) (fun u t H1 locs1 ht _ hp hB _ _ hS1 => ?_)
  exact k u hp H1 locs1 ls trivial (by rw [← ht]; exact hB) hS1 hls
theorem g_callr (C : cX p m meth c cc nL s args own D tys A) {mc ms : Nat} {a : Array Value} {post : Nat → Wm → Prop} (hr : gR p l e R s m args below meth c D A nL cells slots mc ms pc st rest M (qR D A post a) A) (k : ∀ (b : Nat) (M' : Wm), post b M' → gW p l e R s m args below meth c D A nL (cells + mc) (slots + ms) Q wX (pc + 3) lv (.ref b :: rest) M') : gW p l e R s m args below meth c D A nL cells slots Q P pc lv st M := by
  intro H locs ls _ hW hS hls
  refine va_callr (hr H locs ls hW hS hls.1) hS (fun q _ h => h) (fun q h => h) (fun u b t H1 locs1 ht _ _ hB _ _ hS1 => ?_)
  exact k b u hB.1 H1 locs1 ls trivial (by rw [← ht]; exact hB.2) hS1 hls
theorem g_calliP (C : cX p m meth c cc nL s args own D tys A) {a : Array Value} {post : Int → Prop} (hr : gR p l e R s m args below meth c D A nL cells slots 0 0 pc st rest M (qP post a) (fun _ => False)) (k : ∀ (z : Int), post z → gW p l e R s m args below meth c D A nL cells slots Q P (pc + 3) lv (.int (iI z) :: rest) M) : gW p l e R s m args below meth c D A nL cells slots Q P pc lv st M := by
  intro H locs ls hP hW hS hls T hT X
  obtain ⟨v, st₀, t, T', L, h0, X', hL, e1, e2, ⟨z, hv, hp, hh⟩, st⟩ := hr H locs ls hW hS hls.1 T hT X
  cases hv
  have hLn : L = [] := List.eq_nil_iff_forall_not_mem.mpr hL
  subst hLn
  have hT' : T'.heap = H := by rw [e1, hh, h0]
  rw [List.append_nil] at X'
  obtain ⟨t2, a1, b1⟩ := k z hp H locs ls hP hW hS hls T' hT' X'
  exact ⟨t2, st t2 a1, b1⟩
theorem g_callrP (C : cX p m meth c cc nL s args own D tys A) {a : Array Value} {post : Nat → Prop} (hr : gR p l e R s m args below meth c D A nL cells slots 0 0 pc st rest M (qPR post a) (fun _ => False)) (k : ∀ (b : Nat), post b → gW p l e R s m args below meth c D A nL cells slots Q P (pc + 3) lv (.ref b :: rest) M) : gW p l e R s m args below meth c D A nL cells slots Q P pc lv st M := by
  intro H locs ls hP hW hS hls T hT X
  obtain ⟨v, st₀, t, T', L, h0, X', hL, e1, e2, ⟨b, hv, hp, hh⟩, st⟩ := hr H locs ls hW hS hls.1 T hT X
  cases hv
  have hLn : L = [] := List.eq_nil_iff_forall_not_mem.mpr hL
  subst hLn
  have hT' : T'.heap = H := by rw [e1, hh, h0]
  rw [List.append_nil] at X'
  obtain ⟨t2, a1, b1⟩ := k b hp H locs ls hP hW hS hls T' hT' X'
  exact ⟨t2, st t2 a1, b1⟩
/-- Math.max, min, abs of ints -/
def xMath : Prop := Cond.initialized "java/lang/Math" ∈ xAll
theorem g_mmax (C : cX p m meth c cc nL s args own D tys A) {index : Nat} {a b : Int} (hx : Cond.methodLink own index Lib.Math.max.name ∈ xAll ∧ Cond.static Lib.Math.max.name ∈ xAll ∧ Cond.initialized "java/lang/Math" ∈ xAll ∧ Cond.code Lib.Math.max.name Lib.Math.max.code 2 (some .int) ∈ xAll) (hr : (-2147483648 ≤ a ∧ a < 2147483648) ∧ (-2147483648 ≤ b ∧ b < 2147483648)) (hR : 1 ≤ R.frames ∧ (st.map fun v => v.category).sum + 13 ≤ R.locals ∧ cells ≤ R.cells ∧ slots ≤ R.slots) (hd : decode cc pc = .ok (.invokestatic index, 3)) (k : gW p l e R s m args below meth c D A nL cells slots Q P (pc + 3) lv (.int (iI (if a < b then b else a)) :: st) M) : gW p l e R s m args below meth c D A nL cells slots Q P pc lv (.int (iI b) :: .int (iI a) :: st) M := by
  have hts := C.1.2.2.2.2
  intro H locs ls hP hW hS hl
  refine va_mmax C.1.1 C.1.2.1 (by rw [C.1.2.2.1, hl.1]) C.1.2.2.2.1 (hts _ hx.1) (hts _ hx.2.1) (hts _ hx.2.2.1) (hts _ hx.2.2.2) hR.1 hR.2.1 hR.2.2.1 hR.2.2.2 hd ?_
  have h := k H locs ls hP hW hS hl
  by_cases q : a < b
  · rw [if_pos ((iI_lt hr.1 hr.2).mpr q)]; rw [if_pos q] at h; exact h
  · rw [if_neg (fun z => q ((iI_lt hr.1 hr.2).mp z))]; rw [if_neg q] at h; exact h
theorem g_mmin (C : cX p m meth c cc nL s args own D tys A) {index : Nat} {a b : Int} (hx : Cond.methodLink own index Lib.Math.min.name ∈ xAll ∧ Cond.static Lib.Math.min.name ∈ xAll ∧ Cond.initialized "java/lang/Math" ∈ xAll ∧ Cond.code Lib.Math.min.name Lib.Math.min.code 2 (some .int) ∈ xAll) (hr : (-2147483648 ≤ a ∧ a < 2147483648) ∧ (-2147483648 ≤ b ∧ b < 2147483648)) (hR : 1 ≤ R.frames ∧ (st.map fun v => v.category).sum + 13 ≤ R.locals ∧ cells ≤ R.cells ∧ slots ≤ R.slots) (hd : decode cc pc = .ok (.invokestatic index, 3)) (k : gW p l e R s m args below meth c D A nL cells slots Q P (pc + 3) lv (.int (iI (if b < a then b else a)) :: st) M) : gW p l e R s m args below meth c D A nL cells slots Q P pc lv (.int (iI b) :: .int (iI a) :: st) M := by
  have hts := C.1.2.2.2.2
  intro H locs ls hP hW hS hl
  refine va_mmin C.1.1 C.1.2.1 (by rw [C.1.2.2.1, hl.1]) C.1.2.2.2.1 (hts _ hx.1) (hts _ hx.2.1) (hts _ hx.2.2.1) (hts _ hx.2.2.2) hR.1 hR.2.1 hR.2.2.1 hR.2.2.2 hd ?_
  have h := k H locs ls hP hW hS hl
  by_cases q : b < a
  · rw [if_pos ((iI_lt hr.2 hr.1).mpr q)]; rw [if_pos q] at h; exact h
  · rw [if_neg (fun z => q ((iI_lt hr.2 hr.1).mp z))]; rw [if_neg q] at h; exact h
theorem g_mabs (C : cX p m meth c cc nL s args own D tys A) {index : Nat} {a : Int} (hx : Cond.methodLink own index Lib.Math.abs.name ∈ xAll ∧ Cond.static Lib.Math.abs.name ∈ xAll ∧ Cond.initialized "java/lang/Math" ∈ xAll ∧ Cond.code Lib.Math.abs.name Lib.Math.abs.code 1 (some .int) ∈ xAll) (hr : -2147483648 ≤ a ∧ a < 2147483648) (hR : 1 ≤ R.frames ∧ (st.map fun v => v.category).sum + 13 ≤ R.locals ∧ cells ≤ R.cells ∧ slots ≤ R.slots) (hd : decode cc pc = .ok (.invokestatic index, 3)) (k : gW p l e R s m args below meth c D A nL cells slots Q P (pc + 3) lv (.int (iI (if 0 ≤ a then a else -a)) :: st) M) : gW p l e R s m args below meth c D A nL cells slots Q P pc lv (.int (iI a) :: st) M := by
  have hts := C.1.2.2.2.2
  have h0 : -2147483648 ≤ (0 : Int) ∧ (0 : Int) < 2147483648 := by omega
  intro H locs ls hP hW hS hl
  refine va_mabs C.1.1 C.1.2.1 (by rw [C.1.2.2.1, hl.1]) C.1.2.2.2.1 (hts _ hx.1) (hts _ hx.2.1) (hts _ hx.2.2.1) (hts _ hx.2.2.2) hR.1 hR.2.1 hR.2.2.1 hR.2.2.2 hd ?_
  have h := k H locs ls hP hW hS hl
  by_cases q : 0 ≤ a
  · rw [if_pos (show (0 : Int32) ≤ iI a from (iI_le h0 hr).mpr q)]; rw [if_pos q] at h; exact h
  · rw [if_neg (show ¬ (0 : Int32) ≤ iI a from fun z => q ((iI_le h0 hr).mp z)), show (0 : Int32) - iI a = iI (-a) from by rw [← iI_0, iI_sub]; congr 1; omega]; rw [if_neg q] at h; exact h
end XQ
end
section
/-! LOOPS, and small turns of a goal -/
section XL
variable {p : Program} {l : Launch} {e : Env} {R : Room} {s : State} {m : MethodId} {args : Array Value} {below : List Frame} {meth : Method} {c : Code} {cells slots : Nat} {Q : State → Prop} {P : Heap → List Loc → Prop}
variable {pc nL : Nat} {D : va_G} {A : Nat → Prop} {lv lv' : List (Nat × Value)} {st st' : List Value} {M : Wm}
theorem g_loop {σ : Type} (μ : σ → Nat) (Iv : σ → Prop) (lvf : σ → List (Nat × Value)) (Mf : σ → Wm)
    (step : ∀ x, Iv x → (∀ y, Iv y → μ y < μ x → gW p l e R s m args below meth c D A nL cells slots Q P pc (lvf y) st (Mf y)) → gW p l e R s m args below meth c D A nL cells slots Q P pc (lvf x) st (Mf x)) (x : σ) (h : Iv x) : gW p l e R s m args below meth c D A nL cells slots Q P pc (lvf x) st (Mf x) := by
  have key : ∀ (n : Nat) (x : σ), μ x < n → Iv x → gW p l e R s m args below meth c D A nL cells slots Q P pc (lvf x) st (Mf x) := by
    intro n
    induction n with
    | zero => intro x hx; exact absurd hx (Nat.not_lt_zero _)
    | succ n ih => intro x hx hI; exact step x hI (fun y hy hlt => ih y (by omega) hy)
  exact key (μ x + 1) x (Nat.lt_succ_self _) h
/-- what holds of any heap and places written holds of these -/
theorem g_toX (k : gW p l e R s m args below meth c D A nL cells slots Q wX pc lv st M) : gW p l e R s m args below meth c D A nL cells slots Q P pc lv st M := fun H locs ls _ hW hS hl => k H locs ls trivial hW hS hl
theorem g_eq (hl : lv = lv') (hs : st = st') (k : gW p l e R s m args below meth c D A nL cells slots Q P pc lv' st' M) : gW p l e R s m args below meth c D A nL cells slots Q P pc lv st M := by
  subst hl; subst hs; exact k
theorem g_mono {Q' : State → Prop} (hq : ∀ t, Q' t → Q t) (k : gW p l e R s m args below meth c D A nL cells slots Q' P pc lv st M) : gW p l e R s m args below meth c D A nL cells slots Q P pc lv st M := by
  intro H locs ls hP hW hS hl T hT X
  obtain ⟨t, a, b⟩ := k H locs ls hP hW hS hl T hT X
  exact ⟨t, a, hq t b⟩
end XL
end
section
/-! WORDS of the fields and calls of each method, by their places in the tables: written by program -/
theorem k_Ct_9 : xCI R_Ct 9 y_Ho_init b_Ho_init 1 0 := ⟨⟨xa_t 28 (by decide +kernel) rfl, xa_t 2 (by decide +kernel) rfl, ⟨by decide +kernel, by decide +kernel, by decide +kernel⟩, Or.inr ⟨"CareTours", xn_t 26 (by decide +kernel) rfl⟩⟩, rfl, xa_t 27 (by decide +kernel) rfl⟩
theorem f_Ct_10 : xF R_Ct 10 7 1 := ⟨R_Ct, F_Ct, 10, rfl, in_Ct, by decide, Or.inl (xa_t 119 (by decide +kernel) rfl)⟩
theorem p_Ct_10 : xPF R_Ct 10 7 1 (.object "CareTours$House") := ⟨R_Ct, F_Ct, 10, t_Ct, rfl, in_Ct, tk_Ct, n_Ct, by decide, xa_t 119 (by decide +kernel) rfl, by decide +kernel, rfl, rfl⟩
theorem f_Ct_18 : xF R_Ct 18 7 2 := ⟨R_Ct, F_Ct, 10, rfl, in_Ct, by decide, Or.inl (xa_t 120 (by decide +kernel) rfl)⟩
theorem p_Ct_18 : xPF R_Ct 18 7 2 (.array (.object "CareTours$Part")) := ⟨R_Ct, F_Ct, 10, t_Ct, rfl, in_Ct, tk_Ct, n_Ct, by decide, xa_t 120 (by decide +kernel) rfl, by decide +kernel, rfl, rfl⟩
theorem f_Ct_22 : xF R_Ct 22 7 3 := ⟨R_Ct, F_Ct, 10, rfl, in_Ct, by decide, Or.inl (xa_t 121 (by decide +kernel) rfl)⟩
theorem p_Ct_22 : xPF R_Ct 22 7 3 (.array (.object "CareTours$Part")) := ⟨R_Ct, F_Ct, 10, t_Ct, rfl, in_Ct, tk_Ct, n_Ct, by decide, xa_t 121 (by decide +kernel) rfl, by decide +kernel, rfl, rfl⟩
theorem f_Ct_27 : xF R_Ct 27 7 4 := ⟨R_Ct, F_Ct, 10, rfl, in_Ct, by decide, Or.inl (xa_t 122 (by decide +kernel) rfl)⟩
theorem p_Ct_27 : xPF R_Ct 27 7 4 (.array (.object "CareTours$Person")) := ⟨R_Ct, F_Ct, 10, t_Ct, rfl, in_Ct, tk_Ct, n_Ct, by decide, xa_t 122 (by decide +kernel) rfl, by decide +kernel, rfl, rfl⟩
theorem f_Ct_31 : xF R_Ct 31 7 5 := ⟨R_Ct, F_Ct, 10, rfl, in_Ct, by decide, Or.inl (xa_t 123 (by decide +kernel) rfl)⟩
theorem p_Ct_31 : xPF R_Ct 31 7 5 (.array .int) := ⟨R_Ct, F_Ct, 10, t_Ct, rfl, in_Ct, tk_Ct, n_Ct, by decide, xa_t 123 (by decide +kernel) rfl, by decide +kernel, rfl, rfl⟩
theorem k_Ct_37 : xCI R_Ct 37 y_Pn_init b_Pn_init 1 0 := ⟨⟨xa_t 58 (by decide +kernel) rfl, xa_t 3 (by decide +kernel) rfl, ⟨by decide +kernel, by decide +kernel, by decide +kernel⟩, Or.inr ⟨"CareTours", xn_t 56 (by decide +kernel) rfl⟩⟩, rfl, xa_t 57 (by decide +kernel) rfl⟩
theorem f_Ct_38 : xF R_Ct 38 7 6 := ⟨R_Ct, F_Ct, 10, rfl, in_Ct, by decide, Or.inl (xa_t 124 (by decide +kernel) rfl)⟩
theorem p_Ct_38 : xPF R_Ct 38 7 6 (.object "CareTours$Planner") := ⟨R_Ct, F_Ct, 10, t_Ct, rfl, in_Ct, tk_Ct, n_Ct, by decide, xa_t 124 (by decide +kernel) rfl, by decide +kernel, rfl, rfl⟩
theorem k_Ct_44 : xCI R_Ct 44 y_To_init b_To_init 1 0 := ⟨⟨xa_t 79 (by decide +kernel) rfl, xa_t 4 (by decide +kernel) rfl, ⟨by decide +kernel, by decide +kernel, by decide +kernel⟩, Or.inr ⟨"CareTours", xn_t 77 (by decide +kernel) rfl⟩⟩, rfl, xa_t 78 (by decide +kernel) rfl⟩
theorem f_Ct_45 : xF R_Ct 45 7 7 := ⟨R_Ct, F_Ct, 10, rfl, in_Ct, by decide, Or.inl (xa_t 125 (by decide +kernel) rfl)⟩
theorem p_Ct_45 : xPF R_Ct 45 7 7 (.object "CareTours$Tour") := ⟨R_Ct, F_Ct, 10, t_Ct, rfl, in_Ct, tk_Ct, n_Ct, by decide, xa_t 125 (by decide +kernel) rfl, by decide +kernel, rfl, rfl⟩
theorem f_Ct_49 : xF R_Ct 49 7 8 := ⟨R_Ct, F_Ct, 10, rfl, in_Ct, by decide, Or.inl (xa_t 126 (by decide +kernel) rfl)⟩
theorem p_Ct_49 : xP R_Ct 49 7 8 .int := ⟨R_Ct, F_Ct, 10, t_Ct, rfl, in_Ct, tk_Ct, n_Ct, by decide, Or.inl (xa_t 126 (by decide +kernel) rfl), by decide +kernel, rfl⟩
theorem f_Ct_53 : xF R_Ct 53 7 9 := ⟨R_Ct, F_Ct, 10, rfl, in_Ct, by decide, Or.inl (xa_t 127 (by decide +kernel) rfl)⟩
theorem p_Ct_53 : xP R_Ct 53 7 9 .int := ⟨R_Ct, F_Ct, 10, t_Ct, rfl, in_Ct, tk_Ct, n_Ct, by decide, Or.inl (xa_t 127 (by decide +kernel) rfl), by decide +kernel, rfl⟩
theorem f_Ct_65 : xF R_Ct 65 7 0 := ⟨R_Ct, F_Ct, 10, rfl, in_Ct, by decide, Or.inl (xa_t 118 (by decide +kernel) rfl)⟩
theorem p_Ct_65 : xPF R_Ct 65 7 0 .int := ⟨R_Ct, F_Ct, 10, t_Ct, rfl, in_Ct, tk_Ct, n_Ct, by decide, xa_t 118 (by decide +kernel) rfl, by decide +kernel, rfl, rfl⟩
theorem k_Ct_68 : xCS R_Ct 68 y_Ct_within b_Ct_within 3 (some .boolean) 3 := ⟨⟨xa_t 163 (by decide +kernel) rfl, xa_t 1 (by decide +kernel) rfl, ⟨by decide +kernel, by decide +kernel, by decide +kernel⟩, Or.inl (xa_t 161 (by decide +kernel) rfl)⟩, xa_t 162 (by decide +kernel) rfl⟩
theorem k_Ct_72 : xCS R_Ct 72 y_Ct_isSpot b_Ct_isSpot 2 (some .boolean) 2 := ⟨⟨xa_t 166 (by decide +kernel) rfl, xa_t 1 (by decide +kernel) rfl, ⟨by decide +kernel, by decide +kernel, by decide +kernel⟩, Or.inl (xa_t 164 (by decide +kernel) rfl)⟩, xa_t 165 (by decide +kernel) rfl⟩
theorem f_Ct_83 : xF R_Ct 83 0 2 := ⟨R_Ho, F_Ho, 4, rfl, in_Ho, by decide, Or.inr ⟨"CareTours", xn_t 38 (by decide +kernel) rfl⟩⟩
theorem k_Ct_91 : xCV R_Ct 91 6 y_To_end b_To_end 1 none 0 := ⟨⟨xa_t 253 (by decide +kernel) rfl, xa_t 4 (by decide +kernel) rfl, ⟨by decide +kernel, by decide +kernel, by decide +kernel⟩, Or.inr ⟨"CareTours", xn_t 250 (by decide +kernel) rfl⟩⟩, xa_t 252 (by decide +kernel) rfl, xa_s 1 (by decide +kernel) rfl, F_To, 7, rfl⟩
theorem k_Ct_96 : xCI R_Ct 96 y_Pl_init b_Pl_init 4 3 := ⟨⟨xa_t 258 (by decide +kernel) rfl, xa_t 12 (by decide +kernel) rfl, ⟨by decide +kernel, by decide +kernel, by decide +kernel⟩, Or.inr ⟨"CareTours", xn_t 256 (by decide +kernel) rfl⟩⟩, rfl, xa_t 257 (by decide +kernel) rfl⟩
theorem k_Ct_99 : xCV R_Ct 99 0 y_Ho_addPlace b_Ho_addPlace 3 (some .int) 1 := ⟨⟨xa_t 277 (by decide +kernel) rfl, xa_t 2 (by decide +kernel) rfl, ⟨by decide +kernel, by decide +kernel, by decide +kernel⟩, Or.inr ⟨"CareTours", xn_t 274 (by decide +kernel) rfl⟩⟩, xa_t 276 (by decide +kernel) rfl, xa_s 2 (by decide +kernel) rfl, F_Ho, 4, rfl⟩
theorem f_Ct_107 : xF R_Ct 107 0 3 := ⟨R_Ho, F_Ho, 4, rfl, in_Ho, by decide, Or.inr ⟨"CareTours", xn_t 40 (by decide +kernel) rfl⟩⟩
theorem k_Ct_114 : xCI R_Ct 114 y_Li_init b_Li_init 7 6 := ⟨⟨xa_t 292 (by decide +kernel) rfl, xa_t 13 (by decide +kernel) rfl, ⟨by decide +kernel, by decide +kernel, by decide +kernel⟩, Or.inr ⟨"CareTours", xn_t 290 (by decide +kernel) rfl⟩⟩, rfl, xa_t 291 (by decide +kernel) rfl⟩
theorem k_Ct_117 : xCV R_Ct 117 0 y_Ho_addLift b_Ho_addLift 3 (some .int) 1 := ⟨⟨xa_t 316 (by decide +kernel) rfl, xa_t 2 (by decide +kernel) rfl, ⟨by decide +kernel, by decide +kernel, by decide +kernel⟩, Or.inr ⟨"CareTours", xn_t 313 (by decide +kernel) rfl⟩⟩, xa_t 315 (by decide +kernel) rfl, xa_s 3 (by decide +kernel) rfl, F_Ho, 4, rfl⟩
theorem k_Ct_121 : xCV R_Ct 121 0 y_Ho_hasPlace b_Ho_hasPlace 2 (some .boolean) 1 := ⟨⟨xa_t 327 (by decide +kernel) rfl, xa_t 2 (by decide +kernel) rfl, ⟨by decide +kernel, by decide +kernel, by decide +kernel⟩, Or.inr ⟨"CareTours", xn_t 324 (by decide +kernel) rfl⟩⟩, xa_t 326 (by decide +kernel) rfl, xa_s 4 (by decide +kernel) rfl, F_Ho, 4, rfl⟩
theorem k_Ct_125 : xCS R_Ct 125 y_Ct_isKind b_Ct_isKind 1 (some .boolean) 1 := ⟨⟨xa_t 331 (by decide +kernel) rfl, xa_t 1 (by decide +kernel) rfl, ⟨by decide +kernel, by decide +kernel, by decide +kernel⟩, Or.inl (xa_t 329 (by decide +kernel) rfl)⟩, xa_t 330 (by decide +kernel) rfl⟩
theorem f_Ct_134 : xF R_Ct 134 0 0 := ⟨R_Ho, F_Ho, 4, rfl, in_Ho, by decide, Or.inr ⟨"CareTours", xn_t 35 (by decide +kernel) rfl⟩⟩
theorem k_Ct_138 : xCI R_Ct 138 y_Pt_init b_Pt_init 8 7 := ⟨⟨xa_t 338 (by decide +kernel) rfl, xa_t 14 (by decide +kernel) rfl, ⟨by decide +kernel, by decide +kernel, by decide +kernel⟩, Or.inr ⟨"CareTours", xn_t 336 (by decide +kernel) rfl⟩⟩, rfl, xa_t 337 (by decide +kernel) rfl⟩
theorem k_Ct_146 : xCI R_Ct 146 y_Pe_init b_Pe_init 5 4 := ⟨⟨xa_t 399 (by decide +kernel) rfl, xa_t 15 (by decide +kernel) rfl, ⟨by decide +kernel, by decide +kernel, by decide +kernel⟩, Or.inr ⟨"CareTours", xn_t 397 (by decide +kernel) rfl⟩⟩, rfl, xa_t 398 (by decide +kernel) rfl⟩
theorem k_Ct_149 : xCV R_Ct 149 7 y_Ct_isPart b_Ct_isPart 2 (some .boolean) 1 := ⟨⟨xa_t 428 (by decide +kernel) rfl, xa_t 1 (by decide +kernel) rfl, ⟨by decide +kernel, by decide +kernel, by decide +kernel⟩, Or.inl (xa_t 425 (by decide +kernel) rfl)⟩, xa_t 427 (by decide +kernel) rfl, xa_s 5 (by decide +kernel) rfl, F_Ct, 10, rfl⟩
theorem k_Ct_152 : xCS R_Ct 152 y_Ct_isDay b_Ct_isDay 1 (some .boolean) 1 := ⟨⟨xa_t 431 (by decide +kernel) rfl, xa_t 1 (by decide +kernel) rfl, ⟨by decide +kernel, by decide +kernel, by decide +kernel⟩, Or.inl (xa_t 429 (by decide +kernel) rfl)⟩, xa_t 430 (by decide +kernel) rfl⟩
theorem f_Ct_157 : xF R_Ct 157 2 9 := ⟨R_Pt, F_Pt, 11, rfl, in_Pt, by decide, Or.inr ⟨"CareTours", xn_t 361 (by decide +kernel) rfl⟩⟩
theorem k_Ct_162 : xCV R_Ct 162 2 y_Pt_addUse b_Pt_addUse 3 none 2 := ⟨⟨xa_t 437 (by decide +kernel) rfl, xa_t 14 (by decide +kernel) rfl, ⟨by decide +kernel, by decide +kernel, by decide +kernel⟩, Or.inr ⟨"CareTours", xn_t 434 (by decide +kernel) rfl⟩⟩, xa_t 436 (by decide +kernel) rfl, xa_s 6 (by decide +kernel) rfl, F_Pt, 11, rfl⟩
theorem f_Ct_166 : xF R_Ct 166 2 8 := ⟨R_Pt, F_Pt, 11, rfl, in_Pt, by decide, Or.inr ⟨"CareTours", xn_t 359 (by decide +kernel) rfl⟩⟩
theorem k_Ct_173 : xCV R_Ct 173 0 y_Ho_secondsBetween b_Ho_secondsBetween 6 (some .int) 2 := ⟨⟨xa_t 457 (by decide +kernel) rfl, xa_t 2 (by decide +kernel) rfl, ⟨by decide +kernel, by decide +kernel, by decide +kernel⟩, Or.inr ⟨"CareTours", xn_t 454 (by decide +kernel) rfl⟩⟩, xa_t 456 (by decide +kernel) rfl, xa_s 7 (by decide +kernel) rfl, F_Ho, 4, rfl⟩
theorem k_Ct_179 : xCV R_Ct 179 7 y_Ct_choose b_Ct_choose 5 none 2 := ⟨⟨xa_t 488 (by decide +kernel) rfl, xa_t 1 (by decide +kernel) rfl, ⟨by decide +kernel, by decide +kernel, by decide +kernel⟩, Or.inl (xa_t 485 (by decide +kernel) rfl)⟩, xa_t 487 (by decide +kernel) rfl, xa_s 11 (by decide +kernel) rfl, F_Ct, 10, rfl⟩
theorem f_Ct_183 : xF R_Ct 183 3 2 := ⟨R_Pe, F_Pe, 4, rfl, in_Pe, by decide, Or.inr ⟨"CareTours", xn_t 406 (by decide +kernel) rfl⟩⟩
theorem k_Ct_187 : xCV R_Ct 187 5 y_Pn_measure b_Pn_measure 6 none 2 := ⟨⟨xa_t 517 (by decide +kernel) rfl, xa_t 3 (by decide +kernel) rfl, ⟨by decide +kernel, by decide +kernel, by decide +kernel⟩, Or.inr ⟨"CareTours", xn_t 514 (by decide +kernel) rfl⟩⟩, xa_t 516 (by decide +kernel) rfl, xa_s 18 (by decide +kernel) rfl, F_Pn, 4, rfl⟩
theorem k_Ct_191 : xCV R_Ct 191 5 y_Pn_plan b_Pn_plan 3 none 0 := ⟨⟨xa_t 526 (by decide +kernel) rfl, xa_t 3 (by decide +kernel) rfl, ⟨by decide +kernel, by decide +kernel, by decide +kernel⟩, Or.inr ⟨"CareTours", xn_t 523 (by decide +kernel) rfl⟩⟩, xa_t 525 (by decide +kernel) rfl, xa_s 19 (by decide +kernel) rfl, F_Pn, 4, rfl⟩
theorem k_Ct_194 : xCV R_Ct 194 6 y_To_begin b_To_begin 3 none 2 := ⟨⟨xa_t 542 (by decide +kernel) rfl, xa_t 4 (by decide +kernel) rfl, ⟨by decide +kernel, by decide +kernel, by decide +kernel⟩, Or.inr ⟨"CareTours", xn_t 539 (by decide +kernel) rfl⟩⟩, xa_t 541 (by decide +kernel) rfl, xa_s 22 (by decide +kernel) rfl, F_To, 7, rfl⟩
theorem f_Ct_197 : xF R_Ct 197 3 3 := ⟨R_Pe, F_Pe, 4, rfl, in_Pe, by decide, Or.inr ⟨"CareTours", xn_t 408 (by decide +kernel) rfl⟩⟩
theorem k_Ct_200 : xCV R_Ct 200 5 y_Pn_stopsWithin b_Pn_stopsWithin 5 (some .int) 1 := ⟨⟨xa_t 547 (by decide +kernel) rfl, xa_t 3 (by decide +kernel) rfl, ⟨by decide +kernel, by decide +kernel, by decide +kernel⟩, Or.inr ⟨"CareTours", xn_t 544 (by decide +kernel) rfl⟩⟩, xa_t 546 (by decide +kernel) rfl, xa_s 23 (by decide +kernel) rfl, F_Pn, 4, rfl⟩
theorem k_Ct_204 : xCV R_Ct 204 5 y_Pn_fill b_Pn_fill 6 none 2 := ⟨⟨xa_t 558 (by decide +kernel) rfl, xa_t 3 (by decide +kernel) rfl, ⟨by decide +kernel, by decide +kernel, by decide +kernel⟩, Or.inr ⟨"CareTours", xn_t 555 (by decide +kernel) rfl⟩⟩, xa_t 557 (by decide +kernel) rfl, xa_s 25 (by decide +kernel) rfl, F_Pn, 4, rfl⟩
theorem f_Ct_208 : xF R_Ct 208 6 3 := ⟨R_To, F_To, 7, rfl, in_To, by decide, Or.inr ⟨"CareTours", xn_t 89 (by decide +kernel) rfl⟩⟩
theorem f_Ct_213 : xF R_Ct 213 6 0 := ⟨R_To, F_To, 7, rfl, in_To, by decide, Or.inr ⟨"CareTours", xn_t 83 (by decide +kernel) rfl⟩⟩
theorem f_Ct_216 : xF R_Ct 216 2 0 := ⟨R_Pt, F_Pt, 11, rfl, in_Pt, by decide, Or.inr ⟨"CareTours", xn_t 342 (by decide +kernel) rfl⟩⟩
theorem f_Ct_219 : xF R_Ct 219 6 5 := ⟨R_To, F_To, 7, rfl, in_To, by decide, Or.inr ⟨"CareTours", xn_t 93 (by decide +kernel) rfl⟩⟩
theorem f_Ct_222 : xF R_Ct 222 6 6 := ⟨R_To, F_To, 7, rfl, in_To, by decide, Or.inr ⟨"CareTours", xn_t 96 (by decide +kernel) rfl⟩⟩
theorem f_Ct_225 : xF R_Ct 225 6 4 := ⟨R_To, F_To, 7, rfl, in_To, by decide, Or.inr ⟨"CareTours", xn_t 91 (by decide +kernel) rfl⟩⟩
theorem p_Ct_225 : xP R_Ct 225 6 4 .int := ⟨R_To, F_To, 7, t_To, rfl, in_To, tk_To, n_To, by decide, Or.inr ⟨"CareTours", xn_t 91 (by decide +kernel) rfl⟩, by decide +kernel, rfl⟩
theorem f_Ct_228 : xF R_Ct 228 6 1 := ⟨R_To, F_To, 7, rfl, in_To, by decide, Or.inr ⟨"CareTours", xn_t 85 (by decide +kernel) rfl⟩⟩
theorem f_Ct_232 : xF R_Ct 232 3 0 := ⟨R_Pe, F_Pe, 4, rfl, in_Pe, by decide, Or.inr ⟨"CareTours", xn_t 402 (by decide +kernel) rfl⟩⟩
theorem f_Ct_237 : xF R_Ct 237 2 2 := ⟨R_Pt, F_Pt, 11, rfl, in_Pt, by decide, Or.inr ⟨"CareTours", xn_t 349 (by decide +kernel) rfl⟩⟩
theorem k_Ct_240 : xCV R_Ct 240 3 y_Pe_has b_Pe_has 2 (some .boolean) 1 := ⟨⟨xa_t 509 (by decide +kernel) rfl, xa_t 15 (by decide +kernel) rfl, ⟨by decide +kernel, by decide +kernel, by decide +kernel⟩, Or.inr ⟨"CareTours", xn_t 506 (by decide +kernel) rfl⟩⟩, xa_t 508 (by decide +kernel) rfl, xa_s 16 (by decide +kernel) rfl, F_Pe, 4, rfl⟩
theorem k_Ct_245 : xCV R_Ct 245 6 y_To_isStop b_To_isStop 3 (some .boolean) 1 := ⟨⟨xa_t 595 (by decide +kernel) rfl, xa_t 4 (by decide +kernel) rfl, ⟨by decide +kernel, by decide +kernel, by decide +kernel⟩, Or.inr ⟨"CareTours", xn_t 592 (by decide +kernel) rfl⟩⟩, xa_t 594 (by decide +kernel) rfl, xa_s 28 (by decide +kernel) rfl, F_To, 7, rfl⟩
theorem f_Ct_251 : xF R_Ct 251 2 1 := ⟨R_Pt, F_Pt, 11, rfl, in_Pt, by decide, Or.inr ⟨"CareTours", xn_t 347 (by decide +kernel) rfl⟩⟩
theorem k_Ct_254 : xCV R_Ct 254 6 y_To_shortestGap b_To_shortestGap 7 (some .int) 2 := ⟨⟨xa_t 600 (by decide +kernel) rfl, xa_t 4 (by decide +kernel) rfl, ⟨by decide +kernel, by decide +kernel, by decide +kernel⟩, Or.inr ⟨"CareTours", xn_t 597 (by decide +kernel) rfl⟩⟩, xa_t 599 (by decide +kernel) rfl, xa_s 29 (by decide +kernel) rfl, F_To, 7, rfl⟩
theorem k_Ct_258 : xCV R_Ct 258 6 y_To_detour b_To_detour 6 (some .int) 3 := ⟨⟨xa_t 617 (by decide +kernel) rfl, xa_t 4 (by decide +kernel) rfl, ⟨by decide +kernel, by decide +kernel, by decide +kernel⟩, Or.inr ⟨"CareTours", xn_t 618 (by decide +kernel) rfl⟩⟩, xa_t 616 (by decide +kernel) rfl, xa_s 33 (by decide +kernel) rfl, F_To, 7, rfl⟩
theorem k_Ct_262 : xCV R_Ct 262 6 y_To_insert b_To_insert 5 none 3 := ⟨⟨xa_t 566 (by decide +kernel) rfl, xa_t 4 (by decide +kernel) rfl, ⟨by decide +kernel, by decide +kernel, by decide +kernel⟩, Or.inr ⟨"CareTours", xn_t 619 (by decide +kernel) rfl⟩⟩, xa_t 565 (by decide +kernel) rfl, xa_s 27 (by decide +kernel) rfl, F_To, 7, rfl⟩
theorem f_Ct_268 : xF R_Ct 268 2 3 := ⟨R_Pt, F_Pt, 11, rfl, in_Pt, by decide, Or.inr ⟨"CareTours", xn_t 351 (by decide +kernel) rfl⟩⟩
theorem f_Ct_271 : xF R_Ct 271 6 2 := ⟨R_To, F_To, 7, rfl, in_To, by decide, Or.inr ⟨"CareTours", xn_t 87 (by decide +kernel) rfl⟩⟩
theorem k_Ct_274 : xCV R_Ct 274 2 y_Pt_renew b_Pt_renew 2 none 1 := ⟨⟨xa_t 631 (by decide +kernel) rfl, xa_t 14 (by decide +kernel) rfl, ⟨by decide +kernel, by decide +kernel, by decide +kernel⟩, Or.inr ⟨"CareTours", xn_t 628 (by decide +kernel) rfl⟩⟩, xa_t 630 (by decide +kernel) rfl, xa_s 34 (by decide +kernel) rfl, F_Pt, 11, rfl⟩
theorem k_Ct_278 : xCV R_Ct 278 2 y_Pt_dueDay b_Pt_dueDay 2 (some .int) 0 := ⟨⟨xa_t 500 (by decide +kernel) rfl, xa_t 14 (by decide +kernel) rfl, ⟨by decide +kernel, by decide +kernel, by decide +kernel⟩, Or.inr ⟨"CareTours", xn_t 497 (by decide +kernel) rfl⟩⟩, xa_t 499 (by decide +kernel) rfl, xa_s 14 (by decide +kernel) rfl, F_Pt, 11, rfl⟩
theorem k_Ct_284 : xCV R_Ct 284 7 y_Ct_rankByDueDays b_Ct_rankByDueDays 4 none 0 := ⟨⟨xa_t 496 (by decide +kernel) rfl, xa_t 1 (by decide +kernel) rfl, ⟨by decide +kernel, by decide +kernel, by decide +kernel⟩, Or.inl (xa_t 493 (by decide +kernel) rfl)⟩, xa_t 495 (by decide +kernel) rfl, xa_s 13 (by decide +kernel) rfl, F_Ct, 10, rfl⟩
theorem k_Ct_292 : xCV R_Ct 292 5 y_Pn_clear b_Pn_clear 1 none 0 := ⟨⟨xa_t 492 (by decide +kernel) rfl, xa_t 3 (by decide +kernel) rfl, ⟨by decide +kernel, by decide +kernel, by decide +kernel⟩, Or.inr ⟨"CareTours", xn_t 489 (by decide +kernel) rfl⟩⟩, xa_t 491 (by decide +kernel) rfl, xa_s 12 (by decide +kernel) rfl, F_Pn, 4, rfl⟩
theorem k_Ct_295 : xCV R_Ct 295 5 y_Pn_isFull b_Pn_isFull 1 (some .boolean) 0 := ⟨⟨xa_t 505 (by decide +kernel) rfl, xa_t 3 (by decide +kernel) rfl, ⟨by decide +kernel, by decide +kernel, by decide +kernel⟩, Or.inr ⟨"CareTours", xn_t 502 (by decide +kernel) rfl⟩⟩, xa_t 504 (by decide +kernel) rfl, xa_s 15 (by decide +kernel) rfl, F_Pn, 4, rfl⟩
theorem k_Ct_299 : xCV R_Ct 299 5 y_Pn_add b_Pn_add 2 none 1 := ⟨⟨xa_t 513 (by decide +kernel) rfl, xa_t 3 (by decide +kernel) rfl, ⟨by decide +kernel, by decide +kernel, by decide +kernel⟩, Or.inr ⟨"CareTours", xn_t 510 (by decide +kernel) rfl⟩⟩, xa_t 512 (by decide +kernel) rfl, xa_s 17 (by decide +kernel) rfl, F_Pn, 4, rfl⟩
theorem f_Ho_11 : xF R_Ho 11 0 0 := ⟨R_Ho, F_Ho, 4, rfl, in_Ho, by decide, Or.inl (xa_t 34 (by decide +kernel) rfl)⟩
theorem p_Ho_11 : xPF R_Ho 11 0 0 (.array (.object "CareTours$Place")) := ⟨R_Ho, F_Ho, 4, t_Ho, rfl, in_Ho, tk_Ho, n_Ho, by decide, xa_t 34 (by decide +kernel) rfl, by decide +kernel, rfl, rfl⟩
theorem f_Ho_19 : xF R_Ho 19 0 1 := ⟨R_Ho, F_Ho, 4, rfl, in_Ho, by decide, Or.inl (xa_t 36 (by decide +kernel) rfl)⟩
theorem p_Ho_19 : xPF R_Ho 19 0 1 (.array (.object "CareTours$Lift")) := ⟨R_Ho, F_Ho, 4, t_Ho, rfl, in_Ho, tk_Ho, n_Ho, by decide, xa_t 36 (by decide +kernel) rfl, by decide +kernel, rfl, rfl⟩
theorem f_Ho_23 : xF R_Ho 23 0 2 := ⟨R_Ho, F_Ho, 4, rfl, in_Ho, by decide, Or.inl (xa_t 37 (by decide +kernel) rfl)⟩
theorem p_Ho_23 : xP R_Ho 23 0 2 .int := ⟨R_Ho, F_Ho, 4, t_Ho, rfl, in_Ho, tk_Ho, n_Ho, by decide, Or.inl (xa_t 37 (by decide +kernel) rfl), by decide +kernel, rfl⟩
theorem f_Ho_27 : xF R_Ho 27 0 3 := ⟨R_Ho, F_Ho, 4, rfl, in_Ho, by decide, Or.inl (xa_t 39 (by decide +kernel) rfl)⟩
theorem p_Ho_27 : xP R_Ho 27 0 3 .int := ⟨R_Ho, F_Ho, 4, t_Ho, rfl, in_Ho, tk_Ho, n_Ho, by decide, Or.inl (xa_t 39 (by decide +kernel) rfl), by decide +kernel, rfl⟩
theorem k_Ho_30 : xCS R_Ho 30 y_Ct_within b_Ct_within 3 (some .boolean) 3 := ⟨⟨xa_t 163 (by decide +kernel) rfl, xa_t 1 (by decide +kernel) rfl, ⟨by decide +kernel, by decide +kernel, by decide +kernel⟩, Or.inr ⟨"CareTours", xn_t 328 (by decide +kernel) rfl⟩⟩, xa_t 162 (by decide +kernel) rfl⟩
theorem f_Ho_34 : xF R_Ho 34 4 0 := ⟨R_Pl, F_Pl, 3, rfl, in_Pl, by decide, Or.inr ⟨"CareTours", xn_t 262 (by decide +kernel) rfl⟩⟩
theorem f_Ho_37 : xF R_Ho 37 4 1 := ⟨R_Pl, F_Pl, 3, rfl, in_Pl, by decide, Or.inr ⟨"CareTours", xn_t 264 (by decide +kernel) rfl⟩⟩
theorem f_Ho_40 : xF R_Ho 40 4 2 := ⟨R_Pl, F_Pl, 3, rfl, in_Pl, by decide, Or.inr ⟨"CareTours", xn_t 266 (by decide +kernel) rfl⟩⟩
theorem k_Ho_43 : xCV R_Ho 43 4 y_Pl_secondsTo b_Pl_secondsTo 3 (some .int) 2 := ⟨⟨xa_t 461 (by decide +kernel) rfl, xa_t 12 (by decide +kernel) rfl, ⟨by decide +kernel, by decide +kernel, by decide +kernel⟩, Or.inr ⟨"CareTours", xn_t 458 (by decide +kernel) rfl⟩⟩, xa_t 460 (by decide +kernel) rfl, xa_s 8 (by decide +kernel) rfl, F_Pl, 3, rfl⟩
theorem k_Ho_47 : xCV R_Ho 47 1 y_Li_comesTo b_Li_comesTo 2 (some .boolean) 1 := ⟨⟨xa_t 468 (by decide +kernel) rfl, xa_t 13 (by decide +kernel) rfl, ⟨by decide +kernel, by decide +kernel, by decide +kernel⟩, Or.inr ⟨"CareTours", xn_t 465 (by decide +kernel) rfl⟩⟩, xa_t 467 (by decide +kernel) rfl, xa_s 9 (by decide +kernel) rfl, F_Li, 6, rfl⟩
theorem k_Ho_51 : xCV R_Ho 51 1 y_Li_secondsBetween b_Li_secondsBetween 4 (some .int) 2 := ⟨⟨xa_t 473 (by decide +kernel) rfl, xa_t 13 (by decide +kernel) rfl, ⟨by decide +kernel, by decide +kernel, by decide +kernel⟩, Or.inr ⟨"CareTours", xn_t 470 (by decide +kernel) rfl⟩⟩, xa_t 472 (by decide +kernel) rfl, xa_s 10 (by decide +kernel) rfl, F_Li, 6, rfl⟩
theorem f_Li_7 : xF R_Li 7 1 0 := ⟨R_Li, F_Li, 6, rfl, in_Li, by decide, Or.inl (xa_t 294 (by decide +kernel) rfl)⟩
theorem p_Li_7 : xPF R_Li 7 1 0 .int := ⟨R_Li, F_Li, 6, t_Li, rfl, in_Li, tk_Li, n_Li, by decide, xa_t 294 (by decide +kernel) rfl, by decide +kernel, rfl, rfl⟩
theorem f_Li_13 : xF R_Li 13 1 1 := ⟨R_Li, F_Li, 6, rfl, in_Li, by decide, Or.inl (xa_t 295 (by decide +kernel) rfl)⟩
theorem p_Li_13 : xPF R_Li 13 1 1 .int := ⟨R_Li, F_Li, 6, t_Li, rfl, in_Li, tk_Li, n_Li, by decide, xa_t 295 (by decide +kernel) rfl, by decide +kernel, rfl, rfl⟩
theorem f_Li_16 : xF R_Li 16 1 2 := ⟨R_Li, F_Li, 6, rfl, in_Li, by decide, Or.inl (xa_t 296 (by decide +kernel) rfl)⟩
theorem p_Li_16 : xPF R_Li 16 1 2 .int := ⟨R_Li, F_Li, 6, t_Li, rfl, in_Li, tk_Li, n_Li, by decide, xa_t 296 (by decide +kernel) rfl, by decide +kernel, rfl, rfl⟩
theorem f_Li_19 : xF R_Li 19 1 3 := ⟨R_Li, F_Li, 6, rfl, in_Li, by decide, Or.inl (xa_t 297 (by decide +kernel) rfl)⟩
theorem p_Li_19 : xPF R_Li 19 1 3 .int := ⟨R_Li, F_Li, 6, t_Li, rfl, in_Li, tk_Li, n_Li, by decide, xa_t 297 (by decide +kernel) rfl, by decide +kernel, rfl, rfl⟩
theorem f_Li_22 : xF R_Li 22 1 4 := ⟨R_Li, F_Li, 6, rfl, in_Li, by decide, Or.inl (xa_t 298 (by decide +kernel) rfl)⟩
theorem p_Li_22 : xPF R_Li 22 1 4 .int := ⟨R_Li, F_Li, 6, t_Li, rfl, in_Li, tk_Li, n_Li, by decide, xa_t 298 (by decide +kernel) rfl, by decide +kernel, rfl, rfl⟩
theorem f_Li_25 : xF R_Li 25 1 5 := ⟨R_Li, F_Li, 6, rfl, in_Li, by decide, Or.inl (xa_t 299 (by decide +kernel) rfl)⟩
theorem p_Li_25 : xPF R_Li 25 1 5 .int := ⟨R_Li, F_Li, 6, t_Li, rfl, in_Li, tk_Li, n_Li, by decide, xa_t 299 (by decide +kernel) rfl, by decide +kernel, rfl, rfl⟩
theorem f_Li_28 : xF R_Li 28 4 0 := ⟨R_Pl, F_Pl, 3, rfl, in_Pl, by decide, Or.inr ⟨"CareTours", xn_t 261 (by decide +kernel) rfl⟩⟩
theorem k_Li_33 : xCS R_Li 33 y_Ct_within b_Ct_within 3 (some .boolean) 3 := ⟨⟨xa_t 163 (by decide +kernel) rfl, xa_t 1 (by decide +kernel) rfl, ⟨by decide +kernel, by decide +kernel, by decide +kernel⟩, Or.inr ⟨"CareTours", xn_t 469 (by decide +kernel) rfl⟩⟩, xa_t 162 (by decide +kernel) rfl⟩
theorem k_Li_45 : xCV R_Li 45 4 y_Pl_secondsTo b_Pl_secondsTo 3 (some .int) 2 := ⟨⟨xa_t 461 (by decide +kernel) rfl, xa_t 12 (by decide +kernel) rfl, ⟨by decide +kernel, by decide +kernel, by decide +kernel⟩, Or.inr ⟨"CareTours", xn_t 475 (by decide +kernel) rfl⟩⟩, xa_t 460 (by decide +kernel) rfl, xa_s 8 (by decide +kernel) rfl, F_Pl, 3, rfl⟩
theorem f_Pt_9 : xF R_Pt 9 2 7 := ⟨R_Pt, F_Pt, 11, rfl, in_Pt, by decide, Or.inl (xa_t 357 (by decide +kernel) rfl)⟩
theorem p_Pt_9 : xP R_Pt 9 2 7 .int := ⟨R_Pt, F_Pt, 11, t_Pt, rfl, in_Pt, tk_Pt, n_Pt, by decide, Or.inl (xa_t 357 (by decide +kernel) rfl), by decide +kernel, rfl⟩
theorem f_Pt_15 : xF R_Pt 15 2 8 := ⟨R_Pt, F_Pt, 11, rfl, in_Pt, by decide, Or.inl (xa_t 358 (by decide +kernel) rfl)⟩
theorem p_Pt_15 : xP R_Pt 15 2 8 .int := ⟨R_Pt, F_Pt, 11, t_Pt, rfl, in_Pt, tk_Pt, n_Pt, by decide, Or.inl (xa_t 358 (by decide +kernel) rfl), by decide +kernel, rfl⟩
theorem p_Pt_18 : xP R_Pt 18 2 9 .int := ⟨R_Pt, F_Pt, 11, t_Pt, rfl, in_Pt, tk_Pt, n_Pt, by decide, Or.inl (xa_t 360 (by decide +kernel) rfl), by decide +kernel, rfl⟩
theorem f_Pt_21 : xF R_Pt 21 2 10 := ⟨R_Pt, F_Pt, 11, rfl, in_Pt, by decide, Or.inl (xa_t 362 (by decide +kernel) rfl)⟩
theorem p_Pt_21 : xP R_Pt 21 2 10 .int := ⟨R_Pt, F_Pt, 11, t_Pt, rfl, in_Pt, tk_Pt, n_Pt, by decide, Or.inl (xa_t 362 (by decide +kernel) rfl), by decide +kernel, rfl⟩
theorem p_Pt_24 : xPF R_Pt 24 2 0 .int := ⟨R_Pt, F_Pt, 11, t_Pt, rfl, in_Pt, tk_Pt, n_Pt, by decide, xa_t 340 (by decide +kernel) rfl, by decide +kernel, rfl, rfl⟩
theorem p_Pt_27 : xPF R_Pt 27 2 1 (.object "CareTours$Place") := ⟨R_Pt, F_Pt, 11, t_Pt, rfl, in_Pt, tk_Pt, n_Pt, by decide, xa_t 344 (by decide +kernel) rfl, by decide +kernel, rfl, rfl⟩
theorem p_Pt_31 : xPF R_Pt 31 2 2 .int := ⟨R_Pt, F_Pt, 11, t_Pt, rfl, in_Pt, tk_Pt, n_Pt, by decide, xa_t 348 (by decide +kernel) rfl, by decide +kernel, rfl, rfl⟩
theorem p_Pt_34 : xPF R_Pt 34 2 3 .int := ⟨R_Pt, F_Pt, 11, t_Pt, rfl, in_Pt, tk_Pt, n_Pt, by decide, xa_t 350 (by decide +kernel) rfl, by decide +kernel, rfl, rfl⟩
theorem f_Pt_37 : xF R_Pt 37 2 4 := ⟨R_Pt, F_Pt, 11, rfl, in_Pt, by decide, Or.inl (xa_t 352 (by decide +kernel) rfl)⟩
theorem p_Pt_37 : xPF R_Pt 37 2 4 .int := ⟨R_Pt, F_Pt, 11, t_Pt, rfl, in_Pt, tk_Pt, n_Pt, by decide, xa_t 352 (by decide +kernel) rfl, by decide +kernel, rfl, rfl⟩
theorem f_Pt_40 : xF R_Pt 40 2 5 := ⟨R_Pt, F_Pt, 11, rfl, in_Pt, by decide, Or.inl (xa_t 353 (by decide +kernel) rfl)⟩
theorem p_Pt_40 : xPF R_Pt 40 2 5 .int := ⟨R_Pt, F_Pt, 11, t_Pt, rfl, in_Pt, tk_Pt, n_Pt, by decide, xa_t 353 (by decide +kernel) rfl, by decide +kernel, rfl, rfl⟩
theorem p_Pt_43 : xPF R_Pt 43 2 6 .int := ⟨R_Pt, F_Pt, 11, t_Pt, rfl, in_Pt, tk_Pt, n_Pt, by decide, xa_t 354 (by decide +kernel) rfl, by decide +kernel, rfl, rfl⟩
theorem p_Pe_7 : xPF R_Pe 7 3 0 .int := ⟨R_Pe, F_Pe, 4, t_Pe, rfl, in_Pe, tk_Pe, n_Pe, by decide, xa_t 401 (by decide +kernel) rfl, by decide +kernel, rfl, rfl⟩
theorem f_Pe_13 : xF R_Pe 13 3 1 := ⟨R_Pe, F_Pe, 4, rfl, in_Pe, by decide, Or.inl (xa_t 403 (by decide +kernel) rfl)⟩
theorem p_Pe_13 : xPF R_Pe 13 3 1 .int := ⟨R_Pe, F_Pe, 4, t_Pe, rfl, in_Pe, tk_Pe, n_Pe, by decide, xa_t 403 (by decide +kernel) rfl, by decide +kernel, rfl, rfl⟩
theorem p_Pe_16 : xPF R_Pe 16 3 2 (.object "CareTours$Place") := ⟨R_Pe, F_Pe, 4, t_Pe, rfl, in_Pe, tk_Pe, n_Pe, by decide, xa_t 404 (by decide +kernel) rfl, by decide +kernel, rfl, rfl⟩
theorem p_Pe_20 : xPF R_Pe 20 3 3 .int := ⟨R_Pe, F_Pe, 4, t_Pe, rfl, in_Pe, tk_Pe, n_Pe, by decide, xa_t 407 (by decide +kernel) rfl, by decide +kernel, rfl, rfl⟩
theorem p_Pl_7 : xPF R_Pl 7 4 0 .int := ⟨R_Pl, F_Pl, 3, t_Pl, rfl, in_Pl, tk_Pl, n_Pl, by decide, xa_t 260 (by decide +kernel) rfl, by decide +kernel, rfl, rfl⟩
theorem f_Pl_13 : xF R_Pl 13 4 1 := ⟨R_Pl, F_Pl, 3, rfl, in_Pl, by decide, Or.inl (xa_t 263 (by decide +kernel) rfl)⟩
theorem p_Pl_13 : xPF R_Pl 13 4 1 .int := ⟨R_Pl, F_Pl, 3, t_Pl, rfl, in_Pl, tk_Pl, n_Pl, by decide, xa_t 263 (by decide +kernel) rfl, by decide +kernel, rfl, rfl⟩
theorem f_Pl_16 : xF R_Pl 16 4 2 := ⟨R_Pl, F_Pl, 3, rfl, in_Pl, by decide, Or.inl (xa_t 265 (by decide +kernel) rfl)⟩
theorem p_Pl_16 : xPF R_Pl 16 4 2 .int := ⟨R_Pl, F_Pl, 3, t_Pl, rfl, in_Pl, tk_Pl, n_Pl, by decide, xa_t 265 (by decide +kernel) rfl, by decide +kernel, rfl, rfl⟩
theorem f_Pn_13 : xF R_Pn 13 5 0 := ⟨R_Pn, F_Pn, 4, rfl, in_Pn, by decide, Or.inl (xa_t 61 (by decide +kernel) rfl)⟩
theorem p_Pn_13 : xPF R_Pn 13 5 0 (.array (.object "CareTours$Part")) := ⟨R_Pn, F_Pn, 4, t_Pn, rfl, in_Pn, tk_Pn, n_Pn, by decide, xa_t 61 (by decide +kernel) rfl, by decide +kernel, rfl, rfl⟩
theorem f_Pn_17 : xF R_Pn 17 5 1 := ⟨R_Pn, F_Pn, 4, rfl, in_Pn, by decide, Or.inl (xa_t 62 (by decide +kernel) rfl)⟩
theorem p_Pn_17 : xPF R_Pn 17 5 1 (.array .int) := ⟨R_Pn, F_Pn, 4, t_Pn, rfl, in_Pn, tk_Pn, n_Pn, by decide, xa_t 62 (by decide +kernel) rfl, by decide +kernel, rfl, rfl⟩
theorem f_Pn_21 : xF R_Pn 21 5 2 := ⟨R_Pn, F_Pn, 4, rfl, in_Pn, by decide, Or.inl (xa_t 63 (by decide +kernel) rfl)⟩
theorem p_Pn_21 : xPF R_Pn 21 5 2 (.array .int) := ⟨R_Pn, F_Pn, 4, t_Pn, rfl, in_Pn, tk_Pn, n_Pn, by decide, xa_t 63 (by decide +kernel) rfl, by decide +kernel, rfl, rfl⟩
theorem f_Pn_24 : xF R_Pn 24 5 3 := ⟨R_Pn, F_Pn, 4, rfl, in_Pn, by decide, Or.inl (xa_t 64 (by decide +kernel) rfl)⟩
theorem p_Pn_24 : xP R_Pn 24 5 3 .int := ⟨R_Pn, F_Pn, 4, t_Pn, rfl, in_Pn, tk_Pn, n_Pn, by decide, Or.inl (xa_t 64 (by decide +kernel) rfl), by decide +kernel, rfl⟩
theorem f_Pn_28 : xF R_Pn 28 2 1 := ⟨R_Pt, F_Pt, 11, rfl, in_Pt, by decide, Or.inr ⟨"CareTours", xn_t 345 (by decide +kernel) rfl⟩⟩
theorem k_Pn_32 : xCS R_Pn 32 y_Pn_legOf b_Pn_legOf 4 (some .int) 3 := ⟨⟨xa_t 520 (by decide +kernel) rfl, xa_t 3 (by decide +kernel) rfl, ⟨by decide +kernel, by decide +kernel, by decide +kernel⟩, Or.inl (xa_t 518 (by decide +kernel) rfl)⟩, xa_t 519 (by decide +kernel) rfl⟩
theorem k_Pn_36 : xCV R_Pn 36 0 y_Ho_secondsBetween b_Ho_secondsBetween 6 (some .int) 2 := ⟨⟨xa_t 457 (by decide +kernel) rfl, xa_t 2 (by decide +kernel) rfl, ⟨by decide +kernel, by decide +kernel, by decide +kernel⟩, Or.inr ⟨"CareTours", xn_t 521 (by decide +kernel) rfl⟩⟩, xa_t 456 (by decide +kernel) rfl, xa_s 7 (by decide +kernel) rfl, F_Ho, 4, rfl⟩
theorem k_Pn_43 : xCS R_Pn 43 y_Pn_isIn b_Pn_isIn 2 (some .boolean) 2 := ⟨⟨xa_t 529 (by decide +kernel) rfl, xa_t 3 (by decide +kernel) rfl, ⟨by decide +kernel, by decide +kernel, by decide +kernel⟩, Or.inl (xa_t 527 (by decide +kernel) rfl)⟩, xa_t 528 (by decide +kernel) rfl⟩
theorem k_Pn_47 : xCV R_Pn 47 5 y_Pn_leastRest b_Pn_leastRest 5 (some .int) 2 := ⟨⟨xa_t 533 (by decide +kernel) rfl, xa_t 3 (by decide +kernel) rfl, ⟨by decide +kernel, by decide +kernel, by decide +kernel⟩, Or.inl (xa_t 530 (by decide +kernel) rfl)⟩, xa_t 532 (by decide +kernel) rfl, xa_s 20 (by decide +kernel) rfl, F_Pn, 4, rfl⟩
theorem k_Pn_51 : xCV R_Pn 51 5 y_Pn_restBy b_Pn_restBy 4 (some .int) 3 := ⟨⟨xa_t 537 (by decide +kernel) rfl, xa_t 3 (by decide +kernel) rfl, ⟨by decide +kernel, by decide +kernel, by decide +kernel⟩, Or.inl (xa_t 534 (by decide +kernel) rfl)⟩, xa_t 536 (by decide +kernel) rfl, xa_s 21 (by decide +kernel) rfl, F_Pn, 4, rfl⟩
theorem k_Pn_60 : xCS R_Pn 60 y_Pn_firstOnes b_Pn_firstOnes 1 (some .int) 1 := ⟨⟨xa_t 554 (by decide +kernel) rfl, xa_t 3 (by decide +kernel) rfl, ⟨by decide +kernel, by decide +kernel, by decide +kernel⟩, Or.inl (xa_t 552 (by decide +kernel) rfl)⟩, xa_t 553 (by decide +kernel) rfl⟩
theorem f_Pn_64 : xF R_Pn 64 2 6 := ⟨R_Pt, F_Pt, 11, rfl, in_Pt, by decide, Or.inr ⟨"CareTours", xn_t 356 (by decide +kernel) rfl⟩⟩
theorem k_Pn_67 : xCV R_Pn 67 5 y_Pn_leastWalks b_Pn_leastWalks 2 (some .int) 1 := ⟨⟨xa_t 551 (by decide +kernel) rfl, xa_t 3 (by decide +kernel) rfl, ⟨by decide +kernel, by decide +kernel, by decide +kernel⟩, Or.inl (xa_t 548 (by decide +kernel) rfl)⟩, xa_t 550 (by decide +kernel) rfl, xa_s 24 (by decide +kernel) rfl, F_Pn, 4, rfl⟩
theorem k_Pn_70 : xCV R_Pn 70 5 y_Pn_nextNode b_Pn_nextNode 5 (some .int) 2 := ⟨⟨xa_t 562 (by decide +kernel) rfl, xa_t 3 (by decide +kernel) rfl, ⟨by decide +kernel, by decide +kernel, by decide +kernel⟩, Or.inl (xa_t 559 (by decide +kernel) rfl)⟩, xa_t 561 (by decide +kernel) rfl, xa_s 26 (by decide +kernel) rfl, F_Pn, 4, rfl⟩
theorem k_Pn_73 : xCV R_Pn 73 6 y_To_insert b_To_insert 5 none 3 := ⟨⟨xa_t 566 (by decide +kernel) rfl, xa_t 4 (by decide +kernel) rfl, ⟨by decide +kernel, by decide +kernel, by decide +kernel⟩, Or.inr ⟨"CareTours", xn_t 563 (by decide +kernel) rfl⟩⟩, xa_t 565 (by decide +kernel) rfl, xa_s 27 (by decide +kernel) rfl, F_To, 7, rfl⟩
theorem p_Pn_79 : xP R_Pn 79 6 5 .int := ⟨R_To, F_To, 7, t_To, rfl, in_To, tk_To, n_To, by decide, Or.inr ⟨"CareTours", xn_t 94 (by decide +kernel) rfl⟩, by decide +kernel, rfl⟩
theorem f_Pn_82 : xF R_Pn 82 2 0 := ⟨R_Pt, F_Pt, 11, rfl, in_Pt, by decide, Or.inr ⟨"CareTours", xn_t 343 (by decide +kernel) rfl⟩⟩
theorem f_To_11 : xF R_To 11 6 0 := ⟨R_To, F_To, 7, rfl, in_To, by decide, Or.inl (xa_t 82 (by decide +kernel) rfl)⟩
theorem p_To_11 : xPF R_To 11 6 0 (.array (.object "CareTours$Part")) := ⟨R_To, F_To, 7, t_To, rfl, in_To, tk_To, n_To, by decide, xa_t 82 (by decide +kernel) rfl, by decide +kernel, rfl, rfl⟩
theorem f_To_17 : xF R_To 17 6 1 := ⟨R_To, F_To, 7, rfl, in_To, by decide, Or.inl (xa_t 84 (by decide +kernel) rfl)⟩
theorem p_To_17 : xP R_To 17 6 1 (.object "CareTours$Person") := ⟨R_To, F_To, 7, t_To, rfl, in_To, tk_To, n_To, by decide, Or.inl (xa_t 84 (by decide +kernel) rfl), by decide +kernel, rfl⟩
theorem p_To_21 : xP R_To 21 6 2 .int := ⟨R_To, F_To, 7, t_To, rfl, in_To, tk_To, n_To, by decide, Or.inl (xa_t 86 (by decide +kernel) rfl), by decide +kernel, rfl⟩
theorem f_To_25 : xF R_To 25 6 3 := ⟨R_To, F_To, 7, rfl, in_To, by decide, Or.inl (xa_t 88 (by decide +kernel) rfl)⟩
theorem p_To_25 : xP R_To 25 6 3 .int := ⟨R_To, F_To, 7, t_To, rfl, in_To, tk_To, n_To, by decide, Or.inl (xa_t 88 (by decide +kernel) rfl), by decide +kernel, rfl⟩
theorem f_To_28 : xF R_To 28 6 4 := ⟨R_To, F_To, 7, rfl, in_To, by decide, Or.inl (xa_t 90 (by decide +kernel) rfl)⟩
theorem p_To_28 : xP R_To 28 6 4 .int := ⟨R_To, F_To, 7, t_To, rfl, in_To, tk_To, n_To, by decide, Or.inl (xa_t 90 (by decide +kernel) rfl), by decide +kernel, rfl⟩
theorem f_To_31 : xF R_To 31 6 5 := ⟨R_To, F_To, 7, rfl, in_To, by decide, Or.inl (xa_t 92 (by decide +kernel) rfl)⟩
theorem p_To_31 : xP R_To 31 6 5 .int := ⟨R_To, F_To, 7, t_To, rfl, in_To, tk_To, n_To, by decide, Or.inl (xa_t 92 (by decide +kernel) rfl), by decide +kernel, rfl⟩
theorem f_To_34 : xF R_To 34 6 6 := ⟨R_To, F_To, 7, rfl, in_To, by decide, Or.inl (xa_t 95 (by decide +kernel) rfl)⟩
theorem p_To_34 : xP R_To 34 6 6 .int := ⟨R_To, F_To, 7, t_To, rfl, in_To, tk_To, n_To, by decide, Or.inl (xa_t 95 (by decide +kernel) rfl), by decide +kernel, rfl⟩
theorem k_To_37 : xCV R_To 37 6 y_To_end b_To_end 1 none 0 := ⟨⟨xa_t 253 (by decide +kernel) rfl, xa_t 4 (by decide +kernel) rfl, ⟨by decide +kernel, by decide +kernel, by decide +kernel⟩, Or.inl (xa_t 543 (by decide +kernel) rfl)⟩, xa_t 252 (by decide +kernel) rfl, xa_s 1 (by decide +kernel) rfl, F_To, 7, rfl⟩
theorem f_To_40 : xF R_To 40 2 0 := ⟨R_Pt, F_Pt, 11, rfl, in_Pt, by decide, Or.inr ⟨"CareTours", xn_t 341 (by decide +kernel) rfl⟩⟩
theorem f_To_43 : xF R_To 43 2 6 := ⟨R_Pt, F_Pt, 11, rfl, in_Pt, by decide, Or.inr ⟨"CareTours", xn_t 355 (by decide +kernel) rfl⟩⟩
theorem k_To_44 : xCV R_To 44 6 y_To_canReach b_To_canReach 4 (some .boolean) 3 := ⟨⟨xa_t 604 (by decide +kernel) rfl, xa_t 4 (by decide +kernel) rfl, ⟨by decide +kernel, by decide +kernel, by decide +kernel⟩, Or.inl (xa_t 601 (by decide +kernel) rfl)⟩, xa_t 603 (by decide +kernel) rfl, xa_s 30 (by decide +kernel) rfl, F_To, 7, rfl⟩
theorem k_To_48 : xCV R_To 48 6 y_To_detour b_To_detour 6 (some .int) 3 := ⟨⟨xa_t 617 (by decide +kernel) rfl, xa_t 4 (by decide +kernel) rfl, ⟨by decide +kernel, by decide +kernel, by decide +kernel⟩, Or.inl (xa_t 614 (by decide +kernel) rfl)⟩, xa_t 616 (by decide +kernel) rfl, xa_s 33 (by decide +kernel) rfl, F_To, 7, rfl⟩
theorem k_To_52 : xCV R_To 52 6 y_To_placeBefore b_To_placeBefore 2 (some (.object "CareTours$Place")) 1 := ⟨⟨xa_t 608 (by decide +kernel) rfl, xa_t 4 (by decide +kernel) rfl, ⟨by decide +kernel, by decide +kernel, by decide +kernel⟩, Or.inl (xa_t 605 (by decide +kernel) rfl)⟩, xa_t 607 (by decide +kernel) rfl, xa_s 31 (by decide +kernel) rfl, F_To, 7, rfl⟩
theorem k_To_56 : xCV R_To 56 0 y_Ho_secondsBetween b_Ho_secondsBetween 6 (some .int) 2 := ⟨⟨xa_t 457 (by decide +kernel) rfl, xa_t 2 (by decide +kernel) rfl, ⟨by decide +kernel, by decide +kernel, by decide +kernel⟩, Or.inr ⟨"CareTours", xn_t 609 (by decide +kernel) rfl⟩⟩, xa_t 456 (by decide +kernel) rfl, xa_s 7 (by decide +kernel) rfl, F_Ho, 4, rfl⟩
theorem k_To_62 : xCV R_To 62 6 y_To_placeBehind b_To_placeBehind 2 (some (.object "CareTours$Place")) 1 := ⟨⟨xa_t 613 (by decide +kernel) rfl, xa_t 4 (by decide +kernel) rfl, ⟨by decide +kernel, by decide +kernel, by decide +kernel⟩, Or.inl (xa_t 610 (by decide +kernel) rfl)⟩, xa_t 612 (by decide +kernel) rfl, xa_s 32 (by decide +kernel) rfl, F_To, 7, rfl⟩
theorem f_To_65 : xF R_To 65 2 1 := ⟨R_Pt, F_Pt, 11, rfl, in_Pt, by decide, Or.inr ⟨"CareTours", xn_t 346 (by decide +kernel) rfl⟩⟩
theorem f_To_69 : xF R_To 69 3 2 := ⟨R_Pe, F_Pe, 4, rfl, in_Pe, by decide, Or.inr ⟨"CareTours", xn_t 405 (by decide +kernel) rfl⟩⟩
theorem k_La_7 : xCV R_La 7 7 y_Ct_place b_Ct_place 4 (some .int) 3 := ⟨⟨xa_t 160 (by decide +kernel) rfl, xa_t 1 (by decide +kernel) rfl, ⟨by decide +kernel, by decide +kernel, by decide +kernel⟩, Or.inl (xa_t 157 (by decide +kernel) rfl)⟩, xa_t 158 (by decide +kernel) rfl, xa_t 159 (by decide +kernel) rfl, F_Ct, 10, rfl⟩
theorem k_La_17 : xCV R_La 17 7 y_Ct_lift b_Ct_lift 7 (some .int) 6 := ⟨⟨xa_t 284 (by decide +kernel) rfl, xa_t 1 (by decide +kernel) rfl, ⟨by decide +kernel, by decide +kernel, by decide +kernel⟩, Or.inl (xa_t 281 (by decide +kernel) rfl)⟩, xa_t 282 (by decide +kernel) rfl, xa_t 283 (by decide +kernel) rfl, F_Ct, 10, rfl⟩
theorem k_La_21 : xCV R_La 21 7 y_Ct_part b_Ct_part 8 (some .int) 6 := ⟨⟨xa_t 323 (by decide +kernel) rfl, xa_t 1 (by decide +kernel) rfl, ⟨by decide +kernel, by decide +kernel, by decide +kernel⟩, Or.inl (xa_t 320 (by decide +kernel) rfl)⟩, xa_t 321 (by decide +kernel) rfl, xa_t 322 (by decide +kernel) rfl, F_Ct, 10, rfl⟩
theorem k_La_24 : xCV R_La 24 7 y_Ct_person b_Ct_person 5 (some .int) 3 := ⟨⟨xa_t 392 (by decide +kernel) rfl, xa_t 1 (by decide +kernel) rfl, ⟨by decide +kernel, by decide +kernel, by decide +kernel⟩, Or.inl (xa_t 389 (by decide +kernel) rfl)⟩, xa_t 390 (by decide +kernel) rfl, xa_t 391 (by decide +kernel) rfl, F_Ct, 10, rfl⟩
theorem k_La_27 : xCV R_La 27 7 y_Ct_used b_Ct_used 5 (some .int) 3 := ⟨⟨xa_t 424 (by decide +kernel) rfl, xa_t 1 (by decide +kernel) rfl, ⟨by decide +kernel, by decide +kernel, by decide +kernel⟩, Or.inl (xa_t 421 (by decide +kernel) rfl)⟩, xa_t 422 (by decide +kernel) rfl, xa_t 423 (by decide +kernel) rfl, F_Ct, 10, rfl⟩
theorem k_La_30 : xCV R_La 30 7 y_Ct_stock b_Ct_stock 3 (some .int) 2 := ⟨⟨xa_t 444 (by decide +kernel) rfl, xa_t 1 (by decide +kernel) rfl, ⟨by decide +kernel, by decide +kernel, by decide +kernel⟩, Or.inl (xa_t 441 (by decide +kernel) rfl)⟩, xa_t 442 (by decide +kernel) rfl, xa_t 443 (by decide +kernel) rfl, F_Ct, 10, rfl⟩
theorem k_La_34 : xCV R_La 34 7 y_Ct_walk b_Ct_walk 3 (some .int) 2 := ⟨⟨xa_t 452 (by decide +kernel) rfl, xa_t 1 (by decide +kernel) rfl, ⟨by decide +kernel, by decide +kernel, by decide +kernel⟩, Or.inl (xa_t 449 (by decide +kernel) rfl)⟩, xa_t 450 (by decide +kernel) rfl, xa_t 451 (by decide +kernel) rfl, F_Ct, 10, rfl⟩
theorem k_La_37 : xCV R_La 37 7 y_Ct_tour b_Ct_tour 4 (some .int) 2 := ⟨⟨xa_t 483 (by decide +kernel) rfl, xa_t 1 (by decide +kernel) rfl, ⟨by decide +kernel, by decide +kernel, by decide +kernel⟩, Or.inl (xa_t 480 (by decide +kernel) rfl)⟩, xa_t 481 (by decide +kernel) rfl, xa_t 482 (by decide +kernel) rfl, F_Ct, 10, rfl⟩
theorem k_La_40 : xCV R_La 40 7 y_Ct_stop b_Ct_stop 2 (some .int) 1 := ⟨⟨xa_t 573 (by decide +kernel) rfl, xa_t 1 (by decide +kernel) rfl, ⟨by decide +kernel, by decide +kernel, by decide +kernel⟩, Or.inl (xa_t 570 (by decide +kernel) rfl)⟩, xa_t 571 (by decide +kernel) rfl, xa_t 572 (by decide +kernel) rfl, F_Ct, 10, rfl⟩
theorem k_La_44 : xCV R_La 44 7 y_Ct_told b_Ct_told 2 (some .int) 1 := ⟨⟨xa_t 581 (by decide +kernel) rfl, xa_t 1 (by decide +kernel) rfl, ⟨by decide +kernel, by decide +kernel, by decide +kernel⟩, Or.inl (xa_t 578 (by decide +kernel) rfl)⟩, xa_t 579 (by decide +kernel) rfl, xa_t 580 (by decide +kernel) rfl, F_Ct, 10, rfl⟩
theorem k_La_47 : xCV R_La 47 7 y_Ct_put b_Ct_put 5 (some .int) 1 := ⟨⟨xa_t 589 (by decide +kernel) rfl, xa_t 1 (by decide +kernel) rfl, ⟨by decide +kernel, by decide +kernel, by decide +kernel⟩, Or.inl (xa_t 586 (by decide +kernel) rfl)⟩, xa_t 587 (by decide +kernel) rfl, xa_t 588 (by decide +kernel) rfl, F_Ct, 10, rfl⟩
theorem k_La_50 : xCV R_La 50 7 y_Ct_done b_Ct_done 2 (some .int) 0 := ⟨⟨xa_t 626 (by decide +kernel) rfl, xa_t 1 (by decide +kernel) rfl, ⟨by decide +kernel, by decide +kernel, by decide +kernel⟩, Or.inl (xa_t 623 (by decide +kernel) rfl)⟩, xa_t 624 (by decide +kernel) rfl, xa_t 625 (by decide +kernel) rfl, F_Ct, 10, rfl⟩
theorem k_La_54 : xCV R_La 54 7 y_Ct_due b_Ct_due 2 (some .int) 1 := ⟨⟨xa_t 638 (by decide +kernel) rfl, xa_t 1 (by decide +kernel) rfl, ⟨by decide +kernel, by decide +kernel, by decide +kernel⟩, Or.inl (xa_t 635 (by decide +kernel) rfl)⟩, xa_t 636 (by decide +kernel) rfl, xa_t 637 (by decide +kernel) rfl, F_Ct, 10, rfl⟩
theorem k_La_57 : xCV R_La 57 7 y_Ct_late b_Ct_late 2 (some .int) 1 := ⟨⟨xa_t 645 (by decide +kernel) rfl, xa_t 1 (by decide +kernel) rfl, ⟨by decide +kernel, by decide +kernel, by decide +kernel⟩, Or.inl (xa_t 642 (by decide +kernel) rfl)⟩, xa_t 643 (by decide +kernel) rfl, xa_t 644 (by decide +kernel) rfl, F_Ct, 10, rfl⟩
theorem k_La_60 : xCV R_La 60 7 y_Ct_fine b_Ct_fine 7 (some .int) 2 := ⟨⟨xa_t 653 (by decide +kernel) rfl, xa_t 1 (by decide +kernel) rfl, ⟨by decide +kernel, by decide +kernel, by decide +kernel⟩, Or.inl (xa_t 650 (by decide +kernel) rfl)⟩, xa_t 651 (by decide +kernel) rfl, xa_t 652 (by decide +kernel) rfl, F_Ct, 10, rfl⟩
theorem k_La_63 : xCV R_La 63 7 y_Ct_wanted b_Ct_wanted 5 (some .int) 2 := ⟨⟨xa_t 662 (by decide +kernel) rfl, xa_t 1 (by decide +kernel) rfl, ⟨by decide +kernel, by decide +kernel, by decide +kernel⟩, Or.inl (xa_t 659 (by decide +kernel) rfl)⟩, xa_t 660 (by decide +kernel) rfl, xa_t 661 (by decide +kernel) rfl, F_Ct, 10, rfl⟩
theorem k_La_66 : xCS R_La 66 y_La_cell b_La_cell 2 (some .int) 2 := ⟨⟨xa_t 151 (by decide +kernel) rfl, xa_t 0 (by decide +kernel) rfl, ⟨by decide +kernel, by decide +kernel, by decide +kernel⟩, Or.inl (xa_t 149 (by decide +kernel) rfl)⟩, xa_t 150 (by decide +kernel) rfl⟩
theorem k_La_72 : xCI R_La 72 y_Ct_init b_Ct_init 2 1 := ⟨⟨xa_t 20 (by decide +kernel) rfl, xa_t 1 (by decide +kernel) rfl, ⟨by decide +kernel, by decide +kernel, by decide +kernel⟩, Or.inl (xa_t 18 (by decide +kernel) rfl)⟩, rfl, xa_t 19 (by decide +kernel) rfl⟩
theorem k_La_77 : xCI R_La 77 y_Mo_init b_Mo_init 2 1 := ⟨⟨xa_t 668 (by decide +kernel) rfl, xa_t 6 (by decide +kernel) rfl, ⟨by decide +kernel, by decide +kernel, by decide +kernel⟩, Or.inl (xa_t 666 (by decide +kernel) rfl)⟩, rfl, xa_t 667 (by decide +kernel) rfl⟩
theorem k_La_81 : xCV R_La 81 8 y_Mo_place b_Mo_place 4 (some .int) 3 := ⟨⟨xa_t 789 (by decide +kernel) rfl, xa_t 6 (by decide +kernel) rfl, ⟨by decide +kernel, by decide +kernel, by decide +kernel⟩, Or.inl (xa_t 786 (by decide +kernel) rfl)⟩, xa_t 787 (by decide +kernel) rfl, xa_t 788 (by decide +kernel) rfl, F_Mo, 37, rfl⟩
theorem k_La_82 : xCV R_La 82 8 y_Mo_thrown b_Mo_thrown 1 (some .int) 0 := ⟨⟨xa_t 785 (by decide +kernel) rfl, xa_t 6 (by decide +kernel) rfl, ⟨by decide +kernel, by decide +kernel, by decide +kernel⟩, Or.inl (xa_t 782 (by decide +kernel) rfl)⟩, xa_t 783 (by decide +kernel) rfl, xa_t 784 (by decide +kernel) rfl, F_Mo, 37, rfl⟩
theorem k_La_88 : xCV R_La 88 8 y_Mo_lift b_Mo_lift 7 (some .int) 6 := ⟨⟨xa_t 796 (by decide +kernel) rfl, xa_t 6 (by decide +kernel) rfl, ⟨by decide +kernel, by decide +kernel, by decide +kernel⟩, Or.inl (xa_t 793 (by decide +kernel) rfl)⟩, xa_t 794 (by decide +kernel) rfl, xa_t 795 (by decide +kernel) rfl, F_Mo, 37, rfl⟩
theorem k_La_91 : xCV R_La 91 8 y_Mo_part b_Mo_part 7 (some .int) 6 := ⟨⟨xa_t 800 (by decide +kernel) rfl, xa_t 6 (by decide +kernel) rfl, ⟨by decide +kernel, by decide +kernel, by decide +kernel⟩, Or.inl (xa_t 797 (by decide +kernel) rfl)⟩, xa_t 798 (by decide +kernel) rfl, xa_t 799 (by decide +kernel) rfl, F_Mo, 37, rfl⟩
theorem k_La_94 : xCV R_La 94 8 y_Mo_person b_Mo_person 4 (some .int) 3 := ⟨⟨xa_t 804 (by decide +kernel) rfl, xa_t 6 (by decide +kernel) rfl, ⟨by decide +kernel, by decide +kernel, by decide +kernel⟩, Or.inl (xa_t 801 (by decide +kernel) rfl)⟩, xa_t 802 (by decide +kernel) rfl, xa_t 803 (by decide +kernel) rfl, F_Mo, 37, rfl⟩
theorem k_La_97 : xCV R_La 97 8 y_Mo_used b_Mo_used 4 (some .int) 3 := ⟨⟨xa_t 809 (by decide +kernel) rfl, xa_t 6 (by decide +kernel) rfl, ⟨by decide +kernel, by decide +kernel, by decide +kernel⟩, Or.inl (xa_t 806 (by decide +kernel) rfl)⟩, xa_t 807 (by decide +kernel) rfl, xa_t 808 (by decide +kernel) rfl, F_Mo, 37, rfl⟩
theorem k_La_101 : xCV R_La 101 8 y_Mo_stock b_Mo_stock 3 (some .int) 2 := ⟨⟨xa_t 817 (by decide +kernel) rfl, xa_t 6 (by decide +kernel) rfl, ⟨by decide +kernel, by decide +kernel, by decide +kernel⟩, Or.inl (xa_t 814 (by decide +kernel) rfl)⟩, xa_t 815 (by decide +kernel) rfl, xa_t 816 (by decide +kernel) rfl, F_Mo, 37, rfl⟩
theorem k_La_104 : xCV R_La 104 8 y_Mo_walk b_Mo_walk 3 (some .int) 2 := ⟨⟨xa_t 821 (by decide +kernel) rfl, xa_t 6 (by decide +kernel) rfl, ⟨by decide +kernel, by decide +kernel, by decide +kernel⟩, Or.inl (xa_t 818 (by decide +kernel) rfl)⟩, xa_t 819 (by decide +kernel) rfl, xa_t 820 (by decide +kernel) rfl, F_Mo, 37, rfl⟩
theorem k_La_107 : xCV R_La 107 8 y_Mo_tour b_Mo_tour 6 (some .int) 2 := ⟨⟨xa_t 832 (by decide +kernel) rfl, xa_t 6 (by decide +kernel) rfl, ⟨by decide +kernel, by decide +kernel, by decide +kernel⟩, Or.inl (xa_t 829 (by decide +kernel) rfl)⟩, xa_t 830 (by decide +kernel) rfl, xa_t 831 (by decide +kernel) rfl, F_Mo, 37, rfl⟩
theorem k_La_111 : xCV R_La 111 8 y_Mo_stop b_Mo_stop 2 (some .int) 1 := ⟨⟨xa_t 860 (by decide +kernel) rfl, xa_t 6 (by decide +kernel) rfl, ⟨by decide +kernel, by decide +kernel, by decide +kernel⟩, Or.inl (xa_t 857 (by decide +kernel) rfl)⟩, xa_t 858 (by decide +kernel) rfl, xa_t 859 (by decide +kernel) rfl, F_Mo, 37, rfl⟩
theorem k_La_114 : xCV R_La 114 8 y_Mo_told b_Mo_told 4 (some .int) 1 := ⟨⟨xa_t 864 (by decide +kernel) rfl, xa_t 6 (by decide +kernel) rfl, ⟨by decide +kernel, by decide +kernel, by decide +kernel⟩, Or.inl (xa_t 861 (by decide +kernel) rfl)⟩, xa_t 862 (by decide +kernel) rfl, xa_t 863 (by decide +kernel) rfl, F_Mo, 37, rfl⟩
theorem k_La_117 : xCV R_La 117 8 y_Mo_put b_Mo_put 10 (some .int) 1 := ⟨⟨xa_t 868 (by decide +kernel) rfl, xa_t 6 (by decide +kernel) rfl, ⟨by decide +kernel, by decide +kernel, by decide +kernel⟩, Or.inl (xa_t 865 (by decide +kernel) rfl)⟩, xa_t 866 (by decide +kernel) rfl, xa_t 867 (by decide +kernel) rfl, F_Mo, 37, rfl⟩
theorem k_La_121 : xCV R_La 121 8 y_Mo_done b_Mo_done 2 (some .int) 0 := ⟨⟨xa_t 872 (by decide +kernel) rfl, xa_t 6 (by decide +kernel) rfl, ⟨by decide +kernel, by decide +kernel, by decide +kernel⟩, Or.inl (xa_t 869 (by decide +kernel) rfl)⟩, xa_t 870 (by decide +kernel) rfl, xa_t 871 (by decide +kernel) rfl, F_Mo, 37, rfl⟩
theorem k_La_124 : xCV R_La 124 8 y_Mo_due b_Mo_due 2 (some .int) 1 := ⟨⟨xa_t 876 (by decide +kernel) rfl, xa_t 6 (by decide +kernel) rfl, ⟨by decide +kernel, by decide +kernel, by decide +kernel⟩, Or.inl (xa_t 873 (by decide +kernel) rfl)⟩, xa_t 874 (by decide +kernel) rfl, xa_t 875 (by decide +kernel) rfl, F_Mo, 37, rfl⟩
theorem k_La_127 : xCV R_La 127 8 y_Mo_late b_Mo_late 5 (some .int) 1 := ⟨⟨xa_t 880 (by decide +kernel) rfl, xa_t 6 (by decide +kernel) rfl, ⟨by decide +kernel, by decide +kernel, by decide +kernel⟩, Or.inl (xa_t 877 (by decide +kernel) rfl)⟩, xa_t 878 (by decide +kernel) rfl, xa_t 879 (by decide +kernel) rfl, F_Mo, 37, rfl⟩
theorem k_La_130 : xCV R_La 130 8 y_Mo_fine b_Mo_fine 12 (some .int) 2 := ⟨⟨xa_t 884 (by decide +kernel) rfl, xa_t 6 (by decide +kernel) rfl, ⟨by decide +kernel, by decide +kernel, by decide +kernel⟩, Or.inl (xa_t 881 (by decide +kernel) rfl)⟩, xa_t 882 (by decide +kernel) rfl, xa_t 883 (by decide +kernel) rfl, F_Mo, 37, rfl⟩
theorem k_La_133 : xCV R_La 133 8 y_Mo_wanted b_Mo_wanted 5 (some .int) 2 := ⟨⟨xa_t 894 (by decide +kernel) rfl, xa_t 6 (by decide +kernel) rfl, ⟨by decide +kernel, by decide +kernel, by decide +kernel⟩, Or.inl (xa_t 891 (by decide +kernel) rfl)⟩, xa_t 892 (by decide +kernel) rfl, xa_t 893 (by decide +kernel) rfl, F_Mo, 37, rfl⟩
theorem f_Mo_7 : xF R_Mo 7 8 3 := ⟨R_Mo, F_Mo, 37, rfl, in_Mo, by decide, Or.inl (xa_t 673 (by decide +kernel) rfl)⟩
theorem p_Mo_7 : xPF R_Mo 7 8 3 (.array .int) := ⟨R_Mo, F_Mo, 37, t_Mo, rfl, in_Mo, tk_Mo, n_Mo, by decide, xa_t 673 (by decide +kernel) rfl, by decide +kernel, rfl, rfl⟩
theorem f_Mo_13 : xF R_Mo 13 8 4 := ⟨R_Mo, F_Mo, 37, rfl, in_Mo, by decide, Or.inl (xa_t 674 (by decide +kernel) rfl)⟩
theorem p_Mo_13 : xPF R_Mo 13 8 4 (.array .int) := ⟨R_Mo, F_Mo, 37, t_Mo, rfl, in_Mo, tk_Mo, n_Mo, by decide, xa_t 674 (by decide +kernel) rfl, by decide +kernel, rfl, rfl⟩
theorem f_Mo_16 : xF R_Mo 16 8 5 := ⟨R_Mo, F_Mo, 37, rfl, in_Mo, by decide, Or.inl (xa_t 675 (by decide +kernel) rfl)⟩
theorem p_Mo_16 : xPF R_Mo 16 8 5 (.array .int) := ⟨R_Mo, F_Mo, 37, t_Mo, rfl, in_Mo, tk_Mo, n_Mo, by decide, xa_t 675 (by decide +kernel) rfl, by decide +kernel, rfl, rfl⟩
theorem f_Mo_19 : xF R_Mo 19 8 7 := ⟨R_Mo, F_Mo, 37, rfl, in_Mo, by decide, Or.inl (xa_t 677 (by decide +kernel) rfl)⟩
theorem p_Mo_19 : xPF R_Mo 19 8 7 (.array .int) := ⟨R_Mo, F_Mo, 37, t_Mo, rfl, in_Mo, tk_Mo, n_Mo, by decide, xa_t 677 (by decide +kernel) rfl, by decide +kernel, rfl, rfl⟩
theorem f_Mo_22 : xF R_Mo 22 8 8 := ⟨R_Mo, F_Mo, 37, rfl, in_Mo, by decide, Or.inl (xa_t 678 (by decide +kernel) rfl)⟩
theorem p_Mo_22 : xPF R_Mo 22 8 8 (.array .int) := ⟨R_Mo, F_Mo, 37, t_Mo, rfl, in_Mo, tk_Mo, n_Mo, by decide, xa_t 678 (by decide +kernel) rfl, by decide +kernel, rfl, rfl⟩
theorem f_Mo_25 : xF R_Mo 25 8 9 := ⟨R_Mo, F_Mo, 37, rfl, in_Mo, by decide, Or.inl (xa_t 679 (by decide +kernel) rfl)⟩
theorem p_Mo_25 : xPF R_Mo 25 8 9 (.array .int) := ⟨R_Mo, F_Mo, 37, t_Mo, rfl, in_Mo, tk_Mo, n_Mo, by decide, xa_t 679 (by decide +kernel) rfl, by decide +kernel, rfl, rfl⟩
theorem f_Mo_28 : xF R_Mo 28 8 10 := ⟨R_Mo, F_Mo, 37, rfl, in_Mo, by decide, Or.inl (xa_t 680 (by decide +kernel) rfl)⟩
theorem p_Mo_28 : xPF R_Mo 28 8 10 (.array .int) := ⟨R_Mo, F_Mo, 37, t_Mo, rfl, in_Mo, tk_Mo, n_Mo, by decide, xa_t 680 (by decide +kernel) rfl, by decide +kernel, rfl, rfl⟩
theorem f_Mo_31 : xF R_Mo 31 8 11 := ⟨R_Mo, F_Mo, 37, rfl, in_Mo, by decide, Or.inl (xa_t 681 (by decide +kernel) rfl)⟩
theorem p_Mo_31 : xPF R_Mo 31 8 11 (.array .int) := ⟨R_Mo, F_Mo, 37, t_Mo, rfl, in_Mo, tk_Mo, n_Mo, by decide, xa_t 681 (by decide +kernel) rfl, by decide +kernel, rfl, rfl⟩
theorem f_Mo_34 : xF R_Mo 34 8 12 := ⟨R_Mo, F_Mo, 37, rfl, in_Mo, by decide, Or.inl (xa_t 682 (by decide +kernel) rfl)⟩
theorem p_Mo_34 : xPF R_Mo 34 8 12 (.array .int) := ⟨R_Mo, F_Mo, 37, t_Mo, rfl, in_Mo, tk_Mo, n_Mo, by decide, xa_t 682 (by decide +kernel) rfl, by decide +kernel, rfl, rfl⟩
theorem f_Mo_37 : xF R_Mo 37 8 14 := ⟨R_Mo, F_Mo, 37, rfl, in_Mo, by decide, Or.inl (xa_t 684 (by decide +kernel) rfl)⟩
theorem p_Mo_37 : xPF R_Mo 37 8 14 (.array .int) := ⟨R_Mo, F_Mo, 37, t_Mo, rfl, in_Mo, tk_Mo, n_Mo, by decide, xa_t 684 (by decide +kernel) rfl, by decide +kernel, rfl, rfl⟩
theorem f_Mo_40 : xF R_Mo 40 8 15 := ⟨R_Mo, F_Mo, 37, rfl, in_Mo, by decide, Or.inl (xa_t 685 (by decide +kernel) rfl)⟩
theorem p_Mo_40 : xPF R_Mo 40 8 15 (.array .int) := ⟨R_Mo, F_Mo, 37, t_Mo, rfl, in_Mo, tk_Mo, n_Mo, by decide, xa_t 685 (by decide +kernel) rfl, by decide +kernel, rfl, rfl⟩
theorem f_Mo_43 : xF R_Mo 43 8 16 := ⟨R_Mo, F_Mo, 37, rfl, in_Mo, by decide, Or.inl (xa_t 686 (by decide +kernel) rfl)⟩
theorem p_Mo_43 : xPF R_Mo 43 8 16 (.array .int) := ⟨R_Mo, F_Mo, 37, t_Mo, rfl, in_Mo, tk_Mo, n_Mo, by decide, xa_t 686 (by decide +kernel) rfl, by decide +kernel, rfl, rfl⟩
theorem f_Mo_46 : xF R_Mo 46 8 17 := ⟨R_Mo, F_Mo, 37, rfl, in_Mo, by decide, Or.inl (xa_t 687 (by decide +kernel) rfl)⟩
theorem p_Mo_46 : xPF R_Mo 46 8 17 (.array .int) := ⟨R_Mo, F_Mo, 37, t_Mo, rfl, in_Mo, tk_Mo, n_Mo, by decide, xa_t 687 (by decide +kernel) rfl, by decide +kernel, rfl, rfl⟩
theorem f_Mo_49 : xF R_Mo 49 8 18 := ⟨R_Mo, F_Mo, 37, rfl, in_Mo, by decide, Or.inl (xa_t 688 (by decide +kernel) rfl)⟩
theorem p_Mo_49 : xPF R_Mo 49 8 18 (.array .int) := ⟨R_Mo, F_Mo, 37, t_Mo, rfl, in_Mo, tk_Mo, n_Mo, by decide, xa_t 688 (by decide +kernel) rfl, by decide +kernel, rfl, rfl⟩
theorem f_Mo_52 : xF R_Mo 52 8 19 := ⟨R_Mo, F_Mo, 37, rfl, in_Mo, by decide, Or.inl (xa_t 689 (by decide +kernel) rfl)⟩
theorem p_Mo_52 : xPF R_Mo 52 8 19 (.array .int) := ⟨R_Mo, F_Mo, 37, t_Mo, rfl, in_Mo, tk_Mo, n_Mo, by decide, xa_t 689 (by decide +kernel) rfl, by decide +kernel, rfl, rfl⟩
theorem f_Mo_55 : xF R_Mo 55 8 20 := ⟨R_Mo, F_Mo, 37, rfl, in_Mo, by decide, Or.inl (xa_t 690 (by decide +kernel) rfl)⟩
theorem p_Mo_55 : xPF R_Mo 55 8 20 (.array .int) := ⟨R_Mo, F_Mo, 37, t_Mo, rfl, in_Mo, tk_Mo, n_Mo, by decide, xa_t 690 (by decide +kernel) rfl, by decide +kernel, rfl, rfl⟩
theorem f_Mo_58 : xF R_Mo 58 8 21 := ⟨R_Mo, F_Mo, 37, rfl, in_Mo, by decide, Or.inl (xa_t 691 (by decide +kernel) rfl)⟩
theorem p_Mo_58 : xPF R_Mo 58 8 21 (.array .int) := ⟨R_Mo, F_Mo, 37, t_Mo, rfl, in_Mo, tk_Mo, n_Mo, by decide, xa_t 691 (by decide +kernel) rfl, by decide +kernel, rfl, rfl⟩
theorem f_Mo_61 : xF R_Mo 61 8 22 := ⟨R_Mo, F_Mo, 37, rfl, in_Mo, by decide, Or.inl (xa_t 692 (by decide +kernel) rfl)⟩
theorem p_Mo_61 : xPF R_Mo 61 8 22 (.array .int) := ⟨R_Mo, F_Mo, 37, t_Mo, rfl, in_Mo, tk_Mo, n_Mo, by decide, xa_t 692 (by decide +kernel) rfl, by decide +kernel, rfl, rfl⟩
theorem f_Mo_64 : xF R_Mo 64 8 23 := ⟨R_Mo, F_Mo, 37, rfl, in_Mo, by decide, Or.inl (xa_t 693 (by decide +kernel) rfl)⟩
theorem p_Mo_64 : xPF R_Mo 64 8 23 (.array .int) := ⟨R_Mo, F_Mo, 37, t_Mo, rfl, in_Mo, tk_Mo, n_Mo, by decide, xa_t 693 (by decide +kernel) rfl, by decide +kernel, rfl, rfl⟩
theorem f_Mo_67 : xF R_Mo 67 8 25 := ⟨R_Mo, F_Mo, 37, rfl, in_Mo, by decide, Or.inl (xa_t 695 (by decide +kernel) rfl)⟩
theorem p_Mo_67 : xPF R_Mo 67 8 25 (.array .int) := ⟨R_Mo, F_Mo, 37, t_Mo, rfl, in_Mo, tk_Mo, n_Mo, by decide, xa_t 695 (by decide +kernel) rfl, by decide +kernel, rfl, rfl⟩
theorem f_Mo_70 : xF R_Mo 70 8 26 := ⟨R_Mo, F_Mo, 37, rfl, in_Mo, by decide, Or.inl (xa_t 696 (by decide +kernel) rfl)⟩
theorem p_Mo_70 : xPF R_Mo 70 8 26 (.array .int) := ⟨R_Mo, F_Mo, 37, t_Mo, rfl, in_Mo, tk_Mo, n_Mo, by decide, xa_t 696 (by decide +kernel) rfl, by decide +kernel, rfl, rfl⟩
theorem f_Mo_73 : xF R_Mo 73 8 27 := ⟨R_Mo, F_Mo, 37, rfl, in_Mo, by decide, Or.inl (xa_t 697 (by decide +kernel) rfl)⟩
theorem p_Mo_73 : xPF R_Mo 73 8 27 (.array .int) := ⟨R_Mo, F_Mo, 37, t_Mo, rfl, in_Mo, tk_Mo, n_Mo, by decide, xa_t 697 (by decide +kernel) rfl, by decide +kernel, rfl, rfl⟩
theorem f_Mo_76 : xF R_Mo 76 8 28 := ⟨R_Mo, F_Mo, 37, rfl, in_Mo, by decide, Or.inl (xa_t 698 (by decide +kernel) rfl)⟩
theorem p_Mo_76 : xPF R_Mo 76 8 28 (.array .int) := ⟨R_Mo, F_Mo, 37, t_Mo, rfl, in_Mo, tk_Mo, n_Mo, by decide, xa_t 698 (by decide +kernel) rfl, by decide +kernel, rfl, rfl⟩
theorem f_Mo_79 : xF R_Mo 79 8 29 := ⟨R_Mo, F_Mo, 37, rfl, in_Mo, by decide, Or.inl (xa_t 699 (by decide +kernel) rfl)⟩
theorem p_Mo_79 : xP R_Mo 79 8 29 .int := ⟨R_Mo, F_Mo, 37, t_Mo, rfl, in_Mo, tk_Mo, n_Mo, by decide, Or.inl (xa_t 699 (by decide +kernel) rfl), by decide +kernel, rfl⟩
theorem f_Mo_83 : xF R_Mo 83 8 33 := ⟨R_Mo, F_Mo, 37, rfl, in_Mo, by decide, Or.inl (xa_t 703 (by decide +kernel) rfl)⟩
theorem p_Mo_83 : xPF R_Mo 83 8 33 (.array .int) := ⟨R_Mo, F_Mo, 37, t_Mo, rfl, in_Mo, tk_Mo, n_Mo, by decide, xa_t 703 (by decide +kernel) rfl, by decide +kernel, rfl, rfl⟩
theorem f_Mo_86 : xF R_Mo 86 8 34 := ⟨R_Mo, F_Mo, 37, rfl, in_Mo, by decide, Or.inl (xa_t 704 (by decide +kernel) rfl)⟩
theorem p_Mo_86 : xPF R_Mo 86 8 34 (.array .int) := ⟨R_Mo, F_Mo, 37, t_Mo, rfl, in_Mo, tk_Mo, n_Mo, by decide, xa_t 704 (by decide +kernel) rfl, by decide +kernel, rfl, rfl⟩
theorem f_Mo_89 : xF R_Mo 89 8 35 := ⟨R_Mo, F_Mo, 37, rfl, in_Mo, by decide, Or.inl (xa_t 705 (by decide +kernel) rfl)⟩
theorem p_Mo_89 : xPF R_Mo 89 8 35 (.array .int) := ⟨R_Mo, F_Mo, 37, t_Mo, rfl, in_Mo, tk_Mo, n_Mo, by decide, xa_t 705 (by decide +kernel) rfl, by decide +kernel, rfl, rfl⟩
theorem f_Mo_92 : xF R_Mo 92 8 36 := ⟨R_Mo, F_Mo, 37, rfl, in_Mo, by decide, Or.inl (xa_t 706 (by decide +kernel) rfl)⟩
theorem p_Mo_92 : xPF R_Mo 92 8 36 (.array .int) := ⟨R_Mo, F_Mo, 37, t_Mo, rfl, in_Mo, tk_Mo, n_Mo, by decide, xa_t 706 (by decide +kernel) rfl, by decide +kernel, rfl, rfl⟩
theorem f_Mo_95 : xF R_Mo 95 8 1 := ⟨R_Mo, F_Mo, 37, rfl, in_Mo, by decide, Or.inl (xa_t 671 (by decide +kernel) rfl)⟩
theorem p_Mo_95 : xPF R_Mo 95 8 1 .int := ⟨R_Mo, F_Mo, 37, t_Mo, rfl, in_Mo, tk_Mo, n_Mo, by decide, xa_t 671 (by decide +kernel) rfl, by decide +kernel, rfl, rfl⟩
theorem f_Mo_98 : xF R_Mo 98 8 0 := ⟨R_Mo, F_Mo, 37, rfl, in_Mo, by decide, Or.inl (xa_t 670 (by decide +kernel) rfl)⟩
theorem p_Mo_98 : xP R_Mo 98 8 0 .int := ⟨R_Mo, F_Mo, 37, t_Mo, rfl, in_Mo, tk_Mo, n_Mo, by decide, Or.inl (xa_t 670 (by decide +kernel) rfl), by decide +kernel, rfl⟩
theorem k_Mo_101 : xCS R_Mo 101 y_Mo_in b_Mo_in 3 (some .boolean) 3 := ⟨⟨xa_t 792 (by decide +kernel) rfl, xa_t 6 (by decide +kernel) rfl, ⟨by decide +kernel, by decide +kernel, by decide +kernel⟩, Or.inl (xa_t 790 (by decide +kernel) rfl)⟩, xa_t 791 (by decide +kernel) rfl⟩
theorem f_Mo_105 : xF R_Mo 105 8 2 := ⟨R_Mo, F_Mo, 37, rfl, in_Mo, by decide, Or.inl (xa_t 672 (by decide +kernel) rfl)⟩
theorem p_Mo_105 : xP R_Mo 105 8 2 .int := ⟨R_Mo, F_Mo, 37, t_Mo, rfl, in_Mo, tk_Mo, n_Mo, by decide, Or.inl (xa_t 672 (by decide +kernel) rfl), by decide +kernel, rfl⟩
theorem f_Mo_108 : xF R_Mo 108 8 6 := ⟨R_Mo, F_Mo, 37, rfl, in_Mo, by decide, Or.inl (xa_t 676 (by decide +kernel) rfl)⟩
theorem p_Mo_108 : xP R_Mo 108 8 6 .int := ⟨R_Mo, F_Mo, 37, t_Mo, rfl, in_Mo, tk_Mo, n_Mo, by decide, Or.inl (xa_t 676 (by decide +kernel) rfl), by decide +kernel, rfl⟩
theorem f_Mo_111 : xF R_Mo 111 8 13 := ⟨R_Mo, F_Mo, 37, rfl, in_Mo, by decide, Or.inl (xa_t 683 (by decide +kernel) rfl)⟩
theorem p_Mo_111 : xP R_Mo 111 8 13 .int := ⟨R_Mo, F_Mo, 37, t_Mo, rfl, in_Mo, tk_Mo, n_Mo, by decide, Or.inl (xa_t 683 (by decide +kernel) rfl), by decide +kernel, rfl⟩
theorem f_Mo_115 : xF R_Mo 115 8 24 := ⟨R_Mo, F_Mo, 37, rfl, in_Mo, by decide, Or.inl (xa_t 694 (by decide +kernel) rfl)⟩
theorem p_Mo_115 : xP R_Mo 115 8 24 .int := ⟨R_Mo, F_Mo, 37, t_Mo, rfl, in_Mo, tk_Mo, n_Mo, by decide, Or.inl (xa_t 694 (by decide +kernel) rfl), by decide +kernel, rfl⟩
theorem k_Mo_118 : xCV R_Mo 118 8 y_Mo_isPart b_Mo_isPart 2 (some .boolean) 1 := ⟨⟨xa_t 813 (by decide +kernel) rfl, xa_t 6 (by decide +kernel) rfl, ⟨by decide +kernel, by decide +kernel, by decide +kernel⟩, Or.inl (xa_t 810 (by decide +kernel) rfl)⟩, xa_t 812 (by decide +kernel) rfl, xa_s 35 (by decide +kernel) rfl, F_Mo, 37, rfl⟩
theorem k_Mo_122 : xCS R_Mo 122 y_Mo_apart b_Mo_apart 2 (some .int) 2 := ⟨⟨xa_t 828 (by decide +kernel) rfl, xa_t 6 (by decide +kernel) rfl, ⟨by decide +kernel, by decide +kernel, by decide +kernel⟩, Or.inl (xa_t 826 (by decide +kernel) rfl)⟩, xa_t 827 (by decide +kernel) rfl⟩
theorem k_Mo_126 : xCV R_Mo 126 8 y_Mo_way b_Mo_way 8 (some .int) 2 := ⟨⟨xa_t 825 (by decide +kernel) rfl, xa_t 6 (by decide +kernel) rfl, ⟨by decide +kernel, by decide +kernel, by decide +kernel⟩, Or.inl (xa_t 822 (by decide +kernel) rfl)⟩, xa_t 824 (by decide +kernel) rfl, xa_s 36 (by decide +kernel) rfl, F_Mo, 37, rfl⟩
theorem k_Mo_129 : xCV R_Mo 129 8 y_Mo_dueDay b_Mo_dueDay 2 (some .int) 1 := ⟨⟨xa_t 836 (by decide +kernel) rfl, xa_t 6 (by decide +kernel) rfl, ⟨by decide +kernel, by decide +kernel, by decide +kernel⟩, Or.inl (xa_t 833 (by decide +kernel) rfl)⟩, xa_t 835 (by decide +kernel) rfl, xa_s 37 (by decide +kernel) rfl, F_Mo, 37, rfl⟩
theorem k_Mo_133 : xCV R_Mo 133 8 y_Mo_swap b_Mo_swap 4 none 2 := ⟨⟨xa_t 856 (by decide +kernel) rfl, xa_t 6 (by decide +kernel) rfl, ⟨by decide +kernel, by decide +kernel, by decide +kernel⟩, Or.inl (xa_t 853 (by decide +kernel) rfl)⟩, xa_t 855 (by decide +kernel) rfl, xa_s 42 (by decide +kernel) rfl, F_Mo, 37, rfl⟩
theorem k_Mo_137 : xCV R_Mo 137 8 y_Mo_isBefore b_Mo_isBefore 3 (some .boolean) 2 := ⟨⟨xa_t 840 (by decide +kernel) rfl, xa_t 6 (by decide +kernel) rfl, ⟨by decide +kernel, by decide +kernel, by decide +kernel⟩, Or.inl (xa_t 837 (by decide +kernel) rfl)⟩, xa_t 839 (by decide +kernel) rfl, xa_s 38 (by decide +kernel) rfl, F_Mo, 37, rfl⟩
theorem k_Mo_141 : xCV R_Mo 141 8 y_Mo_isTour b_Mo_isTour 7 (some .boolean) 2 := ⟨⟨xa_t 844 (by decide +kernel) rfl, xa_t 6 (by decide +kernel) rfl, ⟨by decide +kernel, by decide +kernel, by decide +kernel⟩, Or.inl (xa_t 841 (by decide +kernel) rfl)⟩, xa_t 843 (by decide +kernel) rfl, xa_s 39 (by decide +kernel) rfl, F_Mo, 37, rfl⟩
theorem f_Mo_144 : xF R_Mo 144 8 30 := ⟨R_Mo, F_Mo, 37, rfl, in_Mo, by decide, Or.inl (xa_t 700 (by decide +kernel) rfl)⟩
theorem p_Mo_144 : xP R_Mo 144 8 30 .int := ⟨R_Mo, F_Mo, 37, t_Mo, rfl, in_Mo, tk_Mo, n_Mo, by decide, Or.inl (xa_t 700 (by decide +kernel) rfl), by decide +kernel, rfl⟩
theorem f_Mo_147 : xF R_Mo 147 8 31 := ⟨R_Mo, F_Mo, 37, rfl, in_Mo, by decide, Or.inl (xa_t 701 (by decide +kernel) rfl)⟩
theorem p_Mo_147 : xP R_Mo 147 8 31 .int := ⟨R_Mo, F_Mo, 37, t_Mo, rfl, in_Mo, tk_Mo, n_Mo, by decide, Or.inl (xa_t 701 (by decide +kernel) rfl), by decide +kernel, rfl⟩
theorem f_Mo_150 : xF R_Mo 150 8 32 := ⟨R_Mo, F_Mo, 37, rfl, in_Mo, by decide, Or.inl (xa_t 702 (by decide +kernel) rfl)⟩
theorem p_Mo_150 : xP R_Mo 150 8 32 .int := ⟨R_Mo, F_Mo, 37, t_Mo, rfl, in_Mo, tk_Mo, n_Mo, by decide, Or.inl (xa_t 702 (by decide +kernel) rfl), by decide +kernel, rfl⟩
theorem k_Mo_153 : xCV R_Mo 153 8 y_Mo_walksOf b_Mo_walksOf 9 (some .int) 3 := ⟨⟨xa_t 848 (by decide +kernel) rfl, xa_t 6 (by decide +kernel) rfl, ⟨by decide +kernel, by decide +kernel, by decide +kernel⟩, Or.inl (xa_t 845 (by decide +kernel) rfl)⟩, xa_t 847 (by decide +kernel) rfl, xa_s 40 (by decide +kernel) rfl, F_Mo, 37, rfl⟩
theorem k_Mo_157 : xCV R_Mo 157 8 y_Mo_next b_Mo_next 6 (some .boolean) 1 := ⟨⟨xa_t 852 (by decide +kernel) rfl, xa_t 6 (by decide +kernel) rfl, ⟨by decide +kernel, by decide +kernel, by decide +kernel⟩, Or.inl (xa_t 849 (by decide +kernel) rfl)⟩, xa_t 851 (by decide +kernel) rfl, xa_s 41 (by decide +kernel) rfl, F_Mo, 37, rfl⟩
theorem k_Ct_56 : Cond.methodLink R_Ct 56 Lib.Math.min.name ∈ xAll ∧ Cond.static Lib.Math.min.name ∈ xAll ∧ Cond.initialized "java/lang/Math" ∈ xAll ∧ Cond.code Lib.Math.min.name Lib.Math.min.code 2 (some .int) ∈ xAll := ⟨xa_t 112 (by decide +kernel) rfl, xa_t 113 (by decide +kernel) rfl, xa_t 5 (by decide +kernel) rfl, xa_t 114 (by decide +kernel) rfl⟩
theorem k_Ct_62 : Cond.methodLink R_Ct 62 Lib.Math.max.name ∈ xAll ∧ Cond.static Lib.Math.max.name ∈ xAll ∧ Cond.initialized "java/lang/Math" ∈ xAll ∧ Cond.code Lib.Math.max.name Lib.Math.max.code 2 (some .int) ∈ xAll := ⟨xa_t 115 (by decide +kernel) rfl, xa_t 116 (by decide +kernel) rfl, xa_t 5 (by decide +kernel) rfl, xa_t 117 (by decide +kernel) rfl⟩
theorem k_Pl_19 : Cond.methodLink R_Pl 19 Lib.Math.abs.name ∈ xAll ∧ Cond.static Lib.Math.abs.name ∈ xAll ∧ Cond.initialized "java/lang/Math" ∈ xAll ∧ Cond.code Lib.Math.abs.name Lib.Math.abs.code 1 (some .int) ∈ xAll := ⟨xa_t 462 (by decide +kernel) rfl, xa_t 463 (by decide +kernel) rfl, xa_t 5 (by decide +kernel) rfl, xa_t 464 (by decide +kernel) rfl⟩
theorem k_Li_39 : Cond.methodLink R_Li 39 Lib.Math.abs.name ∈ xAll ∧ Cond.static Lib.Math.abs.name ∈ xAll ∧ Cond.initialized "java/lang/Math" ∈ xAll ∧ Cond.code Lib.Math.abs.name Lib.Math.abs.code 1 (some .int) ∈ xAll := ⟨xa_t 474 (by decide +kernel) rfl, xa_t 463 (by decide +kernel) rfl, xa_t 5 (by decide +kernel) rfl, xa_t 464 (by decide +kernel) rfl⟩
theorem k_Ho_55 : Cond.methodLink R_Ho 55 Lib.Math.min.name ∈ xAll ∧ Cond.static Lib.Math.min.name ∈ xAll ∧ Cond.initialized "java/lang/Math" ∈ xAll ∧ Cond.code Lib.Math.min.name Lib.Math.min.code 2 (some .int) ∈ xAll := ⟨xa_t 476 (by decide +kernel) rfl, xa_t 113 (by decide +kernel) rfl, xa_t 5 (by decide +kernel) rfl, xa_t 114 (by decide +kernel) rfl⟩
theorem k_Pt_46 : Cond.methodLink R_Pt 46 Lib.Math.min.name ∈ xAll ∧ Cond.static Lib.Math.min.name ∈ xAll ∧ Cond.initialized "java/lang/Math" ∈ xAll ∧ Cond.code Lib.Math.min.name Lib.Math.min.code 2 (some .int) ∈ xAll := ⟨xa_t 501 (by decide +kernel) rfl, xa_t 113 (by decide +kernel) rfl, xa_t 5 (by decide +kernel) rfl, xa_t 114 (by decide +kernel) rfl⟩
theorem k_Pn_55 : Cond.methodLink R_Pn 55 Lib.Math.min.name ∈ xAll ∧ Cond.static Lib.Math.min.name ∈ xAll ∧ Cond.initialized "java/lang/Math" ∈ xAll ∧ Cond.code Lib.Math.min.name Lib.Math.min.code 2 (some .int) ∈ xAll := ⟨xa_t 538 (by decide +kernel) rfl, xa_t 113 (by decide +kernel) rfl, xa_t 5 (by decide +kernel) rfl, xa_t 114 (by decide +kernel) rfl⟩
theorem q_Ct_141 : Cond.constant R_Ct 141 (iI 100000) ∈ xAll := xa_t 393 (by decide +kernel) rfl
theorem q_Pn_42 : Cond.constant R_Pn 42 (iI 1000000) ∈ xAll := xa_t 522 (by decide +kernel) rfl
theorem q_Ct_289 : Cond.constant R_Ct 289 (iI 1000000) ∈ xAll := xa_t 655 (by decide +kernel) rfl
theorem q_Mo_114 : Cond.constant R_Mo 114 (iI 100000) ∈ xAll := xa_t 805 (by decide +kernel) rfl
theorem q_Mo_170 : Cond.constant R_Mo 170 (iI 1000000) ∈ xAll := xa_t 890 (by decide +kernel) rfl
end
section
/-! cells that differ lie apart -/
theorem ne_oo {M : Wm} {a b ci cj : Nat} {fs gs : List Value} (h1 : M a = some (.inr (ci, fs))) (h2 : M b = some (.inr (cj, gs))) (h : ci ≠ cj) : a ≠ b := by
  intro e
  rw [e, h2] at h1
  injection h1 with h1
  injection h1 with h1
  injection h1 with h1
  exact h h1.symm
theorem ne_oa {M : Wm} {a b ci : Nat} {fs : List Value} {x : ClassId × vp_A} (h1 : M a = some (.inr (ci, fs))) (h2 : M b = some (.inl x)) : a ≠ b := by
  intro e
  rw [e, h2] at h1
  cases h1
theorem ne_ia {M : Wm} {a b : Nat} {c1 c2 : ClassId} {n k : Nat} {f : Nat → Int32} {g : Nat → Option Nat} (h1 : M a = some (.inl (c1, n, .inl f))) (h2 : M b = some (.inl (c2, k, .inr (.inr (.inr (.inr g)))))) : a ≠ b := by
  intro e
  rw [e, h2] at h1
  cases h1
theorem om_test1 (a b : Int) (h : 0 ≤ a ∧ a ≤ 100) (h2 : 0 ≤ b ∧ b ≤ 100) : (if a ≤ b then b - a else a - b) ≤ 100 := by omega
end
section
/-! WHAT IS MADE, AND WHAT IS THROWN -/
/-- 'new' of own at the pool's index: an object of the world's class ci, its fields fs at first -/
def xN (own : String) (index ci : Nat) (fs : List Value) (n : Nat) : Prop := ∃ (CN : String) (T : u_T) (ty0 : Nat → FieldType), xCl[ci]? = some (CN, T, n) ∧ (∀ w ∈ u_ws CN T n, w ∈ xAll) ∧ (∀ k, k < n → parseFieldDescriptor (T k).2.2.1 = some (ty0 k)) ∧ Cond.classLink own index CN ∈ xAll ∧ Cond.instantiable CN n ∈ xAll ∧ Cond.initialized CN ∈ xAll ∧ ∀ j, j < n → defaultValue (ty0 j) = vp_V fs j
section XV
variable {p : Program} {l : Launch} {e : Env} {R : Room} {s : State} {m : MethodId} {args : Array Value} {below : List Frame} {meth : Method} {c : Code} {cells slots : Nat} {Q : State → Prop} {P : Heap → List Loc → Prop}
variable {cc : ByteArray} {pc nL : Nat} {own : String} {D : va_G} {A : Nat → Prop} {tys : xK} {lv lv' : List (Nat × Value)} {st : List Value} {M : Wm}
theorem g_objInit (C : cX p m meth c cc nL s args own D tys A) {index a : Nat} (hx : Cond.methodLink own index Lib.objectInit ∈ xAll ∧ Cond.instanceMethod Lib.objectInit ∈ xAll ∧ Cond.code Lib.objectInit ⟨#[0xb1]⟩ 1 none ∈ xAll) (hR : 1 ≤ R.frames ∧ (st.map fun v => v.category).sum + 12 ≤ R.locals) (hd : decode cc pc = .ok (.invokespecial index, 3)) (k : gW p l e R s m args below meth c D A nL cells slots Q P (pc + 3) lv st M) : gW p l e R s m args below meth c D A nL cells slots Q P pc lv (.ref a :: st) M := by
  have hts := C.1.2.2.2.2
  intro H locs ls hP hW hS hl
  exact W.objInit C.1.1 C.1.2.1 C.1.2.2.2.1 (hts _ hx.1) (hts _ hx.2.1) (hts _ hx.2.2) rfl (by rw [C.1.2.2.1]; exact hl.1) rfl hd hR.1 (by show 2 * 0 + _ + 12 ≤ _; have := hR.2; omega) (k H locs ls hP hW hS hl)
theorem g_new (C : cX p m meth c cc nL s args own D tys A) {index ci n : Nat} {fs : List Value} (hx : xN own index ci fs n) (hR : cells + 1 ≤ R.cells ∧ slots + n ≤ R.slots) (hd : decode cc pc = .ok (.new index, 3)) (k : ∀ q : Nat, M q = none → gW p l e R s m args below meth c D A nL (cells + 1) (slots + n) Q wX (pc + 3) lv (.ref q :: st) (va_up M q (some (.inr (ci, fs))))) : gW p l e R s m args below meth c D A nL cells slots Q P pc lv st M := by
  have hts := C.1.2.2.2.2
  obtain ⟨CN, T, ty0, hc, hin, hty, h1, h2, h3, hfs⟩ := hx
  intro H locs ls hP hW hS hl
  refine va_new C.1.1 C.1.2.1 hts hin ty0 hty C.1.2.2.2.1 (hts _ h1) (hts _ h2) (hts _ h3) C.2.1 (wd_ls_P hW H.size) (wd_ls_D hW H.size) hS C.2.2.2.1 hc hfs hR.1 hR.2 hd (fun q H1 g1 g2 g3 => ?_)
  obtain ⟨h4, h5⟩ := wd_push hW g1 g2
  exact k q h5 H1 locs ls trivial h4 g3 hl
theorem g_newI (C : cX p m meth c cc nL s args own D tys A) (t0 : Nat) (ht : tys[t0]? = some (tc tys t0, .int)) {z : Int} (n : Nat) (hx : Cond.arrayClass .int ∈ xAll) (hz : z = (n : Int) ∧ n ≤ 100000) (hR : cells + 1 ≤ R.cells ∧ slots + n ≤ R.slots) (hd : decode cc pc = .ok (.newarray .int, 2)) (k : ∀ q : Nat, M q = none → gW p l e R s m args below meth c D A nL (cells + 1) (slots + n) Q wX (pc + 2) lv (.ref q :: st) (va_up M q (some (.inl (tc tys t0, n, .inl (fun _ => iI 0)))))) : gW p l e R s m args below meth c D A nL cells slots Q P pc lv (.int (iI z) :: st) M := by
  have hts := C.1.2.2.2.2
  obtain ⟨rfl, hn⟩ := hz
  intro H locs ls hP hW hS hl
  have hb : -2147483648 ≤ (n : Int) ∧ (n : Int) < 2147483648 := by omega
  refine va_newa (ty := .int) (N' := n) (a0 := (n, .inl (fun _ => iI 0))) C.1.1 C.1.2.1 (atype := .int) (hts _ hx) rfl C.2.1 (wd_ls_P hW H.size) (wd_ls_D hW H.size) hS C.2.2.2.1 (fun _ => rfl) (by rw [Int32.lt_iff_toInt_lt, iI_toInt hb, Int32.toInt_zero]; omega) (by rw [iI_clamp hb]; omega) (by show n * 4 ≤ _; omega) hR.1 hR.2 hd (fun q cA H1 gK g1 g2 g3 => ?_)
  have e1 : s.vm.findClass ("[" ++ (FieldType.int).toString) = some cA := (gK.2 tys.length (cA, .int) (by simp)).2
  have e2 : s.vm.findClass ("[" ++ (FieldType.int).toString) = some (tc tys t0) := (C.2.1.2 t0 _ ht).2
  cases Option.some.inj (e1.symm.trans e2)
  obtain ⟨h4, h5⟩ := wd_push hW g1 g2
  exact k q h5 H1 locs ls trivial h4 g3 hl
theorem g_newL (C : cX p m meth c cc nL s args own D tys A) (t0 : Nat) (ht : tys[t0]? = some (tc tys t0, .long)) {z : Int} (n : Nat) (hx : Cond.arrayClass .long ∈ xAll) (hz : z = (n : Int) ∧ n ≤ 100000) (hR : cells + 1 ≤ R.cells ∧ slots + n ≤ R.slots) (hd : decode cc pc = .ok (.newarray .long, 2)) (k : ∀ q : Nat, M q = none → gW p l e R s m args below meth c D A nL (cells + 1) (slots + n) Q wX (pc + 2) lv (.ref q :: st) (va_up M q (some (.inl (tc tys t0, n, .inr (.inl (fun _ => 0))))))) : gW p l e R s m args below meth c D A nL cells slots Q P pc lv (.int (iI z) :: st) M := by
  have hts := C.1.2.2.2.2
  obtain ⟨rfl, hn⟩ := hz
  intro H locs ls hP hW hS hl
  have hb : -2147483648 ≤ (n : Int) ∧ (n : Int) < 2147483648 := by omega
  refine va_newa (ty := .long) (N' := n) (a0 := (n, .inr (.inl (fun _ => 0)))) C.1.1 C.1.2.1 (atype := .long) (hts _ hx) rfl C.2.1 (wd_ls_P hW H.size) (wd_ls_D hW H.size) hS C.2.2.2.1 (fun _ => rfl) (by rw [Int32.lt_iff_toInt_lt, iI_toInt hb, Int32.toInt_zero]; omega) (by rw [iI_clamp hb]; omega) (by show n * 8 ≤ _; omega) hR.1 hR.2 hd (fun q cA H1 gK g1 g2 g3 => ?_)
  have e1 : s.vm.findClass ("[" ++ (FieldType.long).toString) = some cA := (gK.2 tys.length (cA, .long) (by simp)).2
  have e2 : s.vm.findClass ("[" ++ (FieldType.long).toString) = some (tc tys t0) := (C.2.1.2 t0 _ ht).2
  cases Option.some.inj (e1.symm.trans e2)
  obtain ⟨h4, h5⟩ := wd_push hW g1 g2
  exact k q h5 H1 locs ls trivial h4 g3 hl
theorem g_newR (C : cX p m meth c cc nL s args own D tys A) (t0 : Nat) {CN : String} (ht : tys[t0]? = some (tc tys t0, .object CN)) {z : Int} {index : Nat} (n : Nat) (hx : Cond.classLink own index CN ∈ xAll ∧ Cond.arrayOver (.object CN) ∈ xNw) (hz : z = (n : Int) ∧ n ≤ 100000) (hR : cells + 1 ≤ R.cells ∧ slots + n ≤ R.slots) (hd : decode cc pc = .ok (.anewarray index, 3)) (k : ∀ q : Nat, M q = none → gW p l e R s m args below meth c D A nL (cells + 1) (slots + n) Q wX (pc + 3) lv (.ref q :: st) (va_up M q (some (.inl (tc tys t0, n, .inr (.inr (.inr (.inr (fun _ => none))))))))) : gW p l e R s m args below meth c D A nL cells slots Q P pc lv (.int (iI z) :: st) M := by
  have hts := C.1.2.2.2.2
  obtain ⟨rfl, hn⟩ := hz
  intro H locs ls hP hW hS hl
  have hb : -2147483648 ≤ (n : Int) ∧ (n : Int) < 2147483648 := by omega
  refine va_newq (N' := n) C.1.1 C.1.2.1 C.1.2.2.2.1 (hts _ hx.1) (C.2.2.1 _ hx.2) C.2.1 (wd_ls_P hW H.size) (wd_ls_D hW H.size) hS C.2.2.2.1 (by rw [Int32.lt_iff_toInt_lt, iI_toInt hb, Int32.toInt_zero]; omega) (by rw [iI_clamp hb]; omega) (by omega) hR.1 hR.2 hd (fun q cA H1 gK g1 g2 g3 => ?_)
  obtain ⟨-, -, -, -, -, e1⟩ := (gK.2 tys.length (cA, .object CN) (by simp)).2
  obtain ⟨-, -, -, -, -, e2⟩ := (C.2.1.2 t0 _ ht).2
  cases Option.some.inj (e1.symm.trans e2)
  obtain ⟨h4, h5⟩ := wd_push hW g1 g2
  exact k q h5 H1 locs ls trivial h4 g3 hl
/-- the words of a throw -/
theorem hat_of (C : cX p m meth c cc nL s args own D tys A) {L : List Cond} (h1 : ∀ w ∈ L.filter goodWord, w ∈ xAll) (h2 : ∀ w ∈ L.filter (fun w => !goodWord w), w ∈ xNw ∧ w.onTables = true) : ∀ w ∈ L, w.before args s = true :=
  vx_hat (B := L.filter (fun w => !goodWord w)) (fun w h => C.1.2.2.2.2 w (h1 w h)) (fun w h => h) (fun w h => va_Nw.use (h2 w h).2 (C.2.2.1 w (h2 w h).1))
end XV
abbrev xNm : List String := ["java/lang/RuntimeException", "java/lang/Exception"]
abbrev xIA : String := "java/lang/IllegalArgumentException"
abbrev xIS : String := "java/lang/IllegalStateException"
/-- what holds where E was thrown: the world is as it was -/
abbrev qX (D : va_G) (A : Nat → Prop) (M : Wm) (px : String → Prop) : String → State → State → Prop := vx_X (fun _ : Unit => True) (fun E _ t => px E ∧ wd_ok D xCl A M t.heap) A
/-- the contract of a method that may throw -/
abbrev xT (l : Launch) (y : MethodName) (cc : ByteArray) (maxL : Nat) (ret : Option FieldType) (rm : Room) (D : va_G) (tys : xK) (A : Nat → Prop) (av : List Value) (M : Wm) (Qc : Array Value → State → Outcome → State → Prop) (px : String → Prop) (mc ms : Nat) : Prop := vx_Met l y (wsY y cc maxL ret) rm (va_Pc av (cT D tys A M)) Qc (qX D A M px) mc ms A
theorem xet_of {own : String} {l : Launch} {y : MethodName} {cc : ByteArray} {maxL : Nat} {ret : Option FieldType} {rm : Room} {D : va_G} {tys : xK} {A : Nat → Prop} {av : List Value} {lv : List (Nat × Value)} {M : Wm} {Qc : Array Value → State → Outcome → State → Prop} {px : String → Prop} {mc ms : Nat}
    (ho : y.cls = own) (hy : plainName own = true) (hlen : (lg_sl av).length ≤ maxL) (hlv : lv_args 0 av = lv)
    (body : ∀ (p : Program) (e : Env) (s : State) (m : MethodId) (below : List Frame) (meth : Method) (c : Code), cX p m meth c cc maxL s av.toArray own D tys A → meth.sig.returnType = ret → (∀ x ∈ c.exceptionTable.toList, False) → gW p l e rm s m av.toArray below meth c D A maxL 0 0 (vx_MQ below Qc (qX D A M px) av.toArray s mc ms A) (wN s) 0 lv [] M) : xT l y cc maxL ret rm D tys A av M Qc px mc ms := by
  subst hlv
  subst ho
  refine vx_ofW (cc := cc) (maxL := maxL) (ret := ret) hy rfl ?_
  intro p e s m args below meth c s₁ B hml hex hv
  obtain ⟨rfl, hW, hK, hN, hA, hZ⟩ := hv
  have hts := atoms_spec (ws := wsY y cc maxL ret) B.pre
  have hown : s.vm.findClass y.cls = some m.cls := findClass_of_methodNamed B.named
  have hl := lv_entry av (n := maxL) hlen
  rw [lg_entry_eq]
  exact body p e s m below meth c ⟨⟨B.exec, B.bytes, hml, hown, fun w h => hts w (List.mem_cons_of_mem _ h)⟩, hK, hN, hA, B.notSynchronized, hZ⟩ B.returns hex s.heap [] _ ⟨rfl, rfl⟩ hW va_S.rf hl
section XY
variable {p : Program} {l : Launch} {e : Env} {R : Room} {s : State} {m : MethodId} {args : Array Value} {below : List Frame} {meth : Method} {c : Code} {cells slots : Nat} {P : Heap → List Loc → Prop}
variable {cc : ByteArray} {pc nL : Nat} {own : String} {D : va_G} {A : Nat → Prop} {tys : xK} {lv : List (Nat × Value)} {st : List Value} {M : Wm} {Qc : Array Value → State → Outcome → State → Prop} {px : String → Prop} {mc ms : Nat}
/-- a return out of a method that may throw -/
theorem g_xret {M0 : Wm} (k : gW p l e R s m args below meth c D A nL cells slots (MQ below Qc args s mc ms A) P pc lv st M) : gW p l e R s m args below meth c D A nL cells slots (vx_MQ below Qc (qX D A M0 px) args s mc ms A) P pc lv st M := fun H locs ls hP hW hS hl => vx_ret (k H locs ls hP hW hS hl)
theorem g_throw (C : cX p m meth c cc nL s args own D tys A) (hl0 : l.stackTraces = false) {cls text : String} {ik is ic : Nat} (hcls : Bundle.fit cls = true) (hk : Cond.classLink own ik cls ∈ xAll) (hini : Cond.initialized cls ∈ xAll) (hstr : (own, is, text) ∈ xStr) (h1 : ∀ w ∈ (vx_atS own ic cls xNm).filter goodWord, w ∈ xAll) (h2 : ∀ w ∈ (vx_atS own ic cls xNm).filter (fun w => !goodWord w), w ∈ xNw ∧ w.onTables = true)
    (hgood : ∀ w ∈ Cond.classLink own ik cls :: Cond.initialized cls :: vx_atS own ic cls xNm, vx_ot w = true) (hex : ∀ x ∈ c.exceptionTable.toList, False)
    (d0 : decode cc pc = .ok (.new ik, 3)) (d3 : decode cc (pc + 3) = .ok (.dup, 1)) (d4 : decode cc (pc + 4) = .ok (.ldc is, 2)) (d6 : decode cc (pc + 6) = .ok (.invokespecial ic, 3)) (d9 : decode cc (pc + 9) = .ok (.athrow, 1))
    (hR : 5 < R.frames ∧ (st.map fun v => v.category).sum + 82 ≤ R.locals ∧ cells + 1 ≤ R.cells ∧ slots + 6 ≤ R.slots) (hc : cells + 1 ≤ mc) (hs : slots + 6 ≤ ms) (hpx : px cls) : gW p l e R s m args below meth c D A nL cells slots (vx_MQ below Qc (qX D A M px) args s mc ms A) P pc lv st M := by
  have hts := C.1.2.2.2.2
  intro H locs ls hP hW hS hls
  obtain ⟨sa, hsa⟩ := C.2.2.2.2.2.1 _ hstr
  refine vx_throwS (names := xNm) C.1.1 C.1.2.1 hl0 C.1.2.2.2.1 hcls (by decide +kernel) (hts _ hk) (hts _ hini) hsa (hat_of C h1 h2) hgood C.2.2.2.2.2.2.1 C.2.2.2.2.2.2.2 hS (by rw [C.1.2.2.1]; exact hls.1) d0 d3 d4 d6 d9 (fun x hx => (hex x hx).elim) hR.1 hR.2.1 hR.2.2.1 hR.2.2.2 C.2.2.2.2.1 (fun t ht hz hq => ?_) hS.2.2 hc hs
  refine ⟨(), trivial, ⟨hpx, fun q x hx => ⟨(hW q x hx).1.kept (hq q (hW q x hx).1.lt), (hW q x hx).2⟩⟩, Nat.le_trans hS.1 hz, fun q h1 h2 => ?_⟩
  rw [hq q (Nat.lt_of_lt_of_le h1 hS.1)]
  exact hS.2.1 q h1 h2
theorem g_throwW (C : cX p m meth c cc nL s args own D tys A) (hl0 : l.stackTraces = false) {cls text : String} {ik is ic : Nat} (hcls : Bundle.fit cls = true) (hk : Cond.classLink own ik cls ∈ xAll) (hini : Cond.initialized cls ∈ xAll) (hstr : (own, is, text) ∈ xStr) (h1 : ∀ w ∈ (vx_atS own ic cls xNm).filter goodWord, w ∈ xAll) (h2 : ∀ w ∈ (vx_atS own ic cls xNm).filter (fun w => !goodWord w), w ∈ xNw ∧ w.onTables = true)
    (hgood : ∀ w ∈ Cond.classLink own ik cls :: Cond.initialized cls :: vx_atS own ic cls xNm, vx_ot w = true) (hex : ∀ x ∈ c.exceptionTable.toList, False)
    (d0 : decode cc pc = .ok (.new ik, 3)) (d3 : decode cc (pc + 3) = .ok (.dup, 1)) (d4 : decode cc (pc + 4) = .ok (.ldc_w is, 3)) (d6 : decode cc (pc + 7) = .ok (.invokespecial ic, 3)) (d9 : decode cc (pc + 10) = .ok (.athrow, 1))
    (hR : 5 < R.frames ∧ (st.map fun v => v.category).sum + 82 ≤ R.locals ∧ cells + 1 ≤ R.cells ∧ slots + 6 ≤ R.slots) (hc : cells + 1 ≤ mc) (hs : slots + 6 ≤ ms) (hpx : px cls) : gW p l e R s m args below meth c D A nL cells slots (vx_MQ below Qc (qX D A M px) args s mc ms A) P pc lv st M := by
  have hts := C.1.2.2.2.2
  intro H locs ls hP hW hS hls
  obtain ⟨sa, hsa⟩ := C.2.2.2.2.2.1 _ hstr
  refine vx_throwSW (names := xNm) C.1.1 C.1.2.1 hl0 C.1.2.2.2.1 hcls (by decide +kernel) (hts _ hk) (hts _ hini) hsa (hat_of C h1 h2) hgood C.2.2.2.2.2.2.1 C.2.2.2.2.2.2.2 hS (by rw [C.1.2.2.1]; exact hls.1) d0 d3 d4 d6 d9 (fun x hx => (hex x hx).elim) hR.1 hR.2.1 hR.2.2.1 hR.2.2.2 C.2.2.2.2.1 (fun t ht hz hq => ?_) hS.2.2 hc hs
  refine ⟨(), trivial, ⟨hpx, fun q x hx => ⟨(hW q x hx).1.kept (hq q (hW q x hx).1.lt), (hW q x hx).2⟩⟩, Nat.le_trans hS.1 hz, fun q h1 h2 => ?_⟩
  rw [hq q (Nat.lt_of_lt_of_le h1 hS.1)]
  exact hS.2.1 q h1 h2
end XY
theorem at_IA1 : ∀ w ∈ (vx_atS R_Ct 80 xIA xNm).filter goodWord, w ∈ xAll := by decide +kernel
theorem at_IA2 : ∀ w ∈ (vx_atS R_Ct 80 xIA xNm).filter (fun w => !goodWord w), w ∈ xNw ∧ w.onTables = true := by decide +kernel
theorem at_IA3 : ∀ w ∈ Cond.classLink R_Ct 76 xIA :: Cond.initialized xIA :: vx_atS R_Ct 80 xIA xNm, vx_ot w = true := by decide +kernel
theorem at_IS1 : ∀ w ∈ (vx_atS R_Ct 90 xIS xNm).filter goodWord, w ∈ xAll := by decide +kernel
theorem at_IS2 : ∀ w ∈ (vx_atS R_Ct 90 xIS xNm).filter (fun w => !goodWord w), w ∈ xNw ∧ w.onTables = true := by decide +kernel
theorem at_IS3 : ∀ w ∈ Cond.classLink R_Ct 86 xIS :: Cond.initialized xIS :: vx_atS R_Ct 90 xIS xNm, vx_ot w = true := by decide +kernel
end
section
/-! WORDS of what is made: written by program -/
theorem ne_new {M : Wm} {b q : Nat} {x : va_E} (hq : M q = none) (hb : M b = some x) : b ≠ q := by
  intro e
  rw [e, hq] at hb
  cases hb
theorem oi_Ct_1 : Cond.methodLink R_Ct 1 Lib.objectInit ∈ xAll ∧ Cond.instanceMethod Lib.objectInit ∈ xAll ∧ Cond.code Lib.objectInit ⟨#[0xb1]⟩ 1 none ∈ xAll := ⟨xa_t 21 (by decide +kernel) rfl, xa_t 22 (by decide +kernel) rfl, xa_t 23 (by decide +kernel) rfl⟩
theorem nw_Ct_7 : xN R_Ct 7 0 [.null, .null, .int (iI 0), .int (iI 0)] 4 := ⟨R_Ho, F_Ho, t_Ho, rfl, in_Ho, tk_Ho, xa_t 24 (by decide +kernel) rfl, xa_t 25 (by decide +kernel) rfl, xa_t 2 (by decide +kernel) rfl, by decide +kernel⟩
theorem na_Ct_16 : Cond.classLink R_Ct 16 "CareTours$Part" ∈ xAll ∧ Cond.arrayOver (.object "CareTours$Part") ∈ xNw := ⟨xa_t 50 (by decide +kernel) rfl, xn_t 51 (by decide +kernel) rfl⟩
theorem na_Ct_25 : Cond.classLink R_Ct 25 "CareTours$Person" ∈ xAll ∧ Cond.arrayOver (.object "CareTours$Person") ∈ xNw := ⟨xa_t 52 (by decide +kernel) rfl, xn_t 53 (by decide +kernel) rfl⟩
theorem nw_Ct_35 : xN R_Ct 35 5 [.null, .null, .null, .int (iI 0)] 4 := ⟨R_Pn, F_Pn, t_Pn, rfl, in_Pn, tk_Pn, xa_t 54 (by decide +kernel) rfl, xa_t 55 (by decide +kernel) rfl, xa_t 3 (by decide +kernel) rfl, by decide +kernel⟩
theorem nw_Ct_42 : xN R_Ct 42 6 [.null, .null, .int (iI 0), .int (iI 0), .int (iI 0), .int (iI 0), .int (iI 0)] 7 := ⟨R_To, F_To, t_To, rfl, in_To, tk_To, xa_t 75 (by decide +kernel) rfl, xa_t 76 (by decide +kernel) rfl, xa_t 4 (by decide +kernel) rfl, by decide +kernel⟩
theorem cl_Ct_76 : Cond.classLink R_Ct 76 "java/lang/IllegalArgumentException" ∈ xAll := xa_t 167 (by decide +kernel) rfl
theorem cl_Ct_86 : Cond.classLink R_Ct 86 "java/lang/IllegalStateException" ∈ xAll := xa_t 234 (by decide +kernel) rfl
theorem nw_Ct_94 : xN R_Ct 94 4 [.int (iI 0), .int (iI 0), .int (iI 0)] 3 := ⟨R_Pl, F_Pl, t_Pl, rfl, in_Pl, tk_Pl, xa_t 254 (by decide +kernel) rfl, xa_t 255 (by decide +kernel) rfl, xa_t 12 (by decide +kernel) rfl, by decide +kernel⟩
theorem nw_Ct_112 : xN R_Ct 112 1 [.int (iI 0), .int (iI 0), .int (iI 0), .int (iI 0), .int (iI 0), .int (iI 0)] 6 := ⟨R_Li, F_Li, t_Li, rfl, in_Li, tk_Li, xa_t 288 (by decide +kernel) rfl, xa_t 289 (by decide +kernel) rfl, xa_t 13 (by decide +kernel) rfl, by decide +kernel⟩
theorem nw_Ct_16 : xN R_Ct 16 2 [.int (iI 0), .null, .int (iI 0), .int (iI 0), .int (iI 0), .int (iI 0), .int (iI 0), .int (iI 0), .int (iI 0), .int (iI 0), .int (iI 0)] 11 := ⟨R_Pt, F_Pt, t_Pt, rfl, in_Pt, tk_Pt, xa_t 50 (by decide +kernel) rfl, xa_t 335 (by decide +kernel) rfl, xa_t 14 (by decide +kernel) rfl, by decide +kernel⟩
theorem nw_Ct_25 : xN R_Ct 25 3 [.int (iI 0), .int (iI 0), .null, .int (iI 0)] 4 := ⟨R_Pe, F_Pe, t_Pe, rfl, in_Pe, tk_Pe, xa_t 52 (by decide +kernel) rfl, xa_t 396 (by decide +kernel) rfl, xa_t 15 (by decide +kernel) rfl, by decide +kernel⟩
theorem oi_Mo_1 : Cond.methodLink R_Mo 1 Lib.objectInit ∈ xAll ∧ Cond.instanceMethod Lib.objectInit ∈ xAll ∧ Cond.code Lib.objectInit ⟨#[0xb1]⟩ 1 none ∈ xAll := ⟨xa_t 669 (by decide +kernel) rfl, xa_t 22 (by decide +kernel) rfl, xa_t 23 (by decide +kernel) rfl⟩
theorem oi_Ho_3 : Cond.methodLink R_Ho 3 Lib.objectInit ∈ xAll ∧ Cond.instanceMethod Lib.objectInit ∈ xAll ∧ Cond.code Lib.objectInit ⟨#[0xb1]⟩ 1 none ∈ xAll := ⟨xa_t 29 (by decide +kernel) rfl, xa_t 22 (by decide +kernel) rfl, xa_t 23 (by decide +kernel) rfl⟩
theorem na_Ho_9 : Cond.classLink R_Ho 9 "CareTours$Place" ∈ xAll ∧ Cond.arrayOver (.object "CareTours$Place") ∈ xNw := ⟨xa_t 30 (by decide +kernel) rfl, xn_t 31 (by decide +kernel) rfl⟩
theorem na_Ho_17 : Cond.classLink R_Ho 17 "CareTours$Lift" ∈ xAll ∧ Cond.arrayOver (.object "CareTours$Lift") ∈ xNw := ⟨xa_t 32 (by decide +kernel) rfl, xn_t 33 (by decide +kernel) rfl⟩
theorem oi_Li_1 : Cond.methodLink R_Li 1 Lib.objectInit ∈ xAll ∧ Cond.instanceMethod Lib.objectInit ∈ xAll ∧ Cond.code Lib.objectInit ⟨#[0xb1]⟩ 1 none ∈ xAll := ⟨xa_t 293 (by decide +kernel) rfl, xa_t 22 (by decide +kernel) rfl, xa_t 23 (by decide +kernel) rfl⟩
theorem oi_Pt_3 : Cond.methodLink R_Pt 3 Lib.objectInit ∈ xAll ∧ Cond.instanceMethod Lib.objectInit ∈ xAll ∧ Cond.code Lib.objectInit ⟨#[0xb1]⟩ 1 none ∈ xAll := ⟨xa_t 339 (by decide +kernel) rfl, xa_t 22 (by decide +kernel) rfl, xa_t 23 (by decide +kernel) rfl⟩
theorem oi_Pe_1 : Cond.methodLink R_Pe 1 Lib.objectInit ∈ xAll ∧ Cond.instanceMethod Lib.objectInit ∈ xAll ∧ Cond.code Lib.objectInit ⟨#[0xb1]⟩ 1 none ∈ xAll := ⟨xa_t 400 (by decide +kernel) rfl, xa_t 22 (by decide +kernel) rfl, xa_t 23 (by decide +kernel) rfl⟩
theorem oi_Pl_1 : Cond.methodLink R_Pl 1 Lib.objectInit ∈ xAll ∧ Cond.instanceMethod Lib.objectInit ∈ xAll ∧ Cond.code Lib.objectInit ⟨#[0xb1]⟩ 1 none ∈ xAll := ⟨xa_t 259 (by decide +kernel) rfl, xa_t 22 (by decide +kernel) rfl, xa_t 23 (by decide +kernel) rfl⟩
theorem oi_Pn_5 : Cond.methodLink R_Pn 5 Lib.objectInit ∈ xAll ∧ Cond.instanceMethod Lib.objectInit ∈ xAll ∧ Cond.code Lib.objectInit ⟨#[0xb1]⟩ 1 none ∈ xAll := ⟨xa_t 59 (by decide +kernel) rfl, xa_t 22 (by decide +kernel) rfl, xa_t 23 (by decide +kernel) rfl⟩
theorem na_Pn_11 : Cond.classLink R_Pn 11 "CareTours$Part" ∈ xAll ∧ Cond.arrayOver (.object "CareTours$Part") ∈ xNw := ⟨xa_t 60 (by decide +kernel) rfl, xn_t 51 (by decide +kernel) rfl⟩
theorem oi_To_3 : Cond.methodLink R_To 3 Lib.objectInit ∈ xAll ∧ Cond.instanceMethod Lib.objectInit ∈ xAll ∧ Cond.code Lib.objectInit ⟨#[0xb1]⟩ 1 none ∈ xAll := ⟨xa_t 80 (by decide +kernel) rfl, xa_t 22 (by decide +kernel) rfl, xa_t 23 (by decide +kernel) rfl⟩
theorem na_To_9 : Cond.classLink R_To 9 "CareTours$Part" ∈ xAll ∧ Cond.arrayOver (.object "CareTours$Part") ∈ xNw := ⟨xa_t 81 (by decide +kernel) rfl, xn_t 51 (by decide +kernel) rfl⟩
theorem nw_La_8 : xN R_La 8 7 [.int (iI 0), .null, .null, .null, .null, .null, .null, .null, .int (iI 0), .int (iI 0)] 10 := ⟨R_Ct, F_Ct, t_Ct, rfl, in_Ct, tk_Ct, xa_t 16 (by decide +kernel) rfl, xa_t 17 (by decide +kernel) rfl, xa_t 1 (by decide +kernel) rfl, by decide +kernel⟩
theorem nw_La_75 : xN R_La 75 8 [.int (iI 0), .int (iI 0), .int (iI 0), .null, .null, .null, .int (iI 0), .null, .null, .null, .null, .null, .null, .int (iI 0), .null, .null, .null, .null, .null, .null, .null, .null, .null, .null, .int (iI 0), .null, .null, .null, .null, .int (iI 0), .int (iI 0), .int (iI 0), .int (iI 0), .null, .null, .null, .null] 37 := ⟨R_Mo, F_Mo, t_Mo, rfl, in_Mo, tk_Mo, xa_t 664 (by decide +kernel) rfl, xa_t 665 (by decide +kernel) rfl, xa_t 6 (by decide +kernel) rfl, by decide +kernel⟩
theorem ini_IA : Cond.initialized "java/lang/IllegalArgumentException" ∈ xAll := xa_t 10 (by decide +kernel) rfl
theorem ini_IS : Cond.initialized "java/lang/IllegalStateException" ∈ xAll := xa_t 11 (by decide +kernel) rfl
theorem ac_int : Cond.arrayClass .int ∈ xAll := xa_t 74 (by decide +kernel) rfl
theorem ac_byte : Cond.arrayClass .byte ∈ xAll := xa_t 233 (by decide +kernel) rfl
theorem ac_long : Cond.arrayClass .long ∈ xAll := xa_t 895 (by decide +kernel) rfl
end
section
/-! WHAT BOTH SIDES ANSWER: walks -/
def sAbs (a b : Int) : Int := if a ≤ b then b - a else a - b
theorem sAbs_or (a b : Int) : (a ≤ b ∧ sAbs a b = b - a) ∨ (b < a ∧ sAbs a b = a - b) := by
  unfold sAbs
  by_cases h : a ≤ b
  · rw [if_pos h]; omega
  · rw [if_neg h]; omega
def sXY (x y u v : Int) : Int := sAbs x u + sAbs y v
/-- p, q: a place's floor, x, y; g: a lift's x, y, least, greatest, wait, speed -/
def sLift (g p q : Nat → Int) : Int := sXY (p 1) (p 2) (g 0) (g 1) + (g 4 + g 5 * sAbs (p 0) (q 0)) + sXY (q 1) (q 2) (g 0) (g 1)
def sWayL (lf : Nat → Nat → Int) (p q : Nat → Int) : Nat → Int
  | 0 => -1
  | n + 1 => if (lf n 2 ≤ p 0 ∧ p 0 ≤ lf n 3) ∧ (lf n 2 ≤ q 0 ∧ q 0 ≤ lf n 3) then (if sWayL lf p q n = -1 then sLift (lf n) p q else if sLift (lf n) p q < sWayL lf p q n then sLift (lf n) p q else sWayL lf p q n) else sWayL lf p q n
def sWay (nl : Nat) (lf : Nat → Nat → Int) (p q : Nat → Int) : Int := if p 0 = q 0 then sXY (p 1) (p 2) (q 1) (q 2) else sWayL lf p q nl
/-- a place's and a lift's numbers within their bounds -/
def okP (p : Nat → Int) : Prop := (0 ≤ p 0 ∧ p 0 ≤ 30) ∧ (0 ≤ p 1 ∧ p 1 ≤ 100) ∧ (0 ≤ p 2 ∧ p 2 ≤ 100)
def okL (g : Nat → Int) : Prop := (0 ≤ g 0 ∧ g 0 ≤ 100) ∧ (0 ≤ g 1 ∧ g 1 ≤ 100) ∧ (0 ≤ g 2 ∧ g 2 ≤ 30) ∧ (0 ≤ g 3 ∧ g 3 ≤ 30) ∧ (0 ≤ g 4 ∧ g 4 ≤ 100) ∧ (0 ≤ g 5 ∧ g 5 ≤ 100)
theorem sXY_b {x y u v : Int} (h : (0 ≤ x ∧ x ≤ 100) ∧ (0 ≤ y ∧ y ≤ 100) ∧ (0 ≤ u ∧ u ≤ 100) ∧ (0 ≤ v ∧ v ≤ 100)) : 0 ≤ sXY x y u v ∧ sXY x y u v ≤ 200 := by
  unfold sXY
  have h1 := sAbs_or x u
  have h2 := sAbs_or y v
  omega
theorem mul_b {a b n k : Int} (ha : 0 ≤ a ∧ a ≤ n) (hb : 0 ≤ b ∧ b ≤ k) : 0 ≤ a * b ∧ a * b ≤ n * k := by
  refine ⟨Int.mul_nonneg ha.1 hb.1, Int.mul_le_mul ha.2 hb.2 hb.1 (by omega)⟩
theorem sLift_b {g p q : Nat → Int} (hg : okL g) (hp : okP p) (hq : okP q) : 0 ≤ sLift g p q ∧ sLift g p q ≤ 3500 := by
  unfold okL at hg
  unfold okP at hp hq
  unfold sLift
  have h1 := sXY_b (x := p 1) (y := p 2) (u := g 0) (v := g 1) (by omega)
  have h2 := sXY_b (x := q 1) (y := q 2) (u := g 0) (v := g 1) (by omega)
  have h3 := sAbs_or (p 0) (q 0)
  have h4 := mul_b (a := g 5) (b := sAbs (p 0) (q 0)) (n := 100) (k := 30) (by omega) (by omega)
  omega
theorem sWayL_b {lf : Nat → Nat → Int} {p q : Nat → Int} {nl : Nat} (hl : ∀ k, k < nl → okL (lf k)) (hp : okP p) (hq : okP q) : -1 ≤ sWayL lf p q nl ∧ sWayL lf p q nl ≤ 3500 := by
  induction nl with
  | zero => unfold sWayL; omega
  | succ n ih =>
    have h := ih (fun k hk => hl k (by omega))
    have h2 := sLift_b (hl n (by omega)) hp hq
    unfold sWayL
    split
    · split
      · omega
      · split <;> omega
    · exact h
theorem sWay_b {lf : Nat → Nat → Int} {p q : Nat → Int} {nl : Nat} (hl : ∀ k, k < nl → okL (lf k)) (hp : okP p) (hq : okP q) : -1 ≤ sWay nl lf p q ∧ sWay nl lf p q ≤ 3500 := by
  unfold sWay
  split
  · have h := hp
    have h2 := hq
    unfold okP at h h2
    have h1 := sXY_b (x := p 1) (y := p 2) (u := q 1) (v := q 2) (by omega)
    omega
  · exact sWayL_b hl hp hq
theorem sAbs_cm (a b : Int) : sAbs a b = sAbs b a := by
  have h1 := sAbs_or a b
  have h2 := sAbs_or b a
  omega
end
section
/-! PICTURES of the cells -/
/-- the array classes: of ints, of longs, of places, lifts, parts, persons -/
def tyOK (tys : xK) : Prop := tys[0]? = some (tc tys 0, .int) ∧ tys[1]? = some (tc tys 1, .long) ∧ tys[2]? = some (tc tys 2, .object "CareTours$Place") ∧ tys[3]? = some (tc tys 3, .object "CareTours$Lift") ∧ tys[4]? = some (tc tys 4, .object "CareTours$Part") ∧ tys[5]? = some (tc tys 5, .object "CareTours$Person") ∧ tc tys 3 ≠ tc tys 2 ∧ tc tys 4 ≠ tc tys 2 ∧ tc tys 5 ≠ tc tys 2 ∧ tc tys 4 ≠ tc tys 3 ∧ tc tys 5 ≠ tc tys 3 ∧ tc tys 5 ≠ tc tys 4
abbrev oPl (p : Nat → Int) : va_E := .inr (4, [.int (iI (p 0)), .int (iI (p 1)), .int (iI (p 2))])
abbrev oLi (g : Nat → Int) : va_E := .inr (1, [.int (iI (g 0)), .int (iI (g 1)), .int (iI (g 2)), .int (iI (g 3)), .int (iI (g 4)), .int (iI (g 5))])
abbrev oPt (n : Int) (pa : Nat) (t : Nat → Int) : va_E := .inr (2, [.int (iI n), .ref pa, .int (iI (t 0)), .int (iI (t 1)), .int (iI (t 2)), .int (iI (t 3)), .int (iI (t 4)), .int (iI (t 5)), .int (iI (t 6)), .int (iI (t 7)), .int (iI (t 8))])
abbrev oPe (n : Int) (ha : Nat) (u : Nat → Int) : va_E := .inr (3, [.int (iI n), .int (iI (u 0)), .ref ha, .int (iI (u 1))])
abbrev aI (tys : xK) (n : Nat) (f : Nat → Int) : va_E := .inl (tc tys 0, n, .inl (fun j => iI (f j)))
abbrev aR (tys : xK) (t n : Nat) (g : Nat → Option Nat) : va_E := .inl (tc tys t, n, .inr (.inr (.inr (.inr g))))
abbrev oHo (pa la : Nat) (np nl : Int) : va_E := .inr (0, [.ref pa, .ref la, .int (iI np), .int (iI nl)])
/-- a part's numbers: skill, kind, every, hours, work, tested, used, last told, worn -/
def okT (t : Nat → Int) : Prop := (0 ≤ t 0 ∧ t 0 ≤ 7) ∧ (0 ≤ t 1 ∧ t 1 ≤ 4) ∧ (1 ≤ t 2 ∧ t 2 ≤ 400) ∧ (1 ≤ t 3 ∧ t 3 ≤ 10000) ∧ (1 ≤ t 4 ∧ t 4 ≤ 7200) ∧ (0 ≤ t 5 ∧ t 5 ≤ 100000) ∧ (0 ≤ t 6 ∧ t 6 ≤ 1000000) ∧ (0 ≤ t 7 ∧ t 7 ≤ 100000) ∧ (-1 ≤ t 8 ∧ t 8 ≤ 100000)
def okU (u : Nat → Int) : Prop := (0 ≤ u 0 ∧ u 0 ≤ 255) ∧ (0 ≤ u 1 ∧ u 1 ≤ 100000)
def sDue (t : Nat → Int) : Int := if t 8 = -1 then t 5 + t 2 else if t 8 < t 5 + t 2 then t 8 else t 5 + t 2
theorem sDue_or (t : Nat → Int) : (t 8 = -1 ∧ sDue t = t 5 + t 2) ∨ (¬ t 8 = -1 ∧ t 8 < t 5 + t 2 ∧ sDue t = t 8) ∨ (¬ t 8 = -1 ∧ ¬ t 8 < t 5 + t 2 ∧ sDue t = t 5 + t 2) := by
  unfold sDue
  by_cases h : t 8 = -1
  · rw [if_pos h]; omega
  · rw [if_neg h]
    by_cases h2 : t 8 < t 5 + t 2
    · rw [if_pos h2]; omega
    · rw [if_neg h2]; omega
theorem sDue_b {t : Nat → Int} (h : okT t) : 0 ≤ sDue t ∧ sDue t ≤ 100400 := by
  unfold okT at h
  have := sDue_or t
  omega
/-! bits -/
def sBit (s k : Int) : Int := ((s.toNat / 2 ^ k.toNat % 2 : Nat) : Int)
theorem shr_nn : ∀ s, s < 256 → ∀ k, k < 8 → nI s >>> (nI k &&& 31) = nI (s / 2 ^ k) := by decide +kernel
theorem and1_nn : ∀ s, s < 256 → nI s &&& 1 = nI (s % 2) := by decide +kernel
theorem shl_nn : ∀ k, k < 8 → (1 : Int32) <<< (nI k &&& 31) = nI (2 ^ k) := by decide +kernel
theorem iI_toNat {z : Int} (h : 0 ≤ z) : iI z = nI z.toNat := by
  rw [← iI_nat]
  congr 1
  omega
theorem shr_i {s k : Int} (hs : 0 ≤ s ∧ s ≤ 255) (hk : 0 ≤ k ∧ k ≤ 7) : iI s >>> (iI k &&& 31) = iI ((s.toNat / 2 ^ k.toNat : Nat) : Int) := by
  rw [iI_toNat hs.1, iI_toNat hk.1, shr_nn _ (by omega) _ (by omega), iI_nat]
theorem and1_i {s k : Int} (hs : 0 ≤ s ∧ s ≤ 255) : iI ((s.toNat / 2 ^ k.toNat : Nat) : Int) &&& iI 1 = iI (sBit s k) := by
  have h : s.toNat / 2 ^ k.toNat < 256 := Nat.lt_of_le_of_lt (Nat.div_le_self _ _) (by omega)
  rw [iI_nat, show iI 1 = (1 : Int32) from rfl, and1_nn _ h]
  unfold sBit
  rw [iI_nat]
theorem shl_i {k : Int} (hk : 0 ≤ k ∧ k ≤ 7) : iI 1 <<< (iI k &&& 31) = iI ((2 ^ k.toNat : Nat) : Int) := by
  rw [iI_toNat hk.1, show iI 1 = (1 : Int32) from rfl, shl_nn _ (by omega), iI_nat]
theorem sBit_b (s k : Int) : 0 ≤ sBit s k ∧ sBit s k ≤ 1 := by
  unfold sBit
  have := Nat.mod_lt (s.toNat / 2 ^ k.toNat) (show 0 < 2 by decide)
  omega
/-- a house: its lifts -/
def HoA (tys : xK) (M : Wm) (h nl : Nat) (lf : Nat → Nat → Int) : Prop := nl ≤ 6 ∧ (∀ k, k < nl → okL (lf k)) ∧ ∃ (pa la : Nat) (np : Int) (gl : Nat → Option Nat), M h = some (oHo pa la np nl) ∧ M la = some (aR tys 3 6 gl) ∧ ∀ k, k < nl → ∃ x, gl k = some x ∧ M x = some (oLi (lf k))
end
section
/-! LEAVES of the class: written by program (wip/whole/gen/leaf.py) -/
set_option maxHeartbeats 4000000 in
set_option maxRecDepth 100000 in
theorem ct_Ct_within (l : Launch) (D : va_G) (tys : xK) (A : Nat → Prop) (M : Wm) (n lo hi : Int) (h0 : (-2147483648 ≤ n ∧ n < 2147483648) ∧ (-2147483648 ≤ lo ∧ lo < 2147483648) ∧ (-2147483648 ≤ hi ∧ hi < 2147483648)) : pT l y_Ct_within b_Ct_within 3 (some .boolean) { frames := 0, cells := 0, slots := 0, locals := 0 } D tys A [.int (iI n), .int (iI lo), .int (iI hi)] M (qP (fun z => (z = 1 ∧ lo ≤ n ∧ n ≤ hi) ∨ (z = 0 ∧ ¬ (lo ≤ n ∧ n ≤ hi)))) := by
  refine met_of (own := R_Ct) (lv := [(0, .int (iI n)), (1, .int (iI lo)), (2, .int (iI hi))]) rfl (by decide) (Nat.le_of_ble_eq_true rfl) rfl ?_
  intro p_ e_ s_ m_ bl_ me_ c_ C hr hin
  refine g_iload_n C d_Ct_within_0 0 rfl ?_
  refine g_iload_n C d_Ct_within_1 1 rfl ?_
  refine g_icmp_lt C 14 d_Ct_within_2 rfl (by omega) (fun c1 => ?_) (fun c1 => ?_)
  · refine g_iconst C d_Ct_within_14 ?_
    exact g_zretP C hr (by omega) d_Ct_within_15 (by omega)
  · refine g_iload_n C d_Ct_within_5 0 rfl ?_
    refine g_iload_n C d_Ct_within_6 2 rfl ?_
    refine g_icmp_gt C 14 d_Ct_within_7 rfl (by omega) (fun c2 => ?_) (fun c2 => ?_)
    · refine g_iconst C d_Ct_within_14 ?_
      exact g_zretP C hr (by omega) d_Ct_within_15 (by omega)
    · refine g_iconst C d_Ct_within_10 ?_
      refine g_goto C 15 d_Ct_within_11 rfl ?_
      exact g_zretP C hr (by omega) d_Ct_within_15 (by omega)
set_option maxHeartbeats 4000000 in
set_option maxRecDepth 100000 in
theorem ct_Ct_isSpot (l : Launch) (D : va_G) (tys : xK) (A : Nat → Prop) (M : Wm) (x y : Int) (h0 : (-2147483648 ≤ x ∧ x < 2147483648) ∧ (-2147483648 ≤ y ∧ y < 2147483648)) : pT l y_Ct_isSpot b_Ct_isSpot 2 (some .boolean) { frames := 1, cells := 0, slots := 0, locals := 22 } D tys A [.int (iI x), .int (iI y)] M (qP (fun z => (z = 1 ∧ (0 ≤ x ∧ x ≤ 100) ∧ (0 ≤ y ∧ y ≤ 100)) ∨ (z = 0 ∧ ¬ ((0 ≤ x ∧ x ≤ 100) ∧ (0 ≤ y ∧ y ≤ 100))))) := by
  refine met_of (own := R_Ct) (lv := [(0, .int (iI x)), (1, .int (iI y))]) rfl (by decide) (Nat.le_of_ble_eq_true rfl) rfl ?_
  intro p_ e_ s_ m_ bl_ me_ c_ C hr hin
  refine g_iload_n C d_Ct_isSpot_0 0 rfl ?_
  refine g_iconst C d_Ct_isSpot_1 ?_
  refine g_bipush C d_Ct_isSpot_2 (by decide) ?_
  refine g_calliP C (run_S C [.int (iI x), .int (iI 0), .int (iI 100)] k_Ct_68 (ct_Ct_within l D tys A M x 0 100 (by omega)) ⟨rfl, rfl, Nat.le_of_ble_eq_true rfl, Nat.le_of_ble_eq_true rfl⟩ rfl rfl (Nat.le_of_ble_eq_true rfl) d_Ct_isSpot_4 ⟨Nat.le_of_ble_eq_true rfl, Nat.le_of_ble_eq_true rfl⟩) (fun z1 hz1 => ?_)
  refine g_if_eq C 24 d_Ct_isSpot_7 rfl (by omega) (fun c2 => ?_) (fun c2 => ?_)
  · refine g_iconst C d_Ct_isSpot_24 ?_
    exact g_zretP C hr (by omega) d_Ct_isSpot_25 (by omega)
  · refine g_iload_n C d_Ct_isSpot_10 1 rfl ?_
    refine g_iconst C d_Ct_isSpot_11 ?_
    refine g_bipush C d_Ct_isSpot_12 (by decide) ?_
    refine g_calliP C (run_S C [.int (iI y), .int (iI 0), .int (iI 100)] k_Ct_68 (ct_Ct_within l D tys A M y 0 100 (by omega)) ⟨rfl, rfl, Nat.le_of_ble_eq_true rfl, Nat.le_of_ble_eq_true rfl⟩ rfl rfl (Nat.le_of_ble_eq_true rfl) d_Ct_isSpot_14 ⟨Nat.le_of_ble_eq_true rfl, Nat.le_of_ble_eq_true rfl⟩) (fun z3 hz3 => ?_)
    refine g_if_eq C 24 d_Ct_isSpot_17 rfl (by omega) (fun c4 => ?_) (fun c4 => ?_)
    · refine g_iconst C d_Ct_isSpot_24 ?_
      exact g_zretP C hr (by omega) d_Ct_isSpot_25 (by omega)
    · refine g_iconst C d_Ct_isSpot_20 ?_
      refine g_goto C 25 d_Ct_isSpot_21 rfl ?_
      exact g_zretP C hr (by omega) d_Ct_isSpot_25 (by omega)
set_option maxHeartbeats 4000000 in
set_option maxRecDepth 100000 in
theorem ct_Ct_isDay (l : Launch) (D : va_G) (tys : xK) (A : Nat → Prop) (M : Wm) (x : Int) (h0 : (-2147483648 ≤ x ∧ x < 2147483648)) : pT l y_Ct_isDay b_Ct_isDay 1 (some .boolean) { frames := 1, cells := 0, slots := 0, locals := 22 } D tys A [.int (iI x)] M (qP (fun z => (z = 1 ∧ (0 ≤ x ∧ x ≤ 100000)) ∨ (z = 0 ∧ ¬ (0 ≤ x ∧ x ≤ 100000)))) := by
  refine met_of (own := R_Ct) (lv := [(0, .int (iI x))]) rfl (by decide) (Nat.le_of_ble_eq_true rfl) rfl ?_
  intro p_ e_ s_ m_ bl_ me_ c_ C hr hin
  refine g_iload_n C d_Ct_isDay_0 0 rfl ?_
  refine g_iconst C d_Ct_isDay_1 ?_
  refine g_ldc C 100000 q_Ct_141 d_Ct_isDay_2 ?_
  refine g_calliP C (run_S C [.int (iI x), .int (iI 0), .int (iI 100000)] k_Ct_68 (ct_Ct_within l D tys A M x 0 100000 (by omega)) ⟨rfl, rfl, Nat.le_of_ble_eq_true rfl, Nat.le_of_ble_eq_true rfl⟩ rfl rfl (Nat.le_of_ble_eq_true rfl) d_Ct_isDay_4 ⟨Nat.le_of_ble_eq_true rfl, Nat.le_of_ble_eq_true rfl⟩) (fun z1 hz1 => ?_)
  exact g_zretP C hr (by omega) d_Ct_isDay_7 (by omega)
set_option maxHeartbeats 4000000 in
set_option maxRecDepth 100000 in
theorem ct_Ct_isKind (l : Launch) (D : va_G) (tys : xK) (A : Nat → Prop) (M : Wm) (x : Int) (h0 : (-2147483648 ≤ x ∧ x < 2147483648)) : pT l y_Ct_isKind b_Ct_isKind 1 (some .boolean) { frames := 1, cells := 0, slots := 0, locals := 22 } D tys A [.int (iI x)] M (qP (fun z => (z = 1 ∧ (0 ≤ x ∧ x ≤ 4)) ∨ (z = 0 ∧ ¬ (0 ≤ x ∧ x ≤ 4)))) := by
  refine met_of (own := R_Ct) (lv := [(0, .int (iI x))]) rfl (by decide) (Nat.le_of_ble_eq_true rfl) rfl ?_
  intro p_ e_ s_ m_ bl_ me_ c_ C hr hin
  refine g_iload_n C d_Ct_isKind_0 0 rfl ?_
  refine g_iconst C d_Ct_isKind_1 ?_
  refine g_iconst C d_Ct_isKind_2 ?_
  refine g_calliP C (run_S C [.int (iI x), .int (iI 0), .int (iI 4)] k_Ct_68 (ct_Ct_within l D tys A M x 0 4 (by omega)) ⟨rfl, rfl, Nat.le_of_ble_eq_true rfl, Nat.le_of_ble_eq_true rfl⟩ rfl rfl (Nat.le_of_ble_eq_true rfl) d_Ct_isKind_3 ⟨Nat.le_of_ble_eq_true rfl, Nat.le_of_ble_eq_true rfl⟩) (fun z1 hz1 => ?_)
  exact g_zretP C hr (by omega) d_Ct_isKind_6 (by omega)
set_option maxHeartbeats 4000000 in
set_option maxRecDepth 100000 in
theorem ct_Pl_secondsTo (l : Launch) (D : va_G) (tys : xK) (A : Nat → Prop) (M : Wm) (a : Nat) (p : Nat → Int) (x y : Int) (hp : okP p) (hx : (0 ≤ x ∧ x ≤ 100) ∧ (0 ≤ y ∧ y ≤ 100)) (ha : M a = some (.inr (4, [.int (iI (p 0)), .int (iI (p 1)), .int (iI (p 2))]))) : pT l y_Pl_secondsTo b_Pl_secondsTo 3 (some .int) { frames := 1, cells := 0, slots := 0, locals := 21 } D tys A [.ref a, .int (iI x), .int (iI y)] M (qP (fun z => z = sXY (p 1) (p 2) x y)) := by
  refine met_of (own := R_Pl) (lv := [(0, .ref a), (1, .int (iI x)), (2, .int (iI y))]) rfl (by decide) (Nat.le_of_ble_eq_true rfl) rfl ?_
  intro p_ e_ s_ m_ bl_ me_ c_ C hr hin
  have hp2 := hp
  unfold okP at hp2
  have hu1 := sAbs_or (p 1) x
  have hu2 := sAbs_or (p 2) y
  refine g_aload_n C d_Pl_secondsTo_0 0 rfl ?_
  refine g_get C f_Pl_13 ha rfl d_Pl_secondsTo_1 ?_
  refine g_iload_n C d_Pl_secondsTo_4 1 rfl ?_
  refine g_isub C d_Pl_secondsTo_5 ?_
  refine g_mabs C k_Pl_19 (by omega) ⟨Nat.le_of_ble_eq_true rfl, Nat.le_of_ble_eq_true rfl, Nat.le_of_ble_eq_true rfl, Nat.le_of_ble_eq_true rfl⟩ d_Pl_secondsTo_6 ?_
  obtain ⟨z1, ez1⟩ : ∃ z : Int, z = if 0 ≤ (p 1) - x then (p 1) - x else -((p 1) - x) := ⟨_, rfl⟩
  rw [← ez1]
  have hz1 : (0 ≤ (p 1) - x ∧ z1 = (p 1) - x) ∨ ((p 1) - x < 0 ∧ z1 = -((p 1) - x)) := by rw [ez1]; split <;> omega
  refine g_aload_n C d_Pl_secondsTo_9 0 rfl ?_
  refine g_get C f_Pl_16 ha rfl d_Pl_secondsTo_10 ?_
  refine g_iload_n C d_Pl_secondsTo_13 2 rfl ?_
  refine g_isub C d_Pl_secondsTo_14 ?_
  refine g_mabs C k_Pl_19 (by omega) ⟨Nat.le_of_ble_eq_true rfl, Nat.le_of_ble_eq_true rfl, Nat.le_of_ble_eq_true rfl, Nat.le_of_ble_eq_true rfl⟩ d_Pl_secondsTo_15 ?_
  obtain ⟨z2, ez2⟩ : ∃ z : Int, z = if 0 ≤ (p 2) - y then (p 2) - y else -((p 2) - y) := ⟨_, rfl⟩
  rw [← ez2]
  have hz2 : (0 ≤ (p 2) - y ∧ z2 = (p 2) - y) ∨ ((p 2) - y < 0 ∧ z2 = -((p 2) - y)) := by rw [ez2]; split <;> omega
  refine g_iadd C d_Pl_secondsTo_18 ?_
  exact g_iretP C hr d_Pl_secondsTo_19 (by unfold sXY; omega)
set_option maxHeartbeats 4000000 in
set_option maxRecDepth 100000 in
theorem ct_Li_comesTo (l : Launch) (D : va_G) (tys : xK) (A : Nat → Prop) (M : Wm) (a b : Nat) (g p : Nat → Int) (hg : okL g) (hp : okP p) (ha : M a = some (oLi g)) (hb : M b = some (oPl p)) : pT l y_Li_comesTo b_Li_comesTo 2 (some .boolean) { frames := 1, cells := 0, slots := 0, locals := 22 } D tys A [.ref a, .ref b] M (qP (fun z => (z = 1 ∧ (g 2 ≤ p 0 ∧ p 0 ≤ g 3)) ∨ (z = 0 ∧ ¬ (g 2 ≤ p 0 ∧ p 0 ≤ g 3)))) := by
  refine met_of (own := R_Li) (lv := [(0, .ref a), (1, .ref b)]) rfl (by decide) (Nat.le_of_ble_eq_true rfl) rfl ?_
  intro p_ e_ s_ m_ bl_ me_ c_ C hr hin
  have hg2 := hg
  have hp2 := hp
  unfold okL at hg2
  unfold okP at hp2
  refine g_aload_n C d_Li_comesTo_0 1 rfl ?_
  refine g_get C f_Li_28 hb rfl d_Li_comesTo_1 ?_
  refine g_aload_n C d_Li_comesTo_4 0 rfl ?_
  refine g_get C f_Li_16 ha rfl d_Li_comesTo_5 ?_
  refine g_aload_n C d_Li_comesTo_8 0 rfl ?_
  refine g_get C f_Li_19 ha rfl d_Li_comesTo_9 ?_
  refine g_calliP C (run_S C [.int (iI (p 0)), .int (iI (g 2)), .int (iI (g 3))] k_Li_33 (ct_Ct_within l D tys A M (p 0) (g 2) (g 3) (by omega)) ⟨rfl, rfl, Nat.le_of_ble_eq_true rfl, Nat.le_of_ble_eq_true rfl⟩ rfl rfl (Nat.le_of_ble_eq_true rfl) d_Li_comesTo_12 ⟨Nat.le_of_ble_eq_true rfl, Nat.le_of_ble_eq_true rfl⟩) (fun z1 hz1 => ?_)
  exact g_zretP C hr (by omega) d_Li_comesTo_15 (by omega)
set_option maxHeartbeats 4000000 in
set_option maxRecDepth 100000 in
theorem ct_Li_secondsBetween (l : Launch) (D : va_G) (tys : xK) (A : Nat → Prop) (M : Wm) (a b d : Nat) (g p q : Nat → Int) (hg : okL g) (hp : okP p) (hq : okP q) (ha : M a = some (oLi g)) (hb : M b = some (oPl p)) (hd : M d = some (oPl q)) : pT l y_Li_secondsBetween b_Li_secondsBetween 4 (some .int) { frames := 2, cells := 0, slots := 0, locals := 43 } D tys A [.ref a, .ref b, .ref d] M (qP (fun z => z = sLift g p q)) := by
  refine met_of (own := R_Li) (lv := [(0, .ref a), (1, .ref b), (2, .ref d)]) rfl (by decide) (Nat.le_of_ble_eq_true rfl) rfl ?_
  intro p_ e_ s_ m_ bl_ me_ c_ C hr hin
  have hg2 := hg
  have hp2 := hp
  have hq2 := hq
  unfold okL at hg2
  unfold okP at hp2 hq2
  have hu := sAbs_or (p 0) (q 0)
  refine g_aload_n C d_Li_secondsBetween_0 0 rfl ?_
  refine g_get C f_Li_22 ha rfl d_Li_secondsBetween_1 ?_
  refine g_aload_n C d_Li_secondsBetween_4 0 rfl ?_
  refine g_get C f_Li_25 ha rfl d_Li_secondsBetween_5 ?_
  refine g_aload_n C d_Li_secondsBetween_8 1 rfl ?_
  refine g_get C f_Li_28 hb rfl d_Li_secondsBetween_9 ?_
  refine g_aload_n C d_Li_secondsBetween_12 2 rfl ?_
  refine g_get C f_Li_28 hd rfl d_Li_secondsBetween_13 ?_
  refine g_isub C d_Li_secondsBetween_16 ?_
  refine g_mabs C k_Li_39 (by omega) ⟨Nat.le_of_ble_eq_true rfl, Nat.le_of_ble_eq_true rfl, Nat.le_of_ble_eq_true rfl, Nat.le_of_ble_eq_true rfl⟩ d_Li_secondsBetween_17 ?_
  obtain ⟨z1, ez1⟩ : ∃ z : Int, z = if 0 ≤ (p 0) - (q 0) then (p 0) - (q 0) else -((p 0) - (q 0)) := ⟨_, rfl⟩
  rw [← ez1]
  have hz1 : (0 ≤ (p 0) - (q 0) ∧ z1 = (p 0) - (q 0)) ∨ ((p 0) - (q 0) < 0 ∧ z1 = -((p 0) - (q 0))) := by rw [ez1]; split <;> omega
  refine g_imul C d_Li_secondsBetween_20 ?_
  refine g_iadd C d_Li_secondsBetween_21 ?_
  refine g_istore_n (lv' := [(3, .int (iI ((g 4) + ((g 5) * z1)))), (0, .ref a), (1, .ref b), (2, .ref d)]) C d_Li_secondsBetween_22 (by decide) rfl ?_
  refine g_aload_n C d_Li_secondsBetween_23 2 rfl ?_
  refine g_aload_n C d_Li_secondsBetween_24 1 rfl ?_
  refine g_get C f_Li_7 ha rfl d_Li_secondsBetween_25 ?_
  refine g_aload_n C d_Li_secondsBetween_28 1 rfl ?_
  refine g_get C f_Li_13 ha rfl d_Li_secondsBetween_29 ?_
  refine g_calliP C (run_V C [.int (iI (g 0)), .int (iI (g 1))] k_Li_45 (ct_Pl_secondsTo l D tys A M b p (g 0) (g 1) hp (by omega) hb) hb ⟨rfl, rfl, Nat.le_of_ble_eq_true rfl, Nat.le_of_ble_eq_true rfl⟩ rfl rfl (Nat.le_of_ble_eq_true rfl) d_Li_secondsBetween_32 ⟨Nat.le_of_ble_eq_true rfl, Nat.le_of_ble_eq_true rfl⟩) (fun z2 hz2 => ?_)
  refine g_iload_n C d_Li_secondsBetween_35 0 rfl ?_
  refine g_iadd C d_Li_secondsBetween_36 ?_
  refine g_aload_n C d_Li_secondsBetween_37 3 rfl ?_
  refine g_aload_n C d_Li_secondsBetween_38 1 rfl ?_
  refine g_get C f_Li_7 ha rfl d_Li_secondsBetween_39 ?_
  refine g_aload_n C d_Li_secondsBetween_42 1 rfl ?_
  refine g_get C f_Li_13 ha rfl d_Li_secondsBetween_43 ?_
  refine g_calliP C (run_V C [.int (iI (g 0)), .int (iI (g 1))] k_Li_45 (ct_Pl_secondsTo l D tys A M d q (g 0) (g 1) hq (by omega) hd) hd ⟨rfl, rfl, Nat.le_of_ble_eq_true rfl, Nat.le_of_ble_eq_true rfl⟩ rfl rfl (Nat.le_of_ble_eq_true rfl) d_Li_secondsBetween_46 ⟨Nat.le_of_ble_eq_true rfl, Nat.le_of_ble_eq_true rfl⟩) (fun z3 hz3 => ?_)
  refine g_iadd C d_Li_secondsBetween_49 ?_
  exact g_iretP C hr d_Li_secondsBetween_50 (by unfold sLift; rw [hz2, hz3, show z1 = sAbs (p 0) (q 0) by omega])
set_option maxHeartbeats 4000000 in
set_option maxRecDepth 100000 in
theorem ct_Pt_dueDay (l : Launch) (D : va_G) (tys : xK) (A : Nat → Prop) (M : Wm) (a : Nat) (n : Int) (pa : Nat) (t : Nat → Int) (ht : okT t) (ha : M a = some (oPt n pa t)) : pT l y_Pt_dueDay b_Pt_dueDay 2 (some .int) { frames := 1, cells := 0, slots := 0, locals := 21 } D tys A [.ref a] M (qP (fun z => z = sDue t)) := by
  refine met_of (own := R_Pt) (lv := [(0, .ref a)]) rfl (by decide) (Nat.le_of_ble_eq_true rfl) rfl ?_
  intro p_ e_ s_ m_ bl_ me_ c_ C hr hin
  have ht2 := ht
  unfold okT at ht2
  have hu := sDue_or t
  refine g_aload_n C d_Pt_dueDay_0 0 rfl ?_
  refine g_get C f_Pt_9 ha rfl d_Pt_dueDay_1 ?_
  refine g_aload_n C d_Pt_dueDay_4 0 rfl ?_
  refine g_get C f_Pt_37 ha rfl d_Pt_dueDay_5 ?_
  refine g_iadd C d_Pt_dueDay_8 ?_
  refine g_istore_n (lv' := [(1, .int (iI ((t 5) + (t 2)))), (0, .ref a)]) C d_Pt_dueDay_9 (by decide) rfl ?_
  refine g_aload_n C d_Pt_dueDay_10 1 rfl ?_
  refine g_get C f_Pt_21 ha rfl d_Pt_dueDay_11 ?_
  refine g_iconst C d_Pt_dueDay_14 ?_
  refine g_icmp_ne C 22 d_Pt_dueDay_15 rfl (by omega) (fun c1 => ?_) (fun c1 => ?_)
  · refine g_iload_n C d_Pt_dueDay_22 0 rfl ?_
    refine g_aload_n C d_Pt_dueDay_23 1 rfl ?_
    refine g_get C f_Pt_21 ha rfl d_Pt_dueDay_24 ?_
    refine g_mmin C k_Pt_46 (by omega) ⟨Nat.le_of_ble_eq_true rfl, Nat.le_of_ble_eq_true rfl, Nat.le_of_ble_eq_true rfl, Nat.le_of_ble_eq_true rfl⟩ d_Pt_dueDay_27 ?_
    obtain ⟨z2, ez2⟩ : ∃ z : Int, z = if t 8 < (t 5) + (t 2) then t 8 else (t 5) + (t 2) := ⟨_, rfl⟩
    rw [← ez2]
    have hz2 : (t 8 < (t 5) + (t 2) ∧ z2 = t 8) ∨ (¬ t 8 < (t 5) + (t 2) ∧ z2 = (t 5) + (t 2)) := by rw [ez2]; split <;> omega
    exact g_iretP C hr d_Pt_dueDay_30 (by omega)
  · refine g_iload_n C d_Pt_dueDay_18 0 rfl ?_
    refine g_goto C 30 d_Pt_dueDay_19 rfl ?_
    exact g_iretP C hr d_Pt_dueDay_30 (by omega)
set_option maxHeartbeats 4000000 in
set_option maxRecDepth 100000 in
theorem ct_Pe_has (l : Launch) (D : va_G) (tys : xK) (A : Nat → Prop) (M : Wm) (a : Nat) (n : Int) (ha : Nat) (u : Nat → Int) (k : Int) (hu : okU u) (hk : 0 ≤ k ∧ k ≤ 7) (hc : M a = some (oPe n ha u)) : pT l y_Pe_has b_Pe_has 2 (some .boolean) { frames := 0, cells := 0, slots := 0, locals := 0 } D tys A [.ref a, .int (iI k)] M (qP (fun z => (z = 1 ∧ sBit (u 0) k = 1) ∨ (z = 0 ∧ ¬ sBit (u 0) k = 1))) := by
  refine met_of (own := R_Pe) (lv := [(0, .ref a), (1, .int (iI k))]) rfl (by decide) (Nat.le_of_ble_eq_true rfl) rfl ?_
  intro p_ e_ s_ m_ bl_ me_ c_ C hr hin
  have hu2 := hu
  unfold okU at hu2
  have hb := sBit_b (u 0) k
  refine g_aload_n C d_Pe_has_0 0 rfl ?_
  refine g_get C f_Pe_13 hc rfl d_Pe_has_1 ?_
  refine g_iload_n C d_Pe_has_4 1 rfl ?_
  refine g_ishr C (((u 0).toNat / 2 ^ k.toNat : Nat) : Int) (shr_i (by omega) (by omega)) d_Pe_has_5 ?_
  refine g_iconst C d_Pe_has_6 ?_
  refine g_iand C (sBit (u 0) k) (and1_i (by omega)) d_Pe_has_7 ?_
  refine g_iconst C d_Pe_has_8 ?_
  refine g_icmp_ne C 16 d_Pe_has_9 rfl (by omega) (fun c1 => ?_) (fun c1 => ?_)
  · refine g_iconst C d_Pe_has_16 ?_
    exact g_zretP C hr (by omega) d_Pe_has_17 (by omega)
  · refine g_iconst C d_Pe_has_12 ?_
    refine g_goto C 17 d_Pe_has_13 rfl ?_
    exact g_zretP C hr (by omega) d_Pe_has_17 (by omega)
set_option maxHeartbeats 4000000 in
set_option maxRecDepth 100000 in
theorem ct_Ho_secondsBetween (l : Launch) (D : va_G) (tys : xK) (A : Nat → Prop) (M : Wm) (hT : tyOK tys) (h a b nl : Nat) (lf : Nat → Nat → Int) (p q : Nat → Int) (hp : okP p) (hq : okP q) (hH : HoA tys M h nl lf) (ha : M a = some (oPl p)) (hb : M b = some (oPl q)) : pT l y_Ho_secondsBetween b_Ho_secondsBetween 6 (some .int) { frames := 3, cells := 0, slots := 0, locals := 66 } D tys A [.ref h, .ref a, .ref b] M (qP (fun z => z = sWay nl lf p q)) := by
  refine met_of (own := R_Ho) (lv := [(0, .ref h), (1, .ref a), (2, .ref b)]) rfl (by decide) (Nat.le_of_ble_eq_true rfl) rfl ?_
  intro p_ e_ s_ m_ bl_ me_ c_ C hr hin
  obtain ⟨hnl, hok, pa, la, np, gl, hh, hla, hlf⟩ := hH
  obtain ⟨-, -, -, hT3, -⟩ := hT
  have hp2 := hp
  have hq2 := hq
  unfold okP at hp2 hq2
  refine g_aload_n C d_Ho_secondsBetween_0 1 rfl ?_
  refine g_get C f_Ho_34 ha rfl d_Ho_secondsBetween_1 ?_
  refine g_aload_n C d_Ho_secondsBetween_4 2 rfl ?_
  refine g_get C f_Ho_34 hb rfl d_Ho_secondsBetween_5 ?_
  refine g_icmp_ne C 24 d_Ho_secondsBetween_8 rfl (by omega) (fun c1 => ?_) (fun c1 => ?_)
  · refine g_iconst C d_Ho_secondsBetween_24 ?_
    refine g_istore_n (lv' := [(3, .int (iI ((-1)))), (0, .ref h), (1, .ref a), (2, .ref b)]) C d_Ho_secondsBetween_25 (by decide) rfl ?_
    refine g_iconst C d_Ho_secondsBetween_26 ?_
    refine g_istore (lv' := [(4, .int (iI 0)), (3, .int (iI ((-1)))), (0, .ref h), (1, .ref a), (2, .ref b)]) C d_Ho_secondsBetween_27 (by decide) rfl ?_
    refine g_sub [2, 3, 4, 1, 0] rfl (g_loop (σ := Nat) (fun x => nl - x) (fun x => (x ≤ nl)) (fun x => [(0, .ref h), (1, .ref a), (2, .ref b), (3, .int (iI (sWayL lf p q x))), (4, .int (iI ((x : Int))))]) (fun x => M) ?_ (0) (Nat.zero_le _))
    intro x_ hI ih29
    obtain ⟨k, rfl⟩ : ∃ z, z = x_ := ⟨_, rfl⟩
    try dsimp only at hI ih29 ⊢
    obtain hk0 := hI
    refine g_iload C d_Ho_secondsBetween_29 4 rfl ?_
    refine g_aload_n C d_Ho_secondsBetween_31 0 rfl ?_
    refine g_get C f_Ho_27 hh rfl d_Ho_secondsBetween_32 ?_
    refine g_icmp_ge C 103 d_Ho_secondsBetween_35 rfl (by omega) (fun c2 => ?_) (fun c2 => ?_)
    · refine g_iload_n C d_Ho_secondsBetween_103 3 rfl ?_
      exact g_iretP C hr d_Ho_secondsBetween_104 (by unfold sWay; rw [if_neg (by omega), show k = nl by omega])
    · have hk : k < nl := by omega
      obtain ⟨xk, hxk, hck⟩ := hlf k hk
      have hok9 := hok k hk
      have hok8 := hok9
      unfold okL at hok8
      have hsb := sLift_b hok9 hp hq
      have hwb := sWayL_b (nl := k) (fun j hj => hok j (by omega)) hp hq
      refine g_aload_n C d_Ho_secondsBetween_38 0 rfl ?_
      refine g_get C f_Ho_19 hh rfl d_Ho_secondsBetween_39 ?_
      refine g_iload C d_Ho_secondsBetween_42 4 rfl ?_
      refine g_aald C 3 hT3 hla (by omega) hxk d_Ho_secondsBetween_44 ?_
      refine g_aload_n C d_Ho_secondsBetween_45 1 rfl ?_
      refine g_calliP C (run_V C [.ref a] k_Ho_47 (ct_Li_comesTo l D tys A M xk a (lf k) p hok9 hp hck ha) hck ⟨rfl, rfl, Nat.le_of_ble_eq_true rfl, Nat.le_of_ble_eq_true rfl⟩ rfl rfl (Nat.le_of_ble_eq_true rfl) d_Ho_secondsBetween_46 ⟨Nat.le_of_ble_eq_true rfl, Nat.le_of_ble_eq_true rfl⟩) (fun z3 hz3 => ?_)
      refine g_if_eq C 97 d_Ho_secondsBetween_49 rfl (by omega) (fun c4 => ?_) (fun c4 => ?_)
      · refine g_iinc (lv' := [(4, .int (iI (((k : Int)) + 1))), (0, .ref h), (1, .ref a), (2, .ref b), (3, .int (iI (sWayL lf p q k)))]) C d_Ho_secondsBetween_97 4 rfl (by decide) rfl ?_
        refine g_goto C 29 d_Ho_secondsBetween_100 rfl ?_
        have hE : sWayL lf p q (k + 1) = sWayL lf p q k := by
          rw [sWayL.eq_2, if_neg (by omega)]
        rw [← hE]
        exact g_sub [1, 2, 3, 4, 0] rfl (ih29 (k + 1) (by omega) (by first | omega | (dsimp only; omega)))
      · refine g_aload_n C d_Ho_secondsBetween_52 0 rfl ?_
        refine g_get C f_Ho_19 hh rfl d_Ho_secondsBetween_53 ?_
        refine g_iload C d_Ho_secondsBetween_56 4 rfl ?_
        refine g_aald C 3 hT3 hla (by omega) hxk d_Ho_secondsBetween_58 ?_
        refine g_aload_n C d_Ho_secondsBetween_59 2 rfl ?_
        refine g_calliP C (run_V C [.ref b] k_Ho_47 (ct_Li_comesTo l D tys A M xk b (lf k) q hok9 hq hck hb) hck ⟨rfl, rfl, Nat.le_of_ble_eq_true rfl, Nat.le_of_ble_eq_true rfl⟩ rfl rfl (Nat.le_of_ble_eq_true rfl) d_Ho_secondsBetween_60 ⟨Nat.le_of_ble_eq_true rfl, Nat.le_of_ble_eq_true rfl⟩) (fun z5 hz5 => ?_)
        refine g_if_eq C 97 d_Ho_secondsBetween_63 rfl (by omega) (fun c6 => ?_) (fun c6 => ?_)
        · refine g_iinc (lv' := [(4, .int (iI (((k : Int)) + 1))), (0, .ref h), (1, .ref a), (2, .ref b), (3, .int (iI (sWayL lf p q k)))]) C d_Ho_secondsBetween_97 4 rfl (by decide) rfl ?_
          refine g_goto C 29 d_Ho_secondsBetween_100 rfl ?_
          have hE : sWayL lf p q (k + 1) = sWayL lf p q k := by
            rw [sWayL.eq_2, if_neg (by omega)]
          rw [← hE]
          exact g_sub [1, 2, 3, 4, 0] rfl (ih29 (k + 1) (by omega) (by first | omega | (dsimp only; omega)))
        · refine g_aload_n C d_Ho_secondsBetween_66 0 rfl ?_
          refine g_get C f_Ho_19 hh rfl d_Ho_secondsBetween_67 ?_
          refine g_iload C d_Ho_secondsBetween_70 4 rfl ?_
          refine g_aald C 3 hT3 hla (by omega) hxk d_Ho_secondsBetween_72 ?_
          refine g_aload_n C d_Ho_secondsBetween_73 1 rfl ?_
          refine g_aload_n C d_Ho_secondsBetween_74 2 rfl ?_
          refine g_calliP C (run_V C [.ref a, .ref b] k_Ho_51 (ct_Li_secondsBetween l D tys A M xk a b (lf k) p q hok9 hp hq hck ha hb) hck ⟨rfl, rfl, Nat.le_of_ble_eq_true rfl, Nat.le_of_ble_eq_true rfl⟩ rfl rfl (Nat.le_of_ble_eq_true rfl) d_Ho_secondsBetween_75 ⟨Nat.le_of_ble_eq_true rfl, Nat.le_of_ble_eq_true rfl⟩) (fun z7 hz7 => ?_)
          refine g_istore (lv' := [(5, .int (iI z7)), (0, .ref h), (1, .ref a), (2, .ref b), (3, .int (iI (sWayL lf p q k))), (4, .int (iI ((k : Int))))]) C d_Ho_secondsBetween_78 (by decide) rfl ?_
          refine g_iload_n C d_Ho_secondsBetween_80 4 rfl ?_
          refine g_iconst C d_Ho_secondsBetween_81 ?_
          refine g_icmp_ne C 90 d_Ho_secondsBetween_82 rfl (by omega) (fun c8 => ?_) (fun c8 => ?_)
          · refine g_iload_n C d_Ho_secondsBetween_90 4 rfl ?_
            refine g_iload C d_Ho_secondsBetween_91 0 rfl ?_
            refine g_mmin C k_Ho_55 (by omega) ⟨Nat.le_of_ble_eq_true rfl, Nat.le_of_ble_eq_true rfl, Nat.le_of_ble_eq_true rfl, Nat.le_of_ble_eq_true rfl⟩ d_Ho_secondsBetween_93 ?_
            obtain ⟨z9, ez9⟩ : ∃ z : Int, z = if z7 < sWayL lf p q k then z7 else sWayL lf p q k := ⟨_, rfl⟩
            rw [← ez9]
            have hz9 : (z7 < sWayL lf p q k ∧ z9 = z7) ∨ (¬ z7 < sWayL lf p q k ∧ z9 = sWayL lf p q k) := by rw [ez9]; split <;> omega
            refine g_istore_n (lv' := [(3, .int (iI z9)), (5, .int (iI z7)), (0, .ref h), (1, .ref a), (2, .ref b), (4, .int (iI ((k : Int))))]) C d_Ho_secondsBetween_96 (by decide) rfl ?_
            refine g_iinc (lv' := [(4, .int (iI (((k : Int)) + 1))), (3, .int (iI z9)), (5, .int (iI z7)), (0, .ref h), (1, .ref a), (2, .ref b)]) C d_Ho_secondsBetween_97 5 rfl (by decide) rfl ?_
            refine g_goto C 29 d_Ho_secondsBetween_100 rfl ?_
            have hE : z9 = sWayL lf p q (k + 1) := by
              rw [sWayL.eq_2, if_pos (by omega)]
              first | (rw [if_pos (by omega)]; omega) | (rw [if_neg (by omega)]; split <;> omega)
            rw [hE]
            exact g_sub [3, 4, 5, 1, 0] rfl (ih29 (k + 1) (by omega) (by first | omega | (dsimp only; omega)))
          · refine g_iload C d_Ho_secondsBetween_85 0 rfl ?_
            refine g_goto C 96 d_Ho_secondsBetween_87 rfl ?_
            refine g_istore_n (lv' := [(3, .int (iI z7)), (5, .int (iI z7)), (0, .ref h), (1, .ref a), (2, .ref b), (4, .int (iI ((k : Int))))]) C d_Ho_secondsBetween_96 (by decide) rfl ?_
            refine g_iinc (lv' := [(4, .int (iI (((k : Int)) + 1))), (3, .int (iI z7)), (5, .int (iI z7)), (0, .ref h), (1, .ref a), (2, .ref b)]) C d_Ho_secondsBetween_97 5 rfl (by decide) rfl ?_
            refine g_goto C 29 d_Ho_secondsBetween_100 rfl ?_
            have hE : z7 = sWayL lf p q (k + 1) := by
              rw [sWayL.eq_2, if_pos (by omega)]
              first | (rw [if_pos (by omega)]; omega) | (rw [if_neg (by omega)]; split <;> omega)
            rw [hE]
            exact g_sub [3, 4, 5, 1, 0] rfl (ih29 (k + 1) (by omega) (by first | omega | (dsimp only; omega)))
  · refine g_aload_n C d_Ho_secondsBetween_11 1 rfl ?_
    refine g_aload_n C d_Ho_secondsBetween_12 2 rfl ?_
    refine g_get C f_Ho_37 hb rfl d_Ho_secondsBetween_13 ?_
    refine g_aload_n C d_Ho_secondsBetween_16 2 rfl ?_
    refine g_get C f_Ho_40 hb rfl d_Ho_secondsBetween_17 ?_
    refine g_calliP C (run_V C [.int (iI (q 1)), .int (iI (q 2))] k_Ho_43 (ct_Pl_secondsTo l D tys A M a p (q 1) (q 2) hp (by omega) ha) ha ⟨rfl, rfl, Nat.le_of_ble_eq_true rfl, Nat.le_of_ble_eq_true rfl⟩ rfl rfl (Nat.le_of_ble_eq_true rfl) d_Ho_secondsBetween_20 ⟨Nat.le_of_ble_eq_true rfl, Nat.le_of_ble_eq_true rfl⟩) (fun z10 hz10 => ?_)
    exact g_iretP C hr d_Ho_secondsBetween_23 (by unfold sWay; rw [if_pos (by omega)]; assumption)
end
section
/-! SMALL MAKERS AND WRITERS of the class: written by program (wip/whole/gen/mut.py) -/
set_option maxHeartbeats 4000000 in
set_option maxRecDepth 100000 in
theorem ct_Pl_init (l : Launch) (D : va_G) (tys : xK) (A : Nat → Prop) (M : Wm) (a : Nat) (f x y : Int) (h : M a = some (.inr (4, [.int (iI 0), .int (iI 0), .int (iI 0)]))) : mT l y_Pl_init b_Pl_init 4 none { frames := 1, cells := 0, slots := 0, locals := 21 } D tys A [.ref a, .int (iI f), .int (iI x), .int (iI y)] M (qV D A (fun M' => M' = va_up M a (some (.inr (4, [.int (iI f), .int (iI x), .int (iI y)]))))) 0 0 := by
  refine met_of (own := R_Pl) (lv := [(0, .ref a), (1, .int (iI f)), (2, .int (iI x)), (3, .int (iI y))]) rfl (by decide) (Nat.le_of_ble_eq_true rfl) rfl ?_
  intro p_ e_ s_ m_ bl_ me_ c_ C hr hin
  refine g_aload_n C d_Pl_init_0 0 rfl ?_
  refine g_objInit C oi_Pl_1 ⟨Nat.le_of_ble_eq_true rfl, Nat.le_of_ble_eq_true rfl⟩ d_Pl_init_1 ?_
  refine g_aload_n C d_Pl_init_4 0 rfl ?_
  refine g_iload_n C d_Pl_init_5 1 rfl ?_
  refine g_putF C hin p_Pl_7 h rfl rfl (Nat.le_of_ble_eq_true rfl) (fs' := [.int (iI f), .int (iI 0), .int (iI 0)]) rfl d_Pl_init_6 ?_
  refine g_aload_n C d_Pl_init_9 0 rfl ?_
  refine g_iload_n C d_Pl_init_10 2 rfl ?_
  refine g_putF C hin p_Pl_13 wd_up_s rfl rfl (Nat.le_of_ble_eq_true rfl) (fs' := [.int (iI f), .int (iI x), .int (iI 0)]) rfl d_Pl_init_11 ?_
  refine g_world (bx_uu _ _ _ _) ?_
  refine g_aload_n C d_Pl_init_14 0 rfl ?_
  refine g_iload_n C d_Pl_init_15 3 rfl ?_
  refine g_putF C hin p_Pl_16 wd_up_s rfl rfl (Nat.le_of_ble_eq_true rfl) (fs' := [.int (iI f), .int (iI x), .int (iI y)]) rfl d_Pl_init_16 ?_
  refine g_world (bx_uu _ _ _ _) ?_
  exact g_vret C hr d_Pl_init_19 rfl
set_option maxHeartbeats 4000000 in
set_option maxRecDepth 100000 in
theorem ct_Li_init (l : Launch) (D : va_G) (tys : xK) (A : Nat → Prop) (M : Wm) (a : Nat) (u : Int) (v : Int) (w : Int) (x : Int) (y : Int) (z : Int) (h : M a = some (.inr (1, [.int (iI 0), .int (iI 0), .int (iI 0), .int (iI 0), .int (iI 0), .int (iI 0)]))) : mT l y_Li_init b_Li_init 7 none { frames := 1, cells := 0, slots := 0, locals := 21 } D tys A [.ref a, .int (iI u), .int (iI v), .int (iI w), .int (iI x), .int (iI y), .int (iI z)] M (qV D A (fun M' => M' = va_up M a (some (.inr (1, [.int (iI u), .int (iI v), .int (iI w), .int (iI x), .int (iI y), .int (iI z)]))))) 0 0 := by
  refine met_of (own := R_Li) (lv := [(0, .ref a), (1, .int (iI u)), (2, .int (iI v)), (3, .int (iI w)), (4, .int (iI x)), (5, .int (iI y)), (6, .int (iI z))]) rfl (by decide) (Nat.le_of_ble_eq_true rfl) rfl ?_
  intro p_ e_ s_ m_ bl_ me_ c_ C hr hin
  refine g_aload_n C d_Li_init_0 0 rfl ?_
  refine g_objInit C oi_Li_1 ⟨Nat.le_of_ble_eq_true rfl, Nat.le_of_ble_eq_true rfl⟩ d_Li_init_1 ?_
  refine g_aload_n C d_Li_init_4 0 rfl ?_
  refine g_iload_n C d_Li_init_5 1 rfl ?_
  refine g_putF C hin p_Li_7 h rfl rfl (Nat.le_of_ble_eq_true rfl) (fs' := [.int (iI u), .int (iI 0), .int (iI 0), .int (iI 0), .int (iI 0), .int (iI 0)]) rfl d_Li_init_6 ?_
  refine g_aload_n C d_Li_init_9 0 rfl ?_
  refine g_iload_n C d_Li_init_10 2 rfl ?_
  refine g_putF C hin p_Li_13 wd_up_s rfl rfl (Nat.le_of_ble_eq_true rfl) (fs' := [.int (iI u), .int (iI v), .int (iI 0), .int (iI 0), .int (iI 0), .int (iI 0)]) rfl d_Li_init_11 ?_
  refine g_world (bx_uu _ _ _ _) ?_
  refine g_aload_n C d_Li_init_14 0 rfl ?_
  refine g_iload_n C d_Li_init_15 3 rfl ?_
  refine g_putF C hin p_Li_16 wd_up_s rfl rfl (Nat.le_of_ble_eq_true rfl) (fs' := [.int (iI u), .int (iI v), .int (iI w), .int (iI 0), .int (iI 0), .int (iI 0)]) rfl d_Li_init_16 ?_
  refine g_world (bx_uu _ _ _ _) ?_
  refine g_aload_n C d_Li_init_19 0 rfl ?_
  refine g_iload C d_Li_init_20 4 rfl ?_
  refine g_putF C hin p_Li_19 wd_up_s rfl rfl (Nat.le_of_ble_eq_true rfl) (fs' := [.int (iI u), .int (iI v), .int (iI w), .int (iI x), .int (iI 0), .int (iI 0)]) rfl d_Li_init_22 ?_
  refine g_world (bx_uu _ _ _ _) ?_
  refine g_aload_n C d_Li_init_25 0 rfl ?_
  refine g_iload C d_Li_init_26 5 rfl ?_
  refine g_putF C hin p_Li_22 wd_up_s rfl rfl (Nat.le_of_ble_eq_true rfl) (fs' := [.int (iI u), .int (iI v), .int (iI w), .int (iI x), .int (iI y), .int (iI 0)]) rfl d_Li_init_28 ?_
  refine g_world (bx_uu _ _ _ _) ?_
  refine g_aload_n C d_Li_init_31 0 rfl ?_
  refine g_iload C d_Li_init_32 6 rfl ?_
  refine g_putF C hin p_Li_25 wd_up_s rfl rfl (Nat.le_of_ble_eq_true rfl) (fs' := [.int (iI u), .int (iI v), .int (iI w), .int (iI x), .int (iI y), .int (iI z)]) rfl d_Li_init_34 ?_
  refine g_world (bx_uu _ _ _ _) ?_
  exact g_vret C hr d_Li_init_37 rfl
set_option maxHeartbeats 4000000 in
set_option maxRecDepth 100000 in
theorem ct_Pt_init (l : Launch) (D : va_G) (tys : xK) (A : Nat → Prop) (M : Wm) (a : Nat) (n : Int) (pa : Nat) (t0 : Int) (t1 : Int) (t2 : Int) (t3 : Int) (t4 : Int) (h : M a = some (.inr (2, [.int (iI 0), .null, .int (iI 0), .int (iI 0), .int (iI 0), .int (iI 0), .int (iI 0), .int (iI 0), .int (iI 0), .int (iI 0), .int (iI 0)]))) : mT l y_Pt_init b_Pt_init 8 none { frames := 1, cells := 0, slots := 0, locals := 21 } D tys A [.ref a, .int (iI n), .ref pa, .int (iI t0), .int (iI t1), .int (iI t2), .int (iI t3), .int (iI t4)] M (qV D A (fun M' => M' = va_up M a (some (.inr (2, [.int (iI n), .ref pa, .int (iI t0), .int (iI t1), .int (iI t2), .int (iI t3), .int (iI t4), .int (iI 0), .int (iI 0), .int (iI 0), .int (iI ((-1)))]))))) 0 0 := by
  refine met_of (own := R_Pt) (lv := [(0, .ref a), (1, .int (iI n)), (2, .ref pa), (3, .int (iI t0)), (4, .int (iI t1)), (5, .int (iI t2)), (6, .int (iI t3)), (7, .int (iI t4))]) rfl (by decide) (Nat.le_of_ble_eq_true rfl) rfl ?_
  intro p_ e_ s_ m_ bl_ me_ c_ C hr hin
  refine g_aload_n C d_Pt_init_0 0 rfl ?_
  refine g_objInit C oi_Pt_3 ⟨Nat.le_of_ble_eq_true rfl, Nat.le_of_ble_eq_true rfl⟩ d_Pt_init_1 ?_
  refine g_aload_n C d_Pt_init_4 0 rfl ?_
  refine g_iconst C d_Pt_init_5 ?_
  refine g_put C p_Pt_9 h rfl rfl (Nat.le_of_ble_eq_true rfl) (fs' := [.int (iI 0), .null, .int (iI 0), .int (iI 0), .int (iI 0), .int (iI 0), .int (iI 0), .int (iI 0), .int (iI 0), .int (iI 0), .int (iI 0)]) rfl d_Pt_init_6 ?_
  refine g_aload_n C d_Pt_init_9 0 rfl ?_
  refine g_iconst C d_Pt_init_10 ?_
  refine g_put C p_Pt_15 wd_up_s rfl rfl (Nat.le_of_ble_eq_true rfl) (fs' := [.int (iI 0), .null, .int (iI 0), .int (iI 0), .int (iI 0), .int (iI 0), .int (iI 0), .int (iI 0), .int (iI 0), .int (iI 0), .int (iI 0)]) rfl d_Pt_init_11 ?_
  refine g_world (bx_uu _ _ _ _) ?_
  refine g_aload_n C d_Pt_init_14 0 rfl ?_
  refine g_iconst C d_Pt_init_15 ?_
  refine g_put C p_Pt_18 wd_up_s rfl rfl (Nat.le_of_ble_eq_true rfl) (fs' := [.int (iI 0), .null, .int (iI 0), .int (iI 0), .int (iI 0), .int (iI 0), .int (iI 0), .int (iI 0), .int (iI 0), .int (iI 0), .int (iI 0)]) rfl d_Pt_init_16 ?_
  refine g_world (bx_uu _ _ _ _) ?_
  refine g_aload_n C d_Pt_init_19 0 rfl ?_
  refine g_iconst C d_Pt_init_20 ?_
  refine g_put C p_Pt_21 wd_up_s rfl rfl (Nat.le_of_ble_eq_true rfl) (fs' := [.int (iI 0), .null, .int (iI 0), .int (iI 0), .int (iI 0), .int (iI 0), .int (iI 0), .int (iI 0), .int (iI 0), .int (iI 0), .int (iI ((-1)))]) rfl d_Pt_init_21 ?_
  refine g_world (bx_uu _ _ _ _) ?_
  refine g_aload_n C d_Pt_init_24 0 rfl ?_
  refine g_iload_n C d_Pt_init_25 1 rfl ?_
  refine g_putF C hin p_Pt_24 wd_up_s rfl rfl (Nat.le_of_ble_eq_true rfl) (fs' := [.int (iI n), .null, .int (iI 0), .int (iI 0), .int (iI 0), .int (iI 0), .int (iI 0), .int (iI 0), .int (iI 0), .int (iI 0), .int (iI ((-1)))]) rfl d_Pt_init_26 ?_
  refine g_world (bx_uu _ _ _ _) ?_
  refine g_aload_n C d_Pt_init_29 0 rfl ?_
  refine g_aload_n C d_Pt_init_30 2 rfl ?_
  refine g_putF C hin p_Pt_27 wd_up_s rfl rfl (Nat.le_of_ble_eq_true rfl) (fs' := [.int (iI n), .ref pa, .int (iI 0), .int (iI 0), .int (iI 0), .int (iI 0), .int (iI 0), .int (iI 0), .int (iI 0), .int (iI 0), .int (iI ((-1)))]) rfl d_Pt_init_31 ?_
  refine g_world (bx_uu _ _ _ _) ?_
  refine g_aload_n C d_Pt_init_34 0 rfl ?_
  refine g_iload_n C d_Pt_init_35 3 rfl ?_
  refine g_putF C hin p_Pt_31 wd_up_s rfl rfl (Nat.le_of_ble_eq_true rfl) (fs' := [.int (iI n), .ref pa, .int (iI t0), .int (iI 0), .int (iI 0), .int (iI 0), .int (iI 0), .int (iI 0), .int (iI 0), .int (iI 0), .int (iI ((-1)))]) rfl d_Pt_init_36 ?_
  refine g_world (bx_uu _ _ _ _) ?_
  refine g_aload_n C d_Pt_init_39 0 rfl ?_
  refine g_iload C d_Pt_init_40 4 rfl ?_
  refine g_putF C hin p_Pt_34 wd_up_s rfl rfl (Nat.le_of_ble_eq_true rfl) (fs' := [.int (iI n), .ref pa, .int (iI t0), .int (iI t1), .int (iI 0), .int (iI 0), .int (iI 0), .int (iI 0), .int (iI 0), .int (iI 0), .int (iI ((-1)))]) rfl d_Pt_init_42 ?_
  refine g_world (bx_uu _ _ _ _) ?_
  refine g_aload_n C d_Pt_init_45 0 rfl ?_
  refine g_iload C d_Pt_init_46 5 rfl ?_
  refine g_putF C hin p_Pt_37 wd_up_s rfl rfl (Nat.le_of_ble_eq_true rfl) (fs' := [.int (iI n), .ref pa, .int (iI t0), .int (iI t1), .int (iI t2), .int (iI 0), .int (iI 0), .int (iI 0), .int (iI 0), .int (iI 0), .int (iI ((-1)))]) rfl d_Pt_init_48 ?_
  refine g_world (bx_uu _ _ _ _) ?_
  refine g_aload_n C d_Pt_init_51 0 rfl ?_
  refine g_iload C d_Pt_init_52 6 rfl ?_
  refine g_putF C hin p_Pt_40 wd_up_s rfl rfl (Nat.le_of_ble_eq_true rfl) (fs' := [.int (iI n), .ref pa, .int (iI t0), .int (iI t1), .int (iI t2), .int (iI t3), .int (iI 0), .int (iI 0), .int (iI 0), .int (iI 0), .int (iI ((-1)))]) rfl d_Pt_init_54 ?_
  refine g_world (bx_uu _ _ _ _) ?_
  refine g_aload_n C d_Pt_init_57 0 rfl ?_
  refine g_iload C d_Pt_init_58 7 rfl ?_
  refine g_putF C hin p_Pt_43 wd_up_s rfl rfl (Nat.le_of_ble_eq_true rfl) (fs' := [.int (iI n), .ref pa, .int (iI t0), .int (iI t1), .int (iI t2), .int (iI t3), .int (iI t4), .int (iI 0), .int (iI 0), .int (iI 0), .int (iI ((-1)))]) rfl d_Pt_init_60 ?_
  refine g_world (bx_uu _ _ _ _) ?_
  exact g_vret C hr d_Pt_init_63 rfl
set_option maxHeartbeats 4000000 in
set_option maxRecDepth 100000 in
theorem ct_Pe_init (l : Launch) (D : va_G) (tys : xK) (A : Nat → Prop) (M : Wm) (a : Nat) (n : Int) (s0 : Int) (ha : Nat) (s1 : Int) (h : M a = some (.inr (3, [.int (iI 0), .int (iI 0), .null, .int (iI 0)]))) : mT l y_Pe_init b_Pe_init 5 none { frames := 1, cells := 0, slots := 0, locals := 21 } D tys A [.ref a, .int (iI n), .int (iI s0), .ref ha, .int (iI s1)] M (qV D A (fun M' => M' = va_up M a (some (.inr (3, [.int (iI n), .int (iI s0), .ref ha, .int (iI s1)]))))) 0 0 := by
  refine met_of (own := R_Pe) (lv := [(0, .ref a), (1, .int (iI n)), (2, .int (iI s0)), (3, .ref ha), (4, .int (iI s1))]) rfl (by decide) (Nat.le_of_ble_eq_true rfl) rfl ?_
  intro p_ e_ s_ m_ bl_ me_ c_ C hr hin
  refine g_aload_n C d_Pe_init_0 0 rfl ?_
  refine g_objInit C oi_Pe_1 ⟨Nat.le_of_ble_eq_true rfl, Nat.le_of_ble_eq_true rfl⟩ d_Pe_init_1 ?_
  refine g_aload_n C d_Pe_init_4 0 rfl ?_
  refine g_iload_n C d_Pe_init_5 1 rfl ?_
  refine g_putF C hin p_Pe_7 h rfl rfl (Nat.le_of_ble_eq_true rfl) (fs' := [.int (iI n), .int (iI 0), .null, .int (iI 0)]) rfl d_Pe_init_6 ?_
  refine g_aload_n C d_Pe_init_9 0 rfl ?_
  refine g_iload_n C d_Pe_init_10 2 rfl ?_
  refine g_putF C hin p_Pe_13 wd_up_s rfl rfl (Nat.le_of_ble_eq_true rfl) (fs' := [.int (iI n), .int (iI s0), .null, .int (iI 0)]) rfl d_Pe_init_11 ?_
  refine g_world (bx_uu _ _ _ _) ?_
  refine g_aload_n C d_Pe_init_14 0 rfl ?_
  refine g_aload_n C d_Pe_init_15 3 rfl ?_
  refine g_putF C hin p_Pe_16 wd_up_s rfl rfl (Nat.le_of_ble_eq_true rfl) (fs' := [.int (iI n), .int (iI s0), .ref ha, .int (iI 0)]) rfl d_Pe_init_16 ?_
  refine g_world (bx_uu _ _ _ _) ?_
  refine g_aload_n C d_Pe_init_19 0 rfl ?_
  refine g_iload C d_Pe_init_20 4 rfl ?_
  refine g_putF C hin p_Pe_20 wd_up_s rfl rfl (Nat.le_of_ble_eq_true rfl) (fs' := [.int (iI n), .int (iI s0), .ref ha, .int (iI s1)]) rfl d_Pe_init_22 ?_
  refine g_world (bx_uu _ _ _ _) ?_
  exact g_vret C hr d_Pe_init_25 rfl
set_option maxHeartbeats 4000000 in
set_option maxRecDepth 100000 in
theorem ct_Ho_hasPlace (l : Launch) (D : va_G) (tys : xK) (A : Nat → Prop) (M : Wm) (h pa la np nl : Nat) (z0 : Int) (h0 : (-2147483648 ≤ z0 ∧ z0 < 2147483648)) (hn : np ≤ 30) (hh : M h = some (.inr (0, [.ref pa, .ref la, .int (iI ((np : Int))), .int (iI ((nl : Int)))]))) : pT l y_Ho_hasPlace b_Ho_hasPlace 2 (some .boolean) { frames := 1, cells := 0, slots := 0, locals := 22 } D tys A [.ref h, .int (iI z0)] M (qP (fun z => (z = 1 ∧ 0 ≤ z0 ∧ z0 < np) ∨ (z = 0 ∧ ¬ (0 ≤ z0 ∧ z0 < np)))) := by
  refine met_of (own := R_Ho) (lv := [(0, .ref h), (1, .int (iI z0))]) rfl (by decide) (Nat.le_of_ble_eq_true rfl) rfl ?_
  intro p_ e_ s_ m_ bl_ me_ c_ C hr hin
  refine g_iload_n C d_Ho_hasPlace_0 1 rfl ?_
  refine g_iconst C d_Ho_hasPlace_1 ?_
  refine g_aload_n C d_Ho_hasPlace_2 0 rfl ?_
  refine g_get C f_Ho_23 hh rfl d_Ho_hasPlace_3 ?_
  refine g_iconst C d_Ho_hasPlace_6 ?_
  refine g_isub C d_Ho_hasPlace_7 ?_
  refine g_calliP C (run_S C [.int (iI z0), .int (iI 0), .int (iI (((np : Int)) - 1))] k_Ho_30 (ct_Ct_within l D tys A M z0 0 (((np : Int)) - 1) (by omega)) ⟨rfl, rfl, Nat.le_of_ble_eq_true rfl, Nat.le_of_ble_eq_true rfl⟩ rfl rfl (Nat.le_of_ble_eq_true rfl) d_Ho_hasPlace_8 ⟨Nat.le_of_ble_eq_true rfl, Nat.le_of_ble_eq_true rfl⟩) (fun z1 hz1 => ?_)
  exact g_zretP C hr (by omega) d_Ho_hasPlace_11 (by omega)
set_option maxHeartbeats 4000000 in
set_option maxRecDepth 100000 in
theorem ct_Ho_addPlace (l : Launch) (D : va_G) (tys : xK) (A : Nat → Prop) (M : Wm) (hT : tyOK tys) (h pa la np nl a : Nat) (g : Nat → Option Nat) (fs : List Value) (hn : np < 30) (hh : M h = some (.inr (0, [.ref pa, .ref la, .int (iI ((np : Int))), .int (iI ((nl : Int)))]))) (hg : M pa = some (.inl (tc tys 2, 30, .inr (.inr (.inr (.inr g)))))) (ha : M a = some (.inr (4, fs))) : mT l y_Ho_addPlace b_Ho_addPlace 3 (some .int) { frames := 0, cells := 0, slots := 0, locals := 0 } D tys A [.ref h, .ref a] M (qI D A (fun z M' => z = (np : Int) ∧ M' = va_up (va_up M pa (some (.inl (tc tys 2, 30, .inr (.inr (.inr (.inr (va_up g (np : Int).toNat (some a))))))))) h (some (.inr (0, [.ref pa, .ref la, .int (iI ((np : Int) + 1)), .int (iI ((nl : Int)))]))))) 0 0 := by
  refine met_of (own := R_Ho) (lv := [(0, .ref h), (1, .ref a)]) rfl (by decide) (Nat.le_of_ble_eq_true rfl) rfl ?_
  intro p_ e_ s_ m_ bl_ me_ c_ C hr hin
  obtain ⟨-, -, hT2, hT3, -⟩ := hT
  refine g_aload_n C d_Ho_addPlace_0 0 rfl ?_
  refine g_get C f_Ho_23 hh rfl d_Ho_addPlace_1 ?_
  refine g_istore_n (lv' := [(2, .int (iI ((np : Int)))), (0, .ref h), (1, .ref a)]) C d_Ho_addPlace_4 (by decide) rfl ?_
  refine g_aload_n C d_Ho_addPlace_5 1 rfl ?_
  refine g_get C f_Ho_11 hh rfl d_Ho_addPlace_6 ?_
  refine g_iload_n C d_Ho_addPlace_9 0 rfl ?_
  refine g_aload_n C d_Ho_addPlace_10 2 rfl ?_
  refine g_aast C 2 hT2 rfl hg ha (by omega) d_Ho_addPlace_11 ?_
  refine g_aload_n C d_Ho_addPlace_12 1 rfl ?_
  refine g_dup C rfl d_Ho_addPlace_13 ?_
  refine g_get C f_Ho_23 ((wd_up_n (ne_oa hh hg)).trans hh) rfl d_Ho_addPlace_14 ?_
  refine g_iconst C d_Ho_addPlace_17 ?_
  refine g_iadd C d_Ho_addPlace_18 ?_
  refine g_put C p_Ho_23 ((wd_up_n (ne_oa hh hg)).trans hh) rfl rfl (Nat.le_of_ble_eq_true rfl) (fs' := [.ref pa, .ref la, .int (iI (((np : Int)) + 1)), .int (iI ((nl : Int)))]) rfl d_Ho_addPlace_19 ?_
  refine g_iload_n C d_Ho_addPlace_22 0 rfl ?_
  exact g_iret C hr d_Ho_addPlace_23 ⟨rfl, rfl⟩
set_option maxHeartbeats 4000000 in
set_option maxRecDepth 100000 in
theorem ct_Ho_addLift (l : Launch) (D : va_G) (tys : xK) (A : Nat → Prop) (M : Wm) (hT : tyOK tys) (h pa la np nl a : Nat) (g : Nat → Option Nat) (fs : List Value) (hn : nl < 6) (hh : M h = some (.inr (0, [.ref pa, .ref la, .int (iI ((np : Int))), .int (iI ((nl : Int)))]))) (hg : M la = some (.inl (tc tys 3, 6, .inr (.inr (.inr (.inr g)))))) (ha : M a = some (.inr (1, fs))) : mT l y_Ho_addLift b_Ho_addLift 3 (some .int) { frames := 0, cells := 0, slots := 0, locals := 0 } D tys A [.ref h, .ref a] M (qI D A (fun z M' => z = (nl : Int) ∧ M' = va_up (va_up M la (some (.inl (tc tys 3, 6, .inr (.inr (.inr (.inr (va_up g (nl : Int).toNat (some a))))))))) h (some (.inr (0, [.ref pa, .ref la, .int (iI ((np : Int))), .int (iI ((nl : Int) + 1))]))))) 0 0 := by
  refine met_of (own := R_Ho) (lv := [(0, .ref h), (1, .ref a)]) rfl (by decide) (Nat.le_of_ble_eq_true rfl) rfl ?_
  intro p_ e_ s_ m_ bl_ me_ c_ C hr hin
  obtain ⟨-, -, hT2, hT3, -⟩ := hT
  refine g_aload_n C d_Ho_addLift_0 0 rfl ?_
  refine g_get C f_Ho_27 hh rfl d_Ho_addLift_1 ?_
  refine g_istore_n (lv' := [(2, .int (iI ((nl : Int)))), (0, .ref h), (1, .ref a)]) C d_Ho_addLift_4 (by decide) rfl ?_
  refine g_aload_n C d_Ho_addLift_5 1 rfl ?_
  refine g_get C f_Ho_19 hh rfl d_Ho_addLift_6 ?_
  refine g_iload_n C d_Ho_addLift_9 0 rfl ?_
  refine g_aload_n C d_Ho_addLift_10 2 rfl ?_
  refine g_aast C 3 hT3 rfl hg ha (by omega) d_Ho_addLift_11 ?_
  refine g_aload_n C d_Ho_addLift_12 1 rfl ?_
  refine g_dup C rfl d_Ho_addLift_13 ?_
  refine g_get C f_Ho_27 ((wd_up_n (ne_oa hh hg)).trans hh) rfl d_Ho_addLift_14 ?_
  refine g_iconst C d_Ho_addLift_17 ?_
  refine g_iadd C d_Ho_addLift_18 ?_
  refine g_put C p_Ho_27 ((wd_up_n (ne_oa hh hg)).trans hh) rfl rfl (Nat.le_of_ble_eq_true rfl) (fs' := [.ref pa, .ref la, .int (iI ((np : Int))), .int (iI (((nl : Int)) + 1))]) rfl d_Ho_addLift_19 ?_
  refine g_iload_n C d_Ho_addLift_22 0 rfl ?_
  exact g_iret C hr d_Ho_addLift_23 ⟨rfl, rfl⟩
set_option maxHeartbeats 4000000 in
set_option maxRecDepth 100000 in
theorem ct_Pt_addUse (l : Launch) (D : va_G) (tys : xK) (A : Nat → Prop) (M : Wm) (a : Nat) (n : Int) (pa : Nat) (t : Nat → Int) (d k : Int) (ht : okT t) (hd : 0 ≤ d ∧ d ≤ 100000) (hk : 1 ≤ k ∧ k ≤ 1000) (h : M a = some (oPt n pa t)) : mT l y_Pt_addUse b_Pt_addUse 3 none { frames := 0, cells := 0, slots := 0, locals := 0 } D tys A [.ref a, .int (iI d), .int (iI k)] M (qV D A (fun M' => ((t 8 = -1 ∧ t 3 ≤ t 6 + k) → M' = va_up M a (some (.inr (2, [.int (iI n), .ref pa, .int (iI (t 0)), .int (iI (t 1)), .int (iI (t 2)), .int (iI (t 3)), .int (iI (t 4)), .int (iI (t 5)), .int (iI (t 6 + k)), .int (iI d), .int (iI d)])))) ∧ (¬ (t 8 = -1 ∧ t 3 ≤ t 6 + k) → M' = va_up M a (some (.inr (2, [.int (iI n), .ref pa, .int (iI (t 0)), .int (iI (t 1)), .int (iI (t 2)), .int (iI (t 3)), .int (iI (t 4)), .int (iI (t 5)), .int (iI (t 6 + k)), .int (iI d), .int (iI (t 8))])))))) 0 0 := by
  refine met_of (own := R_Pt) (lv := [(0, .ref a), (1, .int (iI d)), (2, .int (iI k))]) rfl (by decide) (Nat.le_of_ble_eq_true rfl) rfl ?_
  intro p_ e_ s_ m_ bl_ me_ c_ C hr hin
  have ht2 := ht
  unfold okT at ht2
  refine g_aload_n C d_Pt_addUse_0 0 rfl ?_
  refine g_dup C rfl d_Pt_addUse_1 ?_
  refine g_get C f_Pt_15 h rfl d_Pt_addUse_2 ?_
  refine g_iload_n C d_Pt_addUse_5 2 rfl ?_
  refine g_iadd C d_Pt_addUse_6 ?_
  refine g_put C p_Pt_15 h rfl rfl (Nat.le_of_ble_eq_true rfl) (fs' := [.int (iI n), .ref pa, .int (iI (t 0)), .int (iI (t 1)), .int (iI (t 2)), .int (iI (t 3)), .int (iI (t 4)), .int (iI (t 5)), .int (iI ((t 6) + k)), .int (iI (t 7)), .int (iI (t 8))]) rfl d_Pt_addUse_7 ?_
  refine g_aload_n C d_Pt_addUse_10 0 rfl ?_
  refine g_iload_n C d_Pt_addUse_11 1 rfl ?_
  refine g_put C p_Pt_18 wd_up_s rfl rfl (Nat.le_of_ble_eq_true rfl) (fs' := [.int (iI n), .ref pa, .int (iI (t 0)), .int (iI (t 1)), .int (iI (t 2)), .int (iI (t 3)), .int (iI (t 4)), .int (iI (t 5)), .int (iI ((t 6) + k)), .int (iI d), .int (iI (t 8))]) rfl d_Pt_addUse_12 ?_
  refine g_world (bx_uu _ _ _ _) ?_
  refine g_aload_n C d_Pt_addUse_15 0 rfl ?_
  refine g_get C f_Pt_21 wd_up_s rfl d_Pt_addUse_16 ?_
  refine g_iconst C d_Pt_addUse_19 ?_
  refine g_icmp_ne C 39 d_Pt_addUse_20 rfl (by omega) (fun c1 => ?_) (fun c1 => ?_)
  · exact g_vret C hr d_Pt_addUse_39 ⟨fun _ => by first | rfl | omega, fun _ => by first | rfl | omega⟩
  · refine g_aload_n C d_Pt_addUse_23 0 rfl ?_
    refine g_get C f_Pt_15 wd_up_s rfl d_Pt_addUse_24 ?_
    refine g_aload_n C d_Pt_addUse_27 0 rfl ?_
    refine g_get C f_Pt_40 wd_up_s rfl d_Pt_addUse_28 ?_
    refine g_icmp_lt C 39 d_Pt_addUse_31 rfl (by omega) (fun c2 => ?_) (fun c2 => ?_)
    · exact g_vret C hr d_Pt_addUse_39 ⟨fun _ => by first | rfl | omega, fun _ => by first | rfl | omega⟩
    · refine g_aload_n C d_Pt_addUse_34 0 rfl ?_
      refine g_iload_n C d_Pt_addUse_35 1 rfl ?_
      refine g_put C p_Pt_21 wd_up_s rfl rfl (Nat.le_of_ble_eq_true rfl) (fs' := [.int (iI n), .ref pa, .int (iI (t 0)), .int (iI (t 1)), .int (iI (t 2)), .int (iI (t 3)), .int (iI (t 4)), .int (iI (t 5)), .int (iI ((t 6) + k)), .int (iI d), .int (iI d)]) rfl d_Pt_addUse_36 ?_
      refine g_world (bx_uu _ _ _ _) ?_
      exact g_vret C hr d_Pt_addUse_39 ⟨fun _ => by first | rfl | omega, fun _ => by first | rfl | omega⟩
set_option maxHeartbeats 4000000 in
set_option maxRecDepth 100000 in
theorem ct_Pt_renew (l : Launch) (D : va_G) (tys : xK) (A : Nat → Prop) (M : Wm) (a : Nat) (n : Int) (pa : Nat) (t : Nat → Int) (d : Int) (h : M a = some (oPt n pa t)) : mT l y_Pt_renew b_Pt_renew 2 none { frames := 0, cells := 0, slots := 0, locals := 0 } D tys A [.ref a, .int (iI d)] M (qV D A (fun M' => M' = va_up M a (some (.inr (2, [.int (iI n), .ref pa, .int (iI (t 0)), .int (iI (t 1)), .int (iI (t 2)), .int (iI (t 3)), .int (iI (t 4)), .int (iI d), .int (iI 0), .int (iI d), .int (iI ((-1)))]))))) 0 0 := by
  refine met_of (own := R_Pt) (lv := [(0, .ref a), (1, .int (iI d))]) rfl (by decide) (Nat.le_of_ble_eq_true rfl) rfl ?_
  intro p_ e_ s_ m_ bl_ me_ c_ C hr hin
  refine g_aload_n C d_Pt_renew_0 0 rfl ?_
  refine g_iload_n C d_Pt_renew_1 1 rfl ?_
  refine g_put C p_Pt_9 h rfl rfl (Nat.le_of_ble_eq_true rfl) (fs' := [.int (iI n), .ref pa, .int (iI (t 0)), .int (iI (t 1)), .int (iI (t 2)), .int (iI (t 3)), .int (iI (t 4)), .int (iI d), .int (iI (t 6)), .int (iI (t 7)), .int (iI (t 8))]) rfl d_Pt_renew_2 ?_
  refine g_aload_n C d_Pt_renew_5 0 rfl ?_
  refine g_iconst C d_Pt_renew_6 ?_
  refine g_put C p_Pt_15 wd_up_s rfl rfl (Nat.le_of_ble_eq_true rfl) (fs' := [.int (iI n), .ref pa, .int (iI (t 0)), .int (iI (t 1)), .int (iI (t 2)), .int (iI (t 3)), .int (iI (t 4)), .int (iI d), .int (iI 0), .int (iI (t 7)), .int (iI (t 8))]) rfl d_Pt_renew_7 ?_
  refine g_world (bx_uu _ _ _ _) ?_
  refine g_aload_n C d_Pt_renew_10 0 rfl ?_
  refine g_iload_n C d_Pt_renew_11 1 rfl ?_
  refine g_put C p_Pt_18 wd_up_s rfl rfl (Nat.le_of_ble_eq_true rfl) (fs' := [.int (iI n), .ref pa, .int (iI (t 0)), .int (iI (t 1)), .int (iI (t 2)), .int (iI (t 3)), .int (iI (t 4)), .int (iI d), .int (iI 0), .int (iI d), .int (iI (t 8))]) rfl d_Pt_renew_12 ?_
  refine g_world (bx_uu _ _ _ _) ?_
  refine g_aload_n C d_Pt_renew_15 0 rfl ?_
  refine g_iconst C d_Pt_renew_16 ?_
  refine g_put C p_Pt_21 wd_up_s rfl rfl (Nat.le_of_ble_eq_true rfl) (fs' := [.int (iI n), .ref pa, .int (iI (t 0)), .int (iI (t 1)), .int (iI (t 2)), .int (iI (t 3)), .int (iI (t 4)), .int (iI d), .int (iI 0), .int (iI d), .int (iI ((-1)))]) rfl d_Pt_renew_17 ?_
  refine g_world (bx_uu _ _ _ _) ?_
  exact g_vret C hr d_Pt_renew_20 rfl
set_option maxHeartbeats 4000000 in
set_option maxRecDepth 100000 in
theorem ct_To_end (l : Launch) (D : va_G) (tys : xK) (A : Nat → Prop) (M : Wm) (a oa : Nat) (go : Option Nat) (dy cn dn wk wo : Int) (h : M a = some (.inr (6, [.ref oa, va_rf go, .int (iI dy), .int (iI cn), .int (iI dn), .int (iI wk), .int (iI wo)]))) : mT l y_To_end b_To_end 1 none { frames := 0, cells := 0, slots := 0, locals := 0 } D tys A [.ref a] M (qV D A (fun M' => M' = va_up M a (some (.inr (6, [.ref oa, .null, .int (iI dy), .int (iI 0), .int (iI 0), .int (iI 0), .int (iI 0)]))))) 0 0 := by
  refine met_of (own := R_To) (lv := [(0, .ref a)]) rfl (by decide) (Nat.le_of_ble_eq_true rfl) rfl ?_
  intro p_ e_ s_ m_ bl_ me_ c_ C hr hin
  refine g_aload_n C d_To_end_0 0 rfl ?_
  refine g_null C d_To_end_1 ?_
  refine g_put C p_To_17 h rfl rfl (Nat.le_of_ble_eq_true rfl) (fs' := [.ref oa, .null, .int (iI dy), .int (iI cn), .int (iI dn), .int (iI wk), .int (iI wo)]) rfl d_To_end_2 ?_
  refine g_aload_n C d_To_end_5 0 rfl ?_
  refine g_iconst C d_To_end_6 ?_
  refine g_put C p_To_25 wd_up_s rfl rfl (Nat.le_of_ble_eq_true rfl) (fs' := [.ref oa, .null, .int (iI dy), .int (iI 0), .int (iI dn), .int (iI wk), .int (iI wo)]) rfl d_To_end_7 ?_
  refine g_world (bx_uu _ _ _ _) ?_
  refine g_aload_n C d_To_end_10 0 rfl ?_
  refine g_iconst C d_To_end_11 ?_
  refine g_put C p_To_28 wd_up_s rfl rfl (Nat.le_of_ble_eq_true rfl) (fs' := [.ref oa, .null, .int (iI dy), .int (iI 0), .int (iI 0), .int (iI wk), .int (iI wo)]) rfl d_To_end_12 ?_
  refine g_world (bx_uu _ _ _ _) ?_
  refine g_aload_n C d_To_end_15 0 rfl ?_
  refine g_iconst C d_To_end_16 ?_
  refine g_put C p_To_31 wd_up_s rfl rfl (Nat.le_of_ble_eq_true rfl) (fs' := [.ref oa, .null, .int (iI dy), .int (iI 0), .int (iI 0), .int (iI 0), .int (iI wo)]) rfl d_To_end_17 ?_
  refine g_world (bx_uu _ _ _ _) ?_
  refine g_aload_n C d_To_end_20 0 rfl ?_
  refine g_iconst C d_To_end_21 ?_
  refine g_put C p_To_34 wd_up_s rfl rfl (Nat.le_of_ble_eq_true rfl) (fs' := [.ref oa, .null, .int (iI dy), .int (iI 0), .int (iI 0), .int (iI 0), .int (iI 0)]) rfl d_To_end_22 ?_
  refine g_world (bx_uu _ _ _ _) ?_
  exact g_vret C hr d_To_end_25 rfl
set_option maxHeartbeats 4000000 in
set_option maxRecDepth 100000 in
theorem ct_To_begin (l : Launch) (D : va_G) (tys : xK) (A : Nat → Prop) (M : Wm) (a oa b : Nat) (go : Option Nat) (dy cn dn wk wo d : Int) (h : M a = some (.inr (6, [.ref oa, va_rf go, .int (iI dy), .int (iI cn), .int (iI dn), .int (iI wk), .int (iI wo)]))) : mT l y_To_begin b_To_begin 3 none { frames := 1, cells := 0, slots := 0, locals := 20 } D tys A [.ref a, .ref b, .int (iI d)] M (qV D A (fun M' => M' = va_up M a (some (.inr (6, [.ref oa, .ref b, .int (iI d), .int (iI 0), .int (iI 0), .int (iI 0), .int (iI 0)]))))) 0 0 := by
  refine met_of (own := R_To) (lv := [(0, .ref a), (1, .ref b), (2, .int (iI d))]) rfl (by decide) (Nat.le_of_ble_eq_true rfl) rfl ?_
  intro p_ e_ s_ m_ bl_ me_ c_ C hr hin
  refine g_aload_n C d_To_begin_0 0 rfl ?_
  refine g_callv C (run_V C [] k_To_37 (ct_To_end l D tys A M a oa go dy cn dn wk wo h) h ⟨rfl, rfl, Nat.le_of_ble_eq_true rfl, Nat.le_of_ble_eq_true rfl⟩ rfl rfl (Nat.le_of_ble_eq_true rfl) d_To_begin_1 ⟨Nat.le_of_ble_eq_true rfl, Nat.le_of_ble_eq_true rfl⟩) (fun M1 hM1 => ?_)
  subst hM1
  refine g_aload_n C d_To_begin_4 0 rfl ?_
  refine g_aload_n C d_To_begin_5 1 rfl ?_
  refine g_put C p_To_17 wd_up_s rfl rfl (Nat.le_of_ble_eq_true rfl) (fs' := [.ref oa, .ref b, .int (iI dy), .int (iI 0), .int (iI 0), .int (iI 0), .int (iI 0)]) rfl d_To_begin_6 ?_
  refine g_world (bx_uu _ _ _ _) ?_
  refine g_aload_n C d_To_begin_9 0 rfl ?_
  refine g_iload_n C d_To_begin_10 2 rfl ?_
  refine g_put C p_To_21 wd_up_s rfl rfl (Nat.le_of_ble_eq_true rfl) (fs' := [.ref oa, .ref b, .int (iI d), .int (iI 0), .int (iI 0), .int (iI 0), .int (iI 0)]) rfl d_To_begin_11 ?_
  refine g_world (bx_uu _ _ _ _) ?_
  exact g_vret C hr d_To_begin_14 rfl
set_option maxHeartbeats 4000000 in
set_option maxRecDepth 100000 in
theorem ct_Pn_clear (l : Launch) (D : va_G) (tys : xK) (A : Nat → Prop) (M : Wm) (a ca ga ra : Nat) (cn : Int) (h : M a = some (.inr (5, [.ref ca, .ref ga, .ref ra, .int (iI cn)]))) : mT l y_Pn_clear b_Pn_clear 1 none { frames := 0, cells := 0, slots := 0, locals := 0 } D tys A [.ref a] M (qV D A (fun M' => M' = va_up M a (some (.inr (5, [.ref ca, .ref ga, .ref ra, .int (iI 0)]))))) 0 0 := by
  refine met_of (own := R_Pn) (lv := [(0, .ref a)]) rfl (by decide) (Nat.le_of_ble_eq_true rfl) rfl ?_
  intro p_ e_ s_ m_ bl_ me_ c_ C hr hin
  refine g_aload_n C d_Pn_clear_0 0 rfl ?_
  refine g_iconst C d_Pn_clear_1 ?_
  refine g_put C p_Pn_24 h rfl rfl (Nat.le_of_ble_eq_true rfl) (fs' := [.ref ca, .ref ga, .ref ra, .int (iI 0)]) rfl d_Pn_clear_2 ?_
  exact g_vret C hr d_Pn_clear_5 rfl
set_option maxHeartbeats 4000000 in
set_option maxRecDepth 100000 in
theorem ct_Pn_isFull (l : Launch) (D : va_G) (tys : xK) (A : Nat → Prop) (M : Wm) (a ca ga ra : Nat) (cn : Int) (h0 : (-2147483648 ≤ cn ∧ cn < 2147483648)) (h : M a = some (.inr (5, [.ref ca, .ref ga, .ref ra, .int (iI cn)]))) : pT l y_Pn_isFull b_Pn_isFull 1 (some .boolean) { frames := 0, cells := 0, slots := 0, locals := 0 } D tys A [.ref a] M (qP (fun z => (z = 1 ∧ 7 ≤ cn) ∨ (z = 0 ∧ cn < 7))) := by
  refine met_of (own := R_Pn) (lv := [(0, .ref a)]) rfl (by decide) (Nat.le_of_ble_eq_true rfl) rfl ?_
  intro p_ e_ s_ m_ bl_ me_ c_ C hr hin
  refine g_aload_n C d_Pn_isFull_0 0 rfl ?_
  refine g_get C f_Pn_24 h rfl d_Pn_isFull_1 ?_
  refine g_bipush C d_Pn_isFull_4 (by decide) ?_
  refine g_icmp_lt C 13 d_Pn_isFull_6 rfl (by omega) (fun c1 => ?_) (fun c1 => ?_)
  · refine g_iconst C d_Pn_isFull_13 ?_
    exact g_zretP C hr (by omega) d_Pn_isFull_14 (by omega)
  · refine g_iconst C d_Pn_isFull_9 ?_
    refine g_goto C 14 d_Pn_isFull_10 rfl ?_
    exact g_zretP C hr (by omega) d_Pn_isFull_14 (by omega)
set_option maxHeartbeats 4000000 in
set_option maxRecDepth 100000 in
theorem ct_Pn_add (l : Launch) (D : va_G) (tys : xK) (A : Nat → Prop) (M : Wm) (hT : tyOK tys) (a ca ga ra b : Nat) (cn : Int) (g : Nat → Option Nat) (fs : List Value) (h0 : 0 ≤ cn ∧ cn < 7) (h : M a = some (.inr (5, [.ref ca, .ref ga, .ref ra, .int (iI cn)]))) (hg : M ca = some (.inl (tc tys 4, 7, .inr (.inr (.inr (.inr g)))))) (hb : M b = some (.inr (2, fs))) : mT l y_Pn_add b_Pn_add 2 none { frames := 0, cells := 0, slots := 0, locals := 0 } D tys A [.ref a, .ref b] M (qV D A (fun M' => M' = va_up (va_up M ca (some (.inl (tc tys 4, 7, .inr (.inr (.inr (.inr (va_up g cn.toNat (some b))))))))) a (some (.inr (5, [.ref ca, .ref ga, .ref ra, .int (iI (cn + 1))]))))) 0 0 := by
  refine met_of (own := R_Pn) (lv := [(0, .ref a), (1, .ref b)]) rfl (by decide) (Nat.le_of_ble_eq_true rfl) rfl ?_
  intro p_ e_ s_ m_ bl_ me_ c_ C hr hin
  obtain ⟨-, -, -, -, hT4, -⟩ := hT
  refine g_aload_n C d_Pn_add_0 0 rfl ?_
  refine g_get C f_Pn_13 h rfl d_Pn_add_1 ?_
  refine g_aload_n C d_Pn_add_4 0 rfl ?_
  refine g_get C f_Pn_24 h rfl d_Pn_add_5 ?_
  refine g_aload_n C d_Pn_add_8 1 rfl ?_
  refine g_aast C 4 hT4 rfl hg hb (by omega) d_Pn_add_9 ?_
  refine g_aload_n C d_Pn_add_10 0 rfl ?_
  refine g_dup C rfl d_Pn_add_11 ?_
  refine g_get C f_Pn_24 ((wd_up_n (ne_oa h hg)).trans h) rfl d_Pn_add_12 ?_
  refine g_iconst C d_Pn_add_15 ?_
  refine g_iadd C d_Pn_add_16 ?_
  refine g_put C p_Pn_24 ((wd_up_n (ne_oa h hg)).trans h) rfl rfl (Nat.le_of_ble_eq_true rfl) (fs' := [.ref ca, .ref ga, .ref ra, .int (iI (cn + 1))]) rfl d_Pn_add_17 ?_
  exact g_vret C hr d_Pn_add_20 rfl
set_option maxHeartbeats 4000000 in
set_option maxRecDepth 100000 in
theorem ct_Ct_isPart (l : Launch) (D : va_G) (tys : xK) (A : Nat → Prop) (M : Wm) (x ho ta rk ea sa pn to nt ns : Nat) (rt z0 : Int) (h0 : (-2147483648 ≤ z0 ∧ z0 < 2147483648)) (hn : nt ≤ 40) (hh : M x = some (.inr (7, [.int (iI rt), .ref ho, .ref ta, .ref rk, .ref ea, .ref sa, .ref pn, .ref to, .int (iI ((nt : Int))), .int (iI ((ns : Int)))]))) : pT l y_Ct_isPart b_Ct_isPart 2 (some .boolean) { frames := 1, cells := 0, slots := 0, locals := 22 } D tys A [.ref x, .int (iI z0)] M (qP (fun z => (z = 1 ∧ 0 ≤ z0 ∧ z0 < nt) ∨ (z = 0 ∧ ¬ (0 ≤ z0 ∧ z0 < nt)))) := by
  refine met_of (own := R_Ct) (lv := [(0, .ref x), (1, .int (iI z0))]) rfl (by decide) (Nat.le_of_ble_eq_true rfl) rfl ?_
  intro p_ e_ s_ m_ bl_ me_ c_ C hr hin
  refine g_iload_n C d_Ct_isPart_0 1 rfl ?_
  refine g_iconst C d_Ct_isPart_1 ?_
  refine g_aload_n C d_Ct_isPart_2 0 rfl ?_
  refine g_get C f_Ct_49 hh rfl d_Ct_isPart_3 ?_
  refine g_iconst C d_Ct_isPart_6 ?_
  refine g_isub C d_Ct_isPart_7 ?_
  refine g_calliP C (run_S C [.int (iI z0), .int (iI 0), .int (iI (((nt : Int)) - 1))] k_Ct_68 (ct_Ct_within l D tys A M z0 0 (((nt : Int)) - 1) (by omega)) ⟨rfl, rfl, Nat.le_of_ble_eq_true rfl, Nat.le_of_ble_eq_true rfl⟩ rfl rfl (Nat.le_of_ble_eq_true rfl) d_Ct_isPart_8 ⟨Nat.le_of_ble_eq_true rfl, Nat.le_of_ble_eq_true rfl⟩) (fun z1 hz1 => ?_)
  exact g_zretP C hr (by omega) d_Ct_isPart_11 (by omega)
end
section
/-! PICTURES of parts, persons and the tour under way -/
theorem up_same {M : Wm} {a : Nat} {x : Option va_E} (h : M a = x) : va_up M a x = M := by
  funext j
  unfold va_up
  by_cases e : j = a
  · rw [if_pos e, e, h]
  · rw [if_neg e]
/-- a part with its place -/
def PtA (M : Wm) (a : Nat) (n : Int) (p t : Nat → Int) : Prop := okP p ∧ okT t ∧ ∃ pa, M a = some (oPt n pa t) ∧ M pa = some (oPl p)
def PeA (M : Wm) (a : Nat) (n : Int) (p u : Nat → Int) : Prop := okP p ∧ okU u ∧ ∃ ha, M a = some (oPe n ha u) ∧ M ha = some (oPl p)
abbrev oTo (oa ga : Nat) (dy : Int) (cn dn : Nat) (wk wo : Int) : va_E := .inr (6, [.ref oa, .ref ga, .int (iI dy), .int (iI (cn : Int)), .int (iI (dn : Int)), .int (iI wk), .int (iI wo)])
/-- the tour a of the person ga, whose home's place is ph; its stops are the parts sq 0, sq 1 ..; pp, tt: the parts' places and numbers -/
def ToA (tys : xK) (M : Wm) (a oa ga : Nat) (dy : Int) (cn dn : Nat) (wk wo : Int) (so : Nat → Option Nat) (sq : Nat → Nat) (pp tt : Nat → Nat → Int) (ph : Nat → Int) : Prop :=
  M a = some (oTo oa ga dy cn dn wk wo) ∧ M oa = some (aR tys 4 20 so) ∧ (cn ≤ 20 ∧ dn ≤ cn) ∧ (∃ n u, PeA M ga n ph u) ∧ (∀ k, k < cn → sq k < 40 ∧ ∃ b, so k = some b ∧ PtA M b (sq k) (pp (sq k)) (tt (sq k)))
def sBef (sq : Nat → Nat) (pp : Nat → Nat → Int) (ph : Nat → Int) (g : Nat) : Nat → Int := if 0 < g then pp (sq (g - 1)) else ph
def sBeh (sq : Nat → Nat) (pp : Nat → Nat → Int) (ph : Nat → Int) (cn g : Nat) : Nat → Int := if g < cn then pp (sq g) else ph
theorem ToA.bef {tys : xK} {M : Wm} {a oa ga : Nat} {dy : Int} {cn dn : Nat} {wk wo : Int} {so : Nat → Option Nat} {sq : Nat → Nat} {pp tt : Nat → Nat → Int} {ph : Nat → Int} (h : ToA tys M a oa ga dy cn dn wk wo so sq pp tt ph) {g : Nat} (hg : g ≤ cn) : okP (sBef sq pp ph g) := by
  obtain ⟨-, -, -, ⟨n, u, hp, -⟩, he⟩ := h
  unfold sBef
  split
  · obtain ⟨-, b, -, h2, -⟩ := he (g - 1) (by omega)
    exact h2
  · exact hp
theorem ToA.beh {tys : xK} {M : Wm} {a oa ga : Nat} {dy : Int} {cn dn : Nat} {wk wo : Int} {so : Nat → Option Nat} {sq : Nat → Nat} {pp tt : Nat → Nat → Int} {ph : Nat → Int} (h : ToA tys M a oa ga dy cn dn wk wo so sq pp tt ph) {g : Nat} : okP (sBeh sq pp ph cn g) := by
  obtain ⟨-, -, -, ⟨n, u, hp, -⟩, he⟩ := h
  unfold sBeh
  split
  · rename_i hg
    obtain ⟨-, b, -, h2, -⟩ := he g hg
    exact h2
  · exact hp
/-- by how much walks become longer at the gap g -/
def sDet (nl : Nat) (lf : Nat → Nat → Int) (sq : Nat → Nat) (pp : Nat → Nat → Int) (ph : Nat → Int) (cn : Nat) (p : Nat → Int) (g : Nat) : Int :=
  sWay nl lf (sBef sq pp ph g) p + sWay nl lf p (sBeh sq pp ph cn g) - sWay nl lf (sBef sq pp ph g) (sBeh sq pp ph cn g)
/-- the first gap with the least detour among n gaps from lo on, and that detour; -1 if there is none -/
def sGap (w1 w2 dt : Nat → Int) (lo : Nat) : Nat → Int × Int
  | 0 => (-1, 0)
  | n + 1 => if (¬ w1 (lo + n) = -1 ∧ ¬ w2 (lo + n) = -1) ∧ ((sGap w1 w2 dt lo n).1 = -1 ∨ dt (lo + n) < (sGap w1 w2 dt lo n).2) then (((lo + n : Nat) : Int), dt (lo + n)) else sGap w1 w2 dt lo n
theorem sGap_b {w1 w2 dt : Nat → Int} {lo n : Nat} (hd : ∀ g, -10000 ≤ dt g ∧ dt g ≤ 10000) : (-1 ≤ (sGap w1 w2 dt lo n).1 ∧ (sGap w1 w2 dt lo n).1 < lo + n + 1) ∧ -10000 ≤ (sGap w1 w2 dt lo n).2 ∧ (sGap w1 w2 dt lo n).2 ≤ 10000 := by
  induction n with
  | zero => unfold sGap; dsimp only; omega
  | succ n ih =>
    unfold sGap
    have := hd (lo + n)
    split
    · dsimp only; omega
    · omega
end
section
/-! THE TOUR UNDER WAY: written by program (wip/whole/gen/tour.py) -/
set_option maxHeartbeats 4000000 in
set_option maxRecDepth 100000 in
theorem ct_To_placeBefore (l : Launch) (D : va_G) (tys : xK) (A : Nat → Prop) (M : Wm) (hT : tyOK tys) (a oa ga : Nat) (dy : Int) (cn dn : Nat) (wk wo : Int) (so : Nat → Option Nat) (sq : Nat → Nat) (pp tt : Nat → Nat → Int) (ph : Nat → Int) (g : Nat) (hg : g ≤ cn) (hA : ToA tys M a oa ga dy cn dn wk wo so sq pp tt ph) : pT l y_To_placeBefore b_To_placeBefore 2 (some (.object "CareTours$Place")) { frames := 0, cells := 0, slots := 0, locals := 0 } D tys A [.ref a, .int (iI ((g : Int)))] M (qPR (fun z => M z = some (oPl (sBef sq pp ph g)))) := by
  refine met_of (own := R_To) (lv := [(0, .ref a), (1, .int (iI ((g : Int))))]) rfl (by decide) (Nat.le_of_ble_eq_true rfl) rfl ?_
  intro p_ e_ s_ m_ bl_ me_ c_ C hr hin
  have hA0 := hA
  obtain ⟨hto, hoa, ⟨hcn, hdn⟩, ⟨n0, u0, hph, hu0, ha0, hga, hha⟩, hel⟩ := hA
  obtain ⟨-, -, -, -, hT4, -⟩ := hT
  refine g_iload_n C d_To_placeBefore_0 1 rfl ?_
  refine g_if_le C 18 d_To_placeBefore_1 rfl (by omega) (fun c1 => ?_) (fun c1 => ?_)
  · refine g_aload_n C d_To_placeBefore_18 0 rfl ?_
    refine g_get C f_To_17 hto rfl d_To_placeBefore_19 ?_
    refine g_get C f_To_69 hga rfl d_To_placeBefore_22 ?_
    exact g_aretP C hr d_To_placeBefore_25 (by unfold sBef; rw [if_neg (by omega)]; exact hha)
  · obtain ⟨-, b1, hs1, hp1, ht1, pa1, hb1, hpa1⟩ := hel (g - 1) (by omega)
    refine g_aload_n C d_To_placeBefore_4 0 rfl ?_
    refine g_get C f_To_11 hto rfl d_To_placeBefore_5 ?_
    refine g_iload_n C d_To_placeBefore_8 1 rfl ?_
    refine g_iconst C d_To_placeBefore_9 ?_
    refine g_isub C d_To_placeBefore_10 ?_
    refine g_aald C 4 hT4 hoa (by omega) (by rw [show ((g : Int) - 1).toNat = g - 1 by omega]; exact hs1) d_To_placeBefore_11 ?_
    refine g_get C f_To_65 hb1 rfl d_To_placeBefore_12 ?_
    refine g_goto C 25 d_To_placeBefore_15 rfl ?_
    exact g_aretP C hr d_To_placeBefore_25 (by unfold sBef; rw [if_pos (by omega)]; exact hpa1)
set_option maxHeartbeats 4000000 in
set_option maxRecDepth 100000 in
theorem ct_To_placeBehind (l : Launch) (D : va_G) (tys : xK) (A : Nat → Prop) (M : Wm) (hT : tyOK tys) (a oa ga : Nat) (dy : Int) (cn dn : Nat) (wk wo : Int) (so : Nat → Option Nat) (sq : Nat → Nat) (pp tt : Nat → Nat → Int) (ph : Nat → Int) (g : Nat) (hg : g ≤ cn) (hA : ToA tys M a oa ga dy cn dn wk wo so sq pp tt ph) : pT l y_To_placeBehind b_To_placeBehind 2 (some (.object "CareTours$Place")) { frames := 0, cells := 0, slots := 0, locals := 0 } D tys A [.ref a, .int (iI ((g : Int)))] M (qPR (fun z => M z = some (oPl (sBeh sq pp ph cn g)))) := by
  refine met_of (own := R_To) (lv := [(0, .ref a), (1, .int (iI ((g : Int))))]) rfl (by decide) (Nat.le_of_ble_eq_true rfl) rfl ?_
  intro p_ e_ s_ m_ bl_ me_ c_ C hr hin
  have hA0 := hA
  obtain ⟨hto, hoa, ⟨hcn, hdn⟩, ⟨n0, u0, hph, hu0, ha0, hga, hha⟩, hel⟩ := hA
  obtain ⟨-, -, -, -, hT4, -⟩ := hT
  refine g_iload_n C d_To_placeBehind_0 1 rfl ?_
  refine g_aload_n C d_To_placeBehind_1 0 rfl ?_
  refine g_get C f_To_25 hto rfl d_To_placeBehind_2 ?_
  refine g_icmp_ge C 20 d_To_placeBehind_5 rfl (by omega) (fun c1 => ?_) (fun c1 => ?_)
  · refine g_aload_n C d_To_placeBehind_20 0 rfl ?_
    refine g_get C f_To_17 hto rfl d_To_placeBehind_21 ?_
    refine g_get C f_To_69 hga rfl d_To_placeBehind_24 ?_
    exact g_aretP C hr d_To_placeBehind_27 (by unfold sBeh; rw [if_neg (by omega)]; exact hha)
  · obtain ⟨-, b1, hs1, hp1, ht1, pa1, hb1, hpa1⟩ := hel g (by omega)
    refine g_aload_n C d_To_placeBehind_8 0 rfl ?_
    refine g_get C f_To_11 hto rfl d_To_placeBehind_9 ?_
    refine g_iload_n C d_To_placeBehind_12 1 rfl ?_
    refine g_aald C 4 hT4 hoa (by omega) (by rw [show (g : Int).toNat = g by omega]; exact hs1) d_To_placeBehind_13 ?_
    refine g_get C f_To_65 hb1 rfl d_To_placeBehind_14 ?_
    refine g_goto C 27 d_To_placeBehind_17 rfl ?_
    exact g_aretP C hr d_To_placeBehind_27 (by unfold sBeh; rw [if_pos (by omega)]; exact hpa1)
set_option maxHeartbeats 4000000 in
set_option maxRecDepth 100000 in
theorem ct_To_canReach (l : Launch) (D : va_G) (tys : xK) (A : Nat → Prop) (M : Wm) (hT : tyOK tys) (a oa ga : Nat) (dy : Int) (cn dn : Nat) (wk wo : Int) (so : Nat → Option Nat) (sq : Nat → Nat) (pp tt : Nat → Nat → Int) (ph : Nat → Int) (g : Nat) (hg : g ≤ cn) (hA : ToA tys M a oa ga dy cn dn wk wo so sq pp tt ph) (h nl : Nat) (lf : Nat → Nat → Int) (hH : HoA tys M h nl lf) (b0 : Nat) (p : Nat → Int) (hp : okP p) (hb0 : M b0 = some (oPl p)) : pT l y_To_canReach b_To_canReach 4 (some .boolean) { frames := 4, cells := 0, slots := 0, locals := 91 } D tys A [.ref a, .ref h, .ref b0, .int (iI ((g : Int)))] M (qP (fun z => (z = 1 ∧ ¬ sWay nl lf (sBef sq pp ph g) p = -1 ∧ ¬ sWay nl lf p (sBeh sq pp ph cn g) = -1) ∨ (z = 0 ∧ ¬ (¬ sWay nl lf (sBef sq pp ph g) p = -1 ∧ ¬ sWay nl lf p (sBeh sq pp ph cn g) = -1)))) := by
  refine met_of (own := R_To) (lv := [(0, .ref a), (1, .ref h), (2, .ref b0), (3, .int (iI ((g : Int))))]) rfl (by decide) (Nat.le_of_ble_eq_true rfl) rfl ?_
  intro p_ e_ s_ m_ bl_ me_ c_ C hr hin
  have hT0 := hT
  have hA0 := hA
  obtain ⟨hto, hoa, ⟨hcn, hdn⟩, ⟨n0, u0, hph, hu0, ha0, hga, hha⟩, hel⟩ := hA
  obtain ⟨-, -, -, -, hT4, -⟩ := hT
  have hlok := hH.2.1
  obtain ⟨-, -, pa9, la9, np9, gl9, hh9, -⟩ := id hH
  refine g_aload_n C d_To_canReach_0 1 rfl ?_
  refine g_aload_n C d_To_canReach_1 0 rfl ?_
  refine g_iload_n C d_To_canReach_2 3 rfl ?_
  refine g_callrP C (run_V C [.int (iI ((g : Int)))] k_To_52 (ct_To_placeBefore l D tys A M hT0 a oa ga dy cn dn wk wo so sq pp tt ph g hg hA0) hto ⟨rfl, rfl, Nat.le_of_ble_eq_true rfl, Nat.le_of_ble_eq_true rfl⟩ rfl rfl (Nat.le_of_ble_eq_true rfl) d_To_canReach_3 ⟨Nat.le_of_ble_eq_true rfl, Nat.le_of_ble_eq_true rfl⟩) (fun b1 hb1 => ?_)
  refine g_aload_n C d_To_canReach_6 2 rfl ?_
  refine g_calliP C (run_V C [.ref b1, .ref b0] k_To_56 (ct_Ho_secondsBetween l D tys A M hT0 h b1 b0 nl lf (sBef sq pp ph g) p (hA0.bef hg) hp hH hb1 hb0) hh9 ⟨rfl, rfl, Nat.le_of_ble_eq_true rfl, Nat.le_of_ble_eq_true rfl⟩ rfl rfl (Nat.le_of_ble_eq_true rfl) d_To_canReach_7 ⟨Nat.le_of_ble_eq_true rfl, Nat.le_of_ble_eq_true rfl⟩) (fun z2 hz2 => ?_)
  have hbz2 := sWay_b (nl := nl) hlok (hA0.bef hg) hp
  refine g_iconst C d_To_canReach_10 ?_
  refine g_icmp_eq C 32 d_To_canReach_11 rfl (by omega) (fun c3 => ?_) (fun c3 => ?_)
  · refine g_iconst C d_To_canReach_32 ?_
    exact g_zretP C hr (by omega) d_To_canReach_33 (by omega)
  · refine g_aload_n C d_To_canReach_14 1 rfl ?_
    refine g_aload_n C d_To_canReach_15 2 rfl ?_
    refine g_aload_n C d_To_canReach_16 0 rfl ?_
    refine g_iload_n C d_To_canReach_17 3 rfl ?_
    refine g_callrP C (run_V C [.int (iI ((g : Int)))] k_To_62 (ct_To_placeBehind l D tys A M hT0 a oa ga dy cn dn wk wo so sq pp tt ph g hg hA0) hto ⟨rfl, rfl, Nat.le_of_ble_eq_true rfl, Nat.le_of_ble_eq_true rfl⟩ rfl rfl (Nat.le_of_ble_eq_true rfl) d_To_canReach_18 ⟨Nat.le_of_ble_eq_true rfl, Nat.le_of_ble_eq_true rfl⟩) (fun b4 hb4 => ?_)
    refine g_calliP C (run_V C [.ref b0, .ref b4] k_To_56 (ct_Ho_secondsBetween l D tys A M hT0 h b0 b4 nl lf p (sBeh sq pp ph cn g) hp (hA0.beh (g := g)) hH hb0 hb4) hh9 ⟨rfl, rfl, Nat.le_of_ble_eq_true rfl, Nat.le_of_ble_eq_true rfl⟩ rfl rfl (Nat.le_of_ble_eq_true rfl) d_To_canReach_21 ⟨Nat.le_of_ble_eq_true rfl, Nat.le_of_ble_eq_true rfl⟩) (fun z5 hz5 => ?_)
    have hbz5 := sWay_b (nl := nl) hlok hp (hA0.beh (g := g))
    refine g_iconst C d_To_canReach_24 ?_
    refine g_icmp_eq C 32 d_To_canReach_25 rfl (by omega) (fun c6 => ?_) (fun c6 => ?_)
    · refine g_iconst C d_To_canReach_32 ?_
      exact g_zretP C hr (by omega) d_To_canReach_33 (by omega)
    · refine g_iconst C d_To_canReach_28 ?_
      refine g_goto C 33 d_To_canReach_29 rfl ?_
      exact g_zretP C hr (by omega) d_To_canReach_33 (by omega)
set_option maxHeartbeats 4000000 in
set_option maxRecDepth 100000 in
theorem ct_To_detour (l : Launch) (D : va_G) (tys : xK) (A : Nat → Prop) (M : Wm) (hT : tyOK tys) (a oa ga : Nat) (dy : Int) (cn dn : Nat) (wk wo : Int) (so : Nat → Option Nat) (sq : Nat → Nat) (pp tt : Nat → Nat → Int) (ph : Nat → Int) (g : Nat) (hg : g ≤ cn) (hA : ToA tys M a oa ga dy cn dn wk wo so sq pp tt ph) (h nl : Nat) (lf : Nat → Nat → Int) (hH : HoA tys M h nl lf) (b0 : Nat) (p : Nat → Int) (hp : okP p) (hb0 : M b0 = some (oPl p)) : pT l y_To_detour b_To_detour 6 (some .int) { frames := 4, cells := 0, slots := 0, locals := 91 } D tys A [.ref a, .ref h, .ref b0, .int (iI ((g : Int)))] M (qP (fun z => z = sDet nl lf sq pp ph cn p g)) := by
  refine met_of (own := R_To) (lv := [(0, .ref a), (1, .ref h), (2, .ref b0), (3, .int (iI ((g : Int))))]) rfl (by decide) (Nat.le_of_ble_eq_true rfl) rfl ?_
  intro p_ e_ s_ m_ bl_ me_ c_ C hr hin
  have hT0 := hT
  have hA0 := hA
  obtain ⟨hto, hoa, ⟨hcn, hdn⟩, ⟨n0, u0, hph, hu0, ha0, hga, hha⟩, hel⟩ := hA
  obtain ⟨-, -, -, -, hT4, -⟩ := hT
  have hlok := hH.2.1
  obtain ⟨-, -, pa9, la9, np9, gl9, hh9, -⟩ := id hH
  refine g_aload_n C d_To_detour_0 0 rfl ?_
  refine g_iload_n C d_To_detour_1 3 rfl ?_
  refine g_callrP C (run_V C [.int (iI ((g : Int)))] k_To_52 (ct_To_placeBefore l D tys A M hT0 a oa ga dy cn dn wk wo so sq pp tt ph g hg hA0) hto ⟨rfl, rfl, Nat.le_of_ble_eq_true rfl, Nat.le_of_ble_eq_true rfl⟩ rfl rfl (Nat.le_of_ble_eq_true rfl) d_To_detour_2 ⟨Nat.le_of_ble_eq_true rfl, Nat.le_of_ble_eq_true rfl⟩) (fun b1 hb1 => ?_)
  refine g_astore (lv' := [(4, .ref b1), (0, .ref a), (1, .ref h), (2, .ref b0), (3, .int (iI ((g : Int))))]) C d_To_detour_5 (by decide) rfl ?_
  refine g_aload_n C d_To_detour_7 1 rfl ?_
  refine g_iload_n C d_To_detour_8 4 rfl ?_
  refine g_callrP C (run_V C [.int (iI ((g : Int)))] k_To_62 (ct_To_placeBehind l D tys A M hT0 a oa ga dy cn dn wk wo so sq pp tt ph g hg hA0) hto ⟨rfl, rfl, Nat.le_of_ble_eq_true rfl, Nat.le_of_ble_eq_true rfl⟩ rfl rfl (Nat.le_of_ble_eq_true rfl) d_To_detour_9 ⟨Nat.le_of_ble_eq_true rfl, Nat.le_of_ble_eq_true rfl⟩) (fun b2 hb2 => ?_)
  refine g_astore (lv' := [(5, .ref b2), (4, .ref b1), (0, .ref a), (1, .ref h), (2, .ref b0), (3, .int (iI ((g : Int))))]) C d_To_detour_12 (by decide) rfl ?_
  refine g_aload_n C d_To_detour_14 3 rfl ?_
  refine g_aload C d_To_detour_15 1 rfl ?_
  refine g_aload_n C d_To_detour_17 4 rfl ?_
  refine g_calliP C (run_V C [.ref b1, .ref b0] k_To_56 (ct_Ho_secondsBetween l D tys A M hT0 h b1 b0 nl lf (sBef sq pp ph g) p (hA0.bef hg) hp hH hb1 hb0) hh9 ⟨rfl, rfl, Nat.le_of_ble_eq_true rfl, Nat.le_of_ble_eq_true rfl⟩ rfl rfl (Nat.le_of_ble_eq_true rfl) d_To_detour_18 ⟨Nat.le_of_ble_eq_true rfl, Nat.le_of_ble_eq_true rfl⟩) (fun z3 hz3 => ?_)
  have hbz3 := sWay_b (nl := nl) hlok (hA0.bef hg) hp
  refine g_aload_n C d_To_detour_21 3 rfl ?_
  refine g_aload_n C d_To_detour_22 4 rfl ?_
  refine g_aload C d_To_detour_23 0 rfl ?_
  refine g_calliP C (run_V C [.ref b0, .ref b2] k_To_56 (ct_Ho_secondsBetween l D tys A M hT0 h b0 b2 nl lf p (sBeh sq pp ph cn g) hp (hA0.beh (g := g)) hH hb0 hb2) hh9 ⟨rfl, rfl, Nat.le_of_ble_eq_true rfl, Nat.le_of_ble_eq_true rfl⟩ rfl rfl (Nat.le_of_ble_eq_true rfl) d_To_detour_25 ⟨Nat.le_of_ble_eq_true rfl, Nat.le_of_ble_eq_true rfl⟩) (fun z4 hz4 => ?_)
  have hbz4 := sWay_b (nl := nl) hlok hp (hA0.beh (g := g))
  refine g_iadd C d_To_detour_28 ?_
  refine g_aload_n C d_To_detour_29 3 rfl ?_
  refine g_aload C d_To_detour_30 1 rfl ?_
  refine g_aload C d_To_detour_32 0 rfl ?_
  refine g_calliP C (run_V C [.ref b1, .ref b2] k_To_56 (ct_Ho_secondsBetween l D tys A M hT0 h b1 b2 nl lf (sBef sq pp ph g) (sBeh sq pp ph cn g) (hA0.bef hg) (hA0.beh (g := g)) hH hb1 hb2) hh9 ⟨rfl, rfl, Nat.le_of_ble_eq_true rfl, Nat.le_of_ble_eq_true rfl⟩ rfl rfl (Nat.le_of_ble_eq_true rfl) d_To_detour_34 ⟨Nat.le_of_ble_eq_true rfl, Nat.le_of_ble_eq_true rfl⟩) (fun z5 hz5 => ?_)
  have hbz5 := sWay_b (nl := nl) hlok (hA0.bef hg) (hA0.beh (g := g))
  refine g_isub C d_To_detour_37 ?_
  exact g_iretP C hr d_To_detour_38 (by unfold sDet; omega)
set_option maxHeartbeats 4000000 in
set_option maxRecDepth 100000 in
theorem ct_To_shortestGap (l : Launch) (D : va_G) (tys : xK) (A : Nat → Prop) (M : Wm) (hT : tyOK tys) (a oa ga : Nat) (dy : Int) (cn dn : Nat) (wk wo : Int) (so : Nat → Option Nat) (sq : Nat → Nat) (pp tt : Nat → Nat → Int) (ph : Nat → Int) (hA : ToA tys M a oa ga dy cn dn wk wo so sq pp tt ph) (h nl : Nat) (lf : Nat → Nat → Int) (hH : HoA tys M h nl lf) (b0 : Nat) (p : Nat → Int) (hp : okP p) (hb0 : M b0 = some (oPl p)) (hdb0 : ∀ q, -10000 ≤ sDet nl lf sq pp ph cn p q ∧ sDet nl lf sq pp ph cn p q ≤ 10000) : pT l y_To_shortestGap b_To_shortestGap 7 (some .int) { frames := 5, cells := 0, slots := 0, locals := 116 } D tys A [.ref a, .ref h, .ref b0] M (qP (fun z => z = (sGap (fun g => sWay nl lf (sBef sq pp ph g) p) (fun g => sWay nl lf p (sBeh sq pp ph cn g)) (sDet nl lf sq pp ph cn p) dn (cn + 1 - dn)).1)) := by
  refine met_of (own := R_To) (lv := [(0, .ref a), (1, .ref h), (2, .ref b0)]) rfl (by decide) (Nat.le_of_ble_eq_true rfl) rfl ?_
  intro p_ e_ s_ m_ bl_ me_ c_ C hr hin
  have hT0 := hT
  have hA0 := hA
  obtain ⟨hto, hoa, ⟨hcn, hdn⟩, ⟨n0, u0, hph, hu0, ha0, hga, hha⟩, hel⟩ := hA
  obtain ⟨-, -, -, -, hT4, -⟩ := hT
  have hlok := hH.2.1
  obtain ⟨-, -, pa9, la9, np9, gl9, hh9, -⟩ := id hH
  refine g_iconst C d_To_shortestGap_0 ?_
  refine g_istore_n (lv' := [(3, .int (iI ((-1)))), (0, .ref a), (1, .ref h), (2, .ref b0)]) C d_To_shortestGap_1 (by decide) rfl ?_
  refine g_iconst C d_To_shortestGap_2 ?_
  refine g_istore (lv' := [(4, .int (iI 0)), (3, .int (iI ((-1)))), (0, .ref a), (1, .ref h), (2, .ref b0)]) C d_To_shortestGap_3 (by decide) rfl ?_
  refine g_aload_n C d_To_shortestGap_5 2 rfl ?_
  refine g_get C f_To_28 hto rfl d_To_shortestGap_6 ?_
  refine g_istore (lv' := [(5, .int (iI ((dn : Int)))), (4, .int (iI 0)), (3, .int (iI ((-1)))), (0, .ref a), (1, .ref h), (2, .ref b0)]) C d_To_shortestGap_9 (by decide) rfl ?_
  have hG0 : sGap (fun g => sWay nl lf (sBef sq pp ph g) p) (fun g => sWay nl lf p (sBeh sq pp ph cn g)) (sDet nl lf sq pp ph cn p) dn (dn - dn) = (-1, 0) := by rw [Nat.sub_self, sGap.eq_1]
  refine g_eq (lv' := [(5, .int (iI (dn : Int))), (4, .int (iI (sGap (fun g => sWay nl lf (sBef sq pp ph g) p) (fun g => sWay nl lf p (sBeh sq pp ph cn g)) (sDet nl lf sq pp ph cn p) dn (dn - dn)).2)), (3, .int (iI (sGap (fun g => sWay nl lf (sBef sq pp ph g) p) (fun g => sWay nl lf p (sBeh sq pp ph cn g)) (sDet nl lf sq pp ph cn p) dn (dn - dn)).1)), (0, .ref a), (1, .ref h), (2, .ref b0)]) (by rw [hG0]) rfl ?_
  refine g_sub [3, 4, 5, 2, 1, 0] rfl (g_loop (σ := Nat) (fun x => cn + 1 - x) (fun x => (dn ≤ x ∧ x ≤ cn + 1)) (fun x => [(0, .ref a), (1, .ref h), (2, .ref b0), (3, .int (iI ((sGap (fun x => sWay nl lf (sBef sq pp ph x) p) (fun x => sWay nl lf p (sBeh sq pp ph cn x)) (sDet nl lf sq pp ph cn p) dn (x - dn)).1))), (4, .int (iI ((sGap (fun x => sWay nl lf (sBef sq pp ph x) p) (fun x => sWay nl lf p (sBeh sq pp ph cn x)) (sDet nl lf sq pp ph cn p) dn (x - dn)).2))), (5, .int (iI ((x : Int))))]) (fun x => M) ?_ (dn) ((by omega)))
  intro x_ hI ih11
  obtain ⟨g, rfl⟩ : ∃ z, z = x_ := ⟨_, rfl⟩
  try dsimp only at hI ih11 ⊢
  obtain hg0 := hI
  have hdb : ∀ q, -10000 ≤ sDet nl lf sq pp ph cn p q ∧ sDet nl lf sq pp ph cn p q ≤ 10000 := hdb0
  have hgb := sGap_b (w1 := (fun g => sWay nl lf (sBef sq pp ph g) p)) (w2 := (fun g => sWay nl lf p (sBeh sq pp ph cn g))) (lo := dn) (n := g - dn) hdb
  refine g_iload C d_To_shortestGap_11 5 rfl ?_
  refine g_aload_n C d_To_shortestGap_13 0 rfl ?_
  refine g_get C f_To_25 hto rfl d_To_shortestGap_14 ?_
  refine g_icmp_gt C 66 d_To_shortestGap_17 rfl (by omega) (fun c1 => ?_) (fun c1 => ?_)
  · refine g_iload_n C d_To_shortestGap_66 3 rfl ?_
    exact g_iretP C hr d_To_shortestGap_67 (by rw [show cn + 1 - dn = g - dn by omega])
  · have hg : g ≤ cn := by omega
    refine g_aload_n C d_To_shortestGap_20 0 rfl ?_
    refine g_aload_n C d_To_shortestGap_21 1 rfl ?_
    refine g_aload_n C d_To_shortestGap_22 2 rfl ?_
    refine g_iload C d_To_shortestGap_23 5 rfl ?_
    refine g_calliP C (run_V C [.ref h, .ref b0, .int (iI ((g : Int)))] k_To_44 (ct_To_canReach l D tys A M hT0 a oa ga dy cn dn wk wo so sq pp tt ph g (by omega) hA0 h nl lf hH b0 p hp hb0) hto ⟨rfl, rfl, Nat.le_of_ble_eq_true rfl, Nat.le_of_ble_eq_true rfl⟩ rfl rfl (Nat.le_of_ble_eq_true rfl) d_To_shortestGap_25 ⟨Nat.le_of_ble_eq_true rfl, Nat.le_of_ble_eq_true rfl⟩) (fun z2 hz2 => ?_)
    refine g_if_eq C 60 d_To_shortestGap_28 rfl (by omega) (fun c3 => ?_) (fun c3 => ?_)
    · refine g_iinc (lv' := [(5, .int (iI (((g : Int)) + 1))), (0, .ref a), (1, .ref h), (2, .ref b0), (3, .int (iI ((sGap (fun g => sWay nl lf (sBef sq pp ph g) p) (fun g => sWay nl lf p (sBeh sq pp ph cn g)) (sDet nl lf sq pp ph cn p) dn (g - dn)).1))), (4, .int (iI ((sGap (fun g => sWay nl lf (sBef sq pp ph g) p) (fun g => sWay nl lf p (sBeh sq pp ph cn g)) (sDet nl lf sq pp ph cn p) dn (g - dn)).2)))]) C d_To_shortestGap_60 5 rfl (by decide) rfl ?_
      refine g_goto C 11 d_To_shortestGap_63 rfl ?_
      have hE : sGap (fun g => sWay nl lf (sBef sq pp ph g) p) (fun g => sWay nl lf p (sBeh sq pp ph cn g)) (sDet nl lf sq pp ph cn p) dn (g + 1 - dn) = sGap (fun g => sWay nl lf (sBef sq pp ph g) p) (fun g => sWay nl lf p (sBeh sq pp ph cn g)) (sDet nl lf sq pp ph cn p) dn (g - dn) := by
        rw [show g + 1 - dn = (g - dn) + 1 by omega, sGap.eq_2, show dn + (g - dn) = g by omega, if_neg (by omega)]
      rw [← hE]
      exact g_sub [1, 2, 3, 4, 5, 0] rfl (ih11 (g + 1) (by omega) (by first | omega | (dsimp only; omega)))
    · refine g_aload_n C d_To_shortestGap_31 0 rfl ?_
      refine g_aload_n C d_To_shortestGap_32 1 rfl ?_
      refine g_aload_n C d_To_shortestGap_33 2 rfl ?_
      refine g_iload C d_To_shortestGap_34 5 rfl ?_
      refine g_calliP C (run_V C [.ref h, .ref b0, .int (iI ((g : Int)))] k_To_48 (ct_To_detour l D tys A M hT0 a oa ga dy cn dn wk wo so sq pp tt ph g (by omega) hA0 h nl lf hH b0 p hp hb0) hto ⟨rfl, rfl, Nat.le_of_ble_eq_true rfl, Nat.le_of_ble_eq_true rfl⟩ rfl rfl (Nat.le_of_ble_eq_true rfl) d_To_shortestGap_36 ⟨Nat.le_of_ble_eq_true rfl, Nat.le_of_ble_eq_true rfl⟩) (fun z4 hz4 => ?_)
      refine g_istore (lv' := [(6, .int (iI z4)), (0, .ref a), (1, .ref h), (2, .ref b0), (3, .int (iI ((sGap (fun g => sWay nl lf (sBef sq pp ph g) p) (fun g => sWay nl lf p (sBeh sq pp ph cn g)) (sDet nl lf sq pp ph cn p) dn (g - dn)).1))), (4, .int (iI ((sGap (fun g => sWay nl lf (sBef sq pp ph g) p) (fun g => sWay nl lf p (sBeh sq pp ph cn g)) (sDet nl lf sq pp ph cn p) dn (g - dn)).2))), (5, .int (iI ((g : Int))))]) C d_To_shortestGap_39 (by decide) rfl ?_
      have hdg := hdb g
      refine g_iload_n C d_To_shortestGap_41 4 rfl ?_
      refine g_iconst C d_To_shortestGap_42 ?_
      refine g_icmp_eq C 53 d_To_shortestGap_43 rfl (by omega) (fun c5 => ?_) (fun c5 => ?_)
      · refine g_iload C d_To_shortestGap_53 6 rfl ?_
        refine g_istore_n (lv' := [(3, .int (iI ((g : Int)))), (6, .int (iI z4)), (0, .ref a), (1, .ref h), (2, .ref b0), (4, .int (iI ((sGap (fun g => sWay nl lf (sBef sq pp ph g) p) (fun g => sWay nl lf p (sBeh sq pp ph cn g)) (sDet nl lf sq pp ph cn p) dn (g - dn)).2))), (5, .int (iI ((g : Int))))]) C d_To_shortestGap_55 (by decide) rfl ?_
        refine g_iload C d_To_shortestGap_56 1 rfl ?_
        refine g_istore (lv' := [(4, .int (iI z4)), (3, .int (iI ((g : Int)))), (6, .int (iI z4)), (0, .ref a), (1, .ref h), (2, .ref b0), (5, .int (iI ((g : Int))))]) C d_To_shortestGap_58 (by decide) rfl ?_
        refine g_iinc (lv' := [(5, .int (iI (((g : Int)) + 1))), (4, .int (iI z4)), (3, .int (iI ((g : Int)))), (6, .int (iI z4)), (0, .ref a), (1, .ref h), (2, .ref b0)]) C d_To_shortestGap_60 6 rfl (by decide) rfl ?_
        refine g_goto C 11 d_To_shortestGap_63 rfl ?_
        have hE : sGap (fun g => sWay nl lf (sBef sq pp ph g) p) (fun g => sWay nl lf p (sBeh sq pp ph cn g)) (sDet nl lf sq pp ph cn p) dn (g + 1 - dn) = ((g : Int), sDet nl lf sq pp ph cn p g) := by
          rw [show g + 1 - dn = (g - dn) + 1 by omega, sGap.eq_2, show dn + (g - dn) = g by omega, if_pos (by omega)]
        have hE1 : (g : Int) = (sGap (fun g => sWay nl lf (sBef sq pp ph g) p) (fun g => sWay nl lf p (sBeh sq pp ph cn g)) (sDet nl lf sq pp ph cn p) dn (g + 1 - dn)).1 := by rw [hE]
        have hE2 : z4 = (sGap (fun g => sWay nl lf (sBef sq pp ph g) p) (fun g => sWay nl lf p (sBeh sq pp ph cn g)) (sDet nl lf sq pp ph cn p) dn (g + 1 - dn)).2 := by rw [hE]; assumption
        refine g_eq (lv' := [(5, .int (iI ((g : Int) + 1))), (4, .int (iI (sGap (fun g => sWay nl lf (sBef sq pp ph g) p) (fun g => sWay nl lf p (sBeh sq pp ph cn g)) (sDet nl lf sq pp ph cn p) dn (g + 1 - dn)).2)), (3, .int (iI (sGap (fun g => sWay nl lf (sBef sq pp ph g) p) (fun g => sWay nl lf p (sBeh sq pp ph cn g)) (sDet nl lf sq pp ph cn p) dn (g + 1 - dn)).1)), (6, .int (iI z4)), (0, .ref a), (1, .ref h), (2, .ref b0)]) (by rw [← hE1, ← hE2]) rfl ?_
        exact g_sub [4, 5, 6, 2, 1, 0] rfl (ih11 (g + 1) (by omega) (by first | omega | (dsimp only; omega)))
      · refine g_iload C d_To_shortestGap_46 0 rfl ?_
        refine g_iload C d_To_shortestGap_48 5 rfl ?_
        refine g_icmp_ge C 60 d_To_shortestGap_50 rfl (by omega) (fun c6 => ?_) (fun c6 => ?_)
        · refine g_iinc (lv' := [(5, .int (iI (((g : Int)) + 1))), (6, .int (iI z4)), (0, .ref a), (1, .ref h), (2, .ref b0), (3, .int (iI ((sGap (fun g => sWay nl lf (sBef sq pp ph g) p) (fun g => sWay nl lf p (sBeh sq pp ph cn g)) (sDet nl lf sq pp ph cn p) dn (g - dn)).1))), (4, .int (iI ((sGap (fun g => sWay nl lf (sBef sq pp ph g) p) (fun g => sWay nl lf p (sBeh sq pp ph cn g)) (sDet nl lf sq pp ph cn p) dn (g - dn)).2)))]) C d_To_shortestGap_60 6 rfl (by decide) rfl ?_
          refine g_goto C 11 d_To_shortestGap_63 rfl ?_
          have hE : sGap (fun g => sWay nl lf (sBef sq pp ph g) p) (fun g => sWay nl lf p (sBeh sq pp ph cn g)) (sDet nl lf sq pp ph cn p) dn (g + 1 - dn) = sGap (fun g => sWay nl lf (sBef sq pp ph g) p) (fun g => sWay nl lf p (sBeh sq pp ph cn g)) (sDet nl lf sq pp ph cn p) dn (g - dn) := by
            rw [show g + 1 - dn = (g - dn) + 1 by omega, sGap.eq_2, show dn + (g - dn) = g by omega, if_neg (by omega)]
          rw [← hE]
          exact g_sub [2, 3, 4, 5, 6, 0] rfl (ih11 (g + 1) (by omega) (by first | omega | (dsimp only; omega)))
        · refine g_iload C d_To_shortestGap_53 6 rfl ?_
          refine g_istore_n (lv' := [(3, .int (iI ((g : Int)))), (6, .int (iI z4)), (0, .ref a), (1, .ref h), (2, .ref b0), (4, .int (iI ((sGap (fun g => sWay nl lf (sBef sq pp ph g) p) (fun g => sWay nl lf p (sBeh sq pp ph cn g)) (sDet nl lf sq pp ph cn p) dn (g - dn)).2))), (5, .int (iI ((g : Int))))]) C d_To_shortestGap_55 (by decide) rfl ?_
          refine g_iload C d_To_shortestGap_56 1 rfl ?_
          refine g_istore (lv' := [(4, .int (iI z4)), (3, .int (iI ((g : Int)))), (6, .int (iI z4)), (0, .ref a), (1, .ref h), (2, .ref b0), (5, .int (iI ((g : Int))))]) C d_To_shortestGap_58 (by decide) rfl ?_
          refine g_iinc (lv' := [(5, .int (iI (((g : Int)) + 1))), (4, .int (iI z4)), (3, .int (iI ((g : Int)))), (6, .int (iI z4)), (0, .ref a), (1, .ref h), (2, .ref b0)]) C d_To_shortestGap_60 6 rfl (by decide) rfl ?_
          refine g_goto C 11 d_To_shortestGap_63 rfl ?_
          have hE : sGap (fun g => sWay nl lf (sBef sq pp ph g) p) (fun g => sWay nl lf p (sBeh sq pp ph cn g)) (sDet nl lf sq pp ph cn p) dn (g + 1 - dn) = ((g : Int), sDet nl lf sq pp ph cn p g) := by
            rw [show g + 1 - dn = (g - dn) + 1 by omega, sGap.eq_2, show dn + (g - dn) = g by omega, if_pos (by omega)]
          have hE1 : (g : Int) = (sGap (fun g => sWay nl lf (sBef sq pp ph g) p) (fun g => sWay nl lf p (sBeh sq pp ph cn g)) (sDet nl lf sq pp ph cn p) dn (g + 1 - dn)).1 := by rw [hE]
          have hE2 : z4 = (sGap (fun g => sWay nl lf (sBef sq pp ph g) p) (fun g => sWay nl lf p (sBeh sq pp ph cn g)) (sDet nl lf sq pp ph cn p) dn (g + 1 - dn)).2 := by rw [hE]; assumption
          refine g_eq (lv' := [(5, .int (iI ((g : Int) + 1))), (4, .int (iI (sGap (fun g => sWay nl lf (sBef sq pp ph g) p) (fun g => sWay nl lf p (sBeh sq pp ph cn g)) (sDet nl lf sq pp ph cn p) dn (g + 1 - dn)).2)), (3, .int (iI (sGap (fun g => sWay nl lf (sBef sq pp ph g) p) (fun g => sWay nl lf p (sBeh sq pp ph cn g)) (sDet nl lf sq pp ph cn p) dn (g + 1 - dn)).1)), (6, .int (iI z4)), (0, .ref a), (1, .ref h), (2, .ref b0)]) (by rw [← hE1, ← hE2]) rfl ?_
          exact g_sub [4, 5, 6, 2, 1, 0] rfl (ih11 (g + 1) (by omega) (by first | omega | (dsimp only; omega)))
end
section
/-! THE TOUR UNDER WAY, on: written by program (wip/whole/gen/tour2.py) -/
theorem ins_step {so G : Nat → Option Nat} {cn i : Nat} {b1 : Nat} (hi : 0 < i ∧ i ≤ cn) (hG : ∀ j, G j = if i < j ∧ j ≤ cn then so (j - 1) else so j) (hb : so (i - 1) = some b1) : ∀ j, va_up G (i : Int).toNat (some b1) j = if i - 1 < j ∧ j ≤ cn then so (j - 1) else so j := by
  intro j
  unfold va_up
  rw [show (i : Int).toNat = i by omega]
  by_cases hj : j = i
  · rw [if_pos hj, if_pos (by omega), hj]; exact hb.symm
  · rw [if_neg hj, hG j]
    by_cases hj2 : i < j ∧ j ≤ cn
    · rw [if_pos hj2, if_pos (by omega)]
    · rw [if_neg hj2, if_neg (by omega)]
theorem ins_end {so G : Nat → Option Nat} {cn i g : Nat} {b : Nat} (hi : i = g ∧ g ≤ cn) (hG : ∀ j, G j = if i < j ∧ j ≤ cn then so (j - 1) else so j) : ∀ j, va_up G (g : Int).toNat (some b) j = if j < g then so j else if j = g then some b else if j ≤ cn then so (j - 1) else so j := by
  intro j
  unfold va_up
  rw [show (g : Int).toNat = g by omega]
  by_cases hj : j = g
  · rw [if_pos hj, if_neg (by omega), if_pos hj]
  · rw [if_neg hj, hG j]
    by_cases hj2 : i < j ∧ j ≤ cn
    · rw [if_pos hj2, if_neg (by omega), if_neg hj, if_pos (by omega)]
    · rw [if_neg hj2]
      by_cases hj3 : j < g
      · rw [if_pos hj3]
      · rw [if_neg hj3, if_neg hj, if_neg (by omega)]
set_option maxHeartbeats 4000000 in
set_option maxRecDepth 100000 in
theorem ct_To_isStop (l : Launch) (D : va_G) (tys : xK) (A : Nat → Prop) (M : Wm) (hT : tyOK tys) (a oa ga : Nat) (dy : Int) (cn dn : Nat) (wk wo : Int) (so : Nat → Option Nat) (sq : Nat → Nat) (pp tt : Nat → Nat → Int) (ph : Nat → Int) (hA : ToA tys M a oa ga dy cn dn wk wo so sq pp tt ph) (b np : Nat) (pb : Nat) (tb : Nat → Int) (hnp : np < 40) (hb : M b = some (oPt np pb tb)) : pT l y_To_isStop b_To_isStop 3 (some .boolean) { frames := 0, cells := 0, slots := 0, locals := 0 } D tys A [.ref a, .ref b] M (qP (fun z => (z = 1 ∧ ∃ k, k < cn ∧ sq k = np) ∨ (z = 0 ∧ ∀ k, k < cn → ¬ sq k = np))) := by
  refine met_of (own := R_To) (lv := [(0, .ref a), (1, .ref b)]) rfl (by decide) (Nat.le_of_ble_eq_true rfl) rfl ?_
  intro p_ e_ s_ m_ bl_ me_ c_ C hr hin
  have hA0 := hA
  obtain ⟨hto, hoa, ⟨hcn, hdn⟩, ⟨n0, u0, hph, hu0, ha0, hga, hha⟩, hel⟩ := hA
  obtain ⟨-, -, -, -, hT4, -⟩ := hT
  refine g_iconst C d_To_isStop_0 ?_
  refine g_istore_n (lv' := [(2, .int (iI 0)), (0, .ref a), (1, .ref b)]) C d_To_isStop_1 (by decide) rfl ?_
  refine g_sub [1, 2, 0] rfl (g_loop (σ := Nat) (fun x => cn - x) (fun x => (x ≤ cn) ∧ (∀ j, j < x → ¬ sq j = np)) (fun x => [(0, .ref a), (1, .ref b), (2, .int (iI ((x : Int))))]) (fun x => M) ?_ (0) (⟨Nat.zero_le _, lt_0⟩))
  intro x_ hI ih2
  obtain ⟨k, rfl⟩ : ∃ z, z = x_ := ⟨_, rfl⟩
  try dsimp only at hI ih2 ⊢
  obtain ⟨hk0, hne⟩ := hI
  refine g_iload_n C d_To_isStop_2 2 rfl ?_
  refine g_aload_n C d_To_isStop_3 0 rfl ?_
  refine g_get C f_To_25 hto rfl d_To_isStop_4 ?_
  refine g_icmp_ge C 34 d_To_isStop_7 rfl (by omega) (fun c1 => ?_) (fun c1 => ?_)
  · refine g_iconst C d_To_isStop_34 ?_
    exact g_zretP C hr (by omega) d_To_isStop_35 (Or.inr ⟨rfl, fun j hj => hne j (by omega)⟩)
  · obtain ⟨hs40, b1, hs1, hp1, ht1, pa1, hb1, hpa1⟩ := hel k (by omega)
    refine g_aload_n C d_To_isStop_10 0 rfl ?_
    refine g_get C f_To_11 hto rfl d_To_isStop_11 ?_
    refine g_iload_n C d_To_isStop_14 2 rfl ?_
    refine g_aald C 4 hT4 hoa (by omega) (by rw [show (k : Int).toNat = k by omega]; exact hs1) d_To_isStop_15 ?_
    refine g_get C f_To_40 hb1 rfl d_To_isStop_16 ?_
    refine g_aload_n C d_To_isStop_19 1 rfl ?_
    refine g_get C f_To_40 hb rfl d_To_isStop_20 ?_
    refine g_icmp_ne C 28 d_To_isStop_23 rfl (by omega) (fun c2 => ?_) (fun c2 => ?_)
    · refine g_iinc (lv' := [(2, .int (iI (((k : Int)) + 1))), (0, .ref a), (1, .ref b)]) C d_To_isStop_28 2 rfl (by decide) rfl ?_
      refine g_goto C 2 d_To_isStop_31 rfl ?_
      exact g_sub [1, 2, 0] rfl (ih2 (k + 1) ⟨by omega, lt_s hne (by omega)⟩ (by first | omega | (dsimp only; omega)))
    · refine g_iconst C d_To_isStop_26 ?_
      exact g_zretP C hr (by omega) d_To_isStop_27 (Or.inl ⟨rfl, k, by omega, by omega⟩)
set_option maxHeartbeats 4000000 in
set_option maxRecDepth 100000 in
theorem ct_To_insert (l : Launch) (D : va_G) (tys : xK) (A : Nat → Prop) (M : Wm) (hT : tyOK tys) (a oa : Nat) (go : Option Nat) (dy : Int) (cn : Nat) (dn wk wo : Int) (so : Nat → Option Nat) (g : Nat) (lg : Int) (b : Nat) (nb : Int) (pb : Nat) (tb : Nat → Int) (hg : g ≤ cn ∧ cn < 20) (hto : M a = some (.inr (6, [.ref oa, va_rf go, .int (iI dy), .int (iI ((cn : Int))), .int (iI dn), .int (iI wk), .int (iI wo)]))) (hoa : M oa = some (aR tys 4 20 so)) (hel : ∀ k, k < cn → ∃ b fs, so k = some b ∧ M b = some (.inr (2, fs))) (hb : M b = some (oPt nb pb tb)) : mT l y_To_insert b_To_insert 5 none { frames := 0, cells := 0, slots := 0, locals := 0 } D tys A [.ref a, .ref b, .int (iI ((g : Int))), .int (iI lg)] M (qV D A (fun M' => ∃ so2 : Nat → Option Nat, (∀ j, so2 j = if j < g then so j else if j = g then some b else if j ≤ cn then so (j - 1) else so j) ∧ M' = va_up (va_up M oa (some (.inl (tc tys 4, 20, .inr (.inr (.inr (.inr so2))))))) a (some (.inr (6, [.ref oa, va_rf go, .int (iI dy), .int (iI ((cn : Int) + 1)), .int (iI dn), .int (iI (wk + lg)), .int (iI (wo + tb 4))]))))) 0 0 := by
  refine met_of (own := R_To) (lv := [(0, .ref a), (1, .ref b), (2, .int (iI ((g : Int)))), (3, .int (iI lg))]) rfl (by decide) (Nat.le_of_ble_eq_true rfl) rfl ?_
  intro p_ e_ s_ m_ bl_ me_ c_ C hr hin
  obtain ⟨-, -, -, -, hT4, -⟩ := hT
  refine g_aload_n C d_To_insert_0 0 rfl ?_
  refine g_get C f_To_25 hto rfl d_To_insert_1 ?_
  refine g_istore (lv' := [(4, .int (iI ((cn : Int)))), (0, .ref a), (1, .ref b), (2, .int (iI ((g : Int)))), (3, .int (iI lg))]) C d_To_insert_4 (by decide) rfl ?_
  refine g_world (up_same hoa).symm ?_
  refine g_toX ?_
  refine g_sub [1, 2, 3, 4, 0] rfl (g_loop (σ := Nat × (Nat → Option Nat)) (fun x => x.1) (fun x => (g ≤ x.1 ∧ x.1 ≤ cn) ∧ (∀ j, x.2 j = if x.1 < j ∧ j ≤ cn then so (j - 1) else so j)) (fun x => [(0, .ref a), (1, .ref b), (2, .int (iI ((g : Int)))), (3, .int (iI lg)), (4, .int (iI ((x.1 : Int))))]) (fun x => (va_up M oa (some (.inl (tc tys 4, 20, .inr (.inr (.inr (.inr x.2)))))))) ?_ (cn, so) (⟨by omega, (fun j => by rw [if_neg (by omega)])⟩))
  intro x_ hI ih6
  obtain ⟨i, G⟩ := x_
  try dsimp only at hI ih6 ⊢
  obtain ⟨hi0, hG⟩ := hI
  refine g_iload C d_To_insert_6 4 rfl ?_
  refine g_iload_n C d_To_insert_8 2 rfl ?_
  refine g_icmp_le C 34 d_To_insert_9 rfl (by omega) (fun c1 => ?_) (fun c1 => ?_)
  · refine g_aload_n C d_To_insert_34 0 rfl ?_
    refine g_get C f_To_11 ((wd_up_n (ne_oa hto hoa)).trans hto) rfl d_To_insert_35 ?_
    refine g_iload_n C d_To_insert_38 2 rfl ?_
    refine g_aload_n C d_To_insert_39 1 rfl ?_
    refine g_aast C 4 hT4 rfl wd_up_s ((wd_up_n (ne_oa hb hoa)).trans hb) (by omega) d_To_insert_40 ?_
    refine g_world (bx_uu _ _ _ _) ?_
    refine g_aload_n C d_To_insert_41 0 rfl ?_
    refine g_dup C rfl d_To_insert_42 ?_
    refine g_get C f_To_25 ((wd_up_n (ne_oa hto hoa)).trans hto) rfl d_To_insert_43 ?_
    refine g_iconst C d_To_insert_46 ?_
    refine g_iadd C d_To_insert_47 ?_
    refine g_put C p_To_25 ((wd_up_n (ne_oa hto hoa)).trans hto) rfl rfl (Nat.le_of_ble_eq_true rfl) (fs' := [.ref oa, va_rf go, .int (iI dy), .int (iI (((cn : Int)) + 1)), .int (iI dn), .int (iI wk), .int (iI wo)]) rfl d_To_insert_48 ?_
    refine g_aload_n C d_To_insert_51 0 rfl ?_
    refine g_dup C rfl d_To_insert_52 ?_
    refine g_get C f_To_31 wd_up_s rfl d_To_insert_53 ?_
    refine g_iload_n C d_To_insert_56 3 rfl ?_
    refine g_iadd C d_To_insert_57 ?_
    refine g_put C p_To_31 wd_up_s rfl rfl (Nat.le_of_ble_eq_true rfl) (fs' := [.ref oa, va_rf go, .int (iI dy), .int (iI (((cn : Int)) + 1)), .int (iI dn), .int (iI (wk + lg)), .int (iI wo)]) rfl d_To_insert_58 ?_
    refine g_world (bx_uu _ _ _ _) ?_
    refine g_aload_n C d_To_insert_61 0 rfl ?_
    refine g_dup C rfl d_To_insert_62 ?_
    refine g_get C f_To_34 wd_up_s rfl d_To_insert_63 ?_
    refine g_aload_n C d_To_insert_66 1 rfl ?_
    refine g_get C f_To_43 ((wd_up_n (ne_oo hb hto (by decide))).trans ((wd_up_n (ne_oa hb hoa)).trans hb)) rfl d_To_insert_67 ?_
    refine g_iadd C d_To_insert_70 ?_
    refine g_put C p_To_34 wd_up_s rfl rfl (Nat.le_of_ble_eq_true rfl) (fs' := [.ref oa, va_rf go, .int (iI dy), .int (iI (((cn : Int)) + 1)), .int (iI dn), .int (iI (wk + lg)), .int (iI (wo + (tb 4)))]) rfl d_To_insert_71 ?_
    refine g_world (bx_uu _ _ _ _) ?_
    exact g_vret C hr d_To_insert_74 ⟨_, ins_end (by omega) hG, rfl⟩
  · obtain ⟨b1, fs1, hb1s, hb1⟩ := hel (i - 1) (by omega)
    refine g_aload_n C d_To_insert_12 0 rfl ?_
    refine g_get C f_To_11 ((wd_up_n (ne_oa hto hoa)).trans hto) rfl d_To_insert_13 ?_
    refine g_iload C d_To_insert_16 4 rfl ?_
    refine g_aload_n C d_To_insert_18 0 rfl ?_
    refine g_get C f_To_11 ((wd_up_n (ne_oa hto hoa)).trans hto) rfl d_To_insert_19 ?_
    refine g_iload C d_To_insert_22 4 rfl ?_
    refine g_iconst C d_To_insert_24 ?_
    refine g_isub C d_To_insert_25 ?_
    refine g_aald C 4 hT4 wd_up_s (by omega) (by rw [show ((i : Int) - 1).toNat = i - 1 by omega, hG, if_neg (by omega)]; exact hb1s) d_To_insert_26 ?_
    refine g_aast C 4 hT4 rfl wd_up_s ((wd_up_n (ne_oa hb1 hoa)).trans hb1) (by omega) d_To_insert_27 ?_
    refine g_world (bx_uu _ _ _ _) ?_
    refine g_iinc (lv' := [(4, .int (iI (((i : Int)) + (-1)))), (0, .ref a), (1, .ref b), (2, .int (iI ((g : Int)))), (3, .int (iI lg))]) C d_To_insert_28 4 rfl (by decide) rfl ?_
    refine g_goto C 6 d_To_insert_31 rfl ?_
    obtain ⟨G2, eG2⟩ : ∃ z : Nat → Option Nat, z = va_up G ((i : Int)).toNat (some b1) := ⟨_, rfl⟩
    rw [← eG2, show (i : Int) + (-1) = ((i - 1 : Nat) : Int) by omega]
    exact g_sub [1, 2, 3, 4, 0] rfl (ih6 (i - 1, G2) ⟨by omega, (by rw [eG2]; exact ins_step (by omega) hG hb1s)⟩ (by first | omega | (dsimp only; omega)))
end
section
/-! THE PLANNER'S TABLES -/
def sLeg (w : Int) : Int := if w = -1 then 1000000 else w
theorem sLeg_or (w : Int) : (w = -1 ∧ sLeg w = 1000000) ∨ (¬ w = -1 ∧ sLeg w = w) := by
  unfold sLeg
  by_cases h : w = -1
  · rw [if_pos h]; omega
  · rw [if_neg h]; omega
/-- all entries within bounds -/
def inB (f : Nat → Int) : Prop := ∀ j, 0 ≤ f j ∧ f j ≤ 1000000
theorem inB_up {f : Nat → Int} {k : Nat} {v : Int} (h : inB f) (hv : 0 ≤ v ∧ v ≤ 1000000) : inB (va_up f k v) := by
  intro j
  unfold va_up
  by_cases e : j = k
  · rw [if_pos e]; exact hv
  · rw [if_neg e]; exact h j
theorem iu_s {f : Nat → Int} {k : Nat} {v : Int} : va_up f k v k = v := if_pos rfl
theorem iu_n {f : Nat → Int} {k j : Nat} {v : Int} (h : j ≠ k) : va_up f k v j = f j := if_neg h
/-- bits of sets -/
def nb (S k : Nat) : Nat := S / 2 ^ k % 2
theorem sBit_nb (S k : Nat) : sBit (S : Int) (k : Int) = (nb S k : Int) := by
  unfold sBit nb
  rw [show (S : Int).toNat = S by omega, show (k : Int).toNat = k by omega]
theorem nb_le {S k : Nat} (h : nb S k = 1) : 2 ^ k ≤ S := by
  unfold nb at h
  rcases Nat.lt_or_ge S (2 ^ k) with q | q
  · rw [Nat.div_eq_of_lt q] at h
    omega
  · exact q
theorem pw_b {k : Nat} (h : k ≤ 7) : 1 ≤ 2 ^ k ∧ 2 ^ k ≤ 128 := by
  have h1 : 2 ^ k ≤ 2 ^ 7 := Nat.pow_le_pow_right (by decide) h
  have h2 : 0 < 2 ^ k := Nat.pow_pos (by decide)
  omega
/-- the measure of legs: rows below i are laid -/
def Ms (n i : Nat) (hl : Nat → Int) (pl : Nat → Nat → Int) (L G : Nat → Int) : Prop := inB G ∧ G 63 = L 63 ∧ ∀ k, k < i → G (56 + k) = hl k ∧ G (k * 8 + 7) = hl k ∧ ∀ j, j < n → G (k * 8 + j) = pl k j
def Mi (n i j : Nat) (hl : Nat → Int) (pl : Nat → Nat → Int) (L G : Nat → Int) : Prop := Ms n i hl pl L G ∧ G (56 + i) = hl i ∧ G (i * 8 + 7) = hl i ∧ ∀ q, q < j → G (i * 8 + q) = pl i q
theorem Ms_0 {n : Nat} {hl : Nat → Int} {pl : Nat → Nat → Int} {L : Nat → Int} (h : inB L) : Ms n 0 hl pl L L := ⟨h, rfl, fun k hk => absurd hk (Nat.not_lt_zero k)⟩
theorem Mi_0 {n i : Nat} {hl : Nat → Int} {pl : Nat → Nat → Int} {L G : Nat → Int} (hn : n ≤ 7 ∧ i < n) (h : Ms n i hl pl L G) (hb : 0 ≤ hl i ∧ hl i ≤ 1000000) : Mi n i 0 hl pl L (va_up (va_up G (56 + i) (hl i)) (i * 8 + 7) (hl i)) := by
  obtain ⟨h1, h2, h3⟩ := h
  refine ⟨⟨inB_up (inB_up h1 hb) hb, ?_, ?_⟩, ?_, iu_s, fun q hq => absurd hq (Nat.not_lt_zero q)⟩
  · rw [iu_n (by omega), iu_n (by omega)]; exact h2
  · intro k hk
    obtain ⟨a1, a2, a3⟩ := h3 k hk
    refine ⟨?_, ?_, fun j hj => ?_⟩
    · rw [iu_n (by omega), iu_n (by omega)]; exact a1
    · rw [iu_n (by omega), iu_n (by omega)]; exact a2
    · rw [iu_n (by omega), iu_n (by omega)]; exact a3 j hj
  · rw [iu_n (by omega)]; exact iu_s
theorem Mi_s {n i j : Nat} {hl : Nat → Int} {pl : Nat → Nat → Int} {L G : Nat → Int} (hn : n ≤ 7 ∧ i < n ∧ j < n) (h : Mi n i j hl pl L G) (hb : 0 ≤ pl i j ∧ pl i j ≤ 1000000) : Mi n i (j + 1) hl pl L (va_up G (i * 8 + j) (pl i j)) := by
  obtain ⟨⟨h1, h2, h3⟩, h4, h5, h6⟩ := h
  refine ⟨⟨inB_up h1 hb, ?_, ?_⟩, ?_, ?_, ?_⟩
  · rw [iu_n (by omega)]; exact h2
  · intro k hk
    obtain ⟨a1, a2, a3⟩ := h3 k hk
    refine ⟨?_, ?_, fun q hq => ?_⟩
    · rw [iu_n (by omega)]; exact a1
    · rw [iu_n (by omega)]; exact a2
    · rw [iu_n (by omega)]; exact a3 q hq
  · rw [iu_n (by omega)]; exact h4
  · rw [iu_n (by omega)]; exact h5
  · intro q hq
    by_cases e : q = j
    · subst e; exact iu_s
    · rw [iu_n (by omega)]; exact h6 q (by omega)
theorem Ms_s {n i : Nat} {hl : Nat → Int} {pl : Nat → Nat → Int} {L G : Nat → Int} (h : Mi n i n hl pl L G) : Ms n (i + 1) hl pl L G := by
  obtain ⟨⟨h1, h2, h3⟩, h4, h5, h6⟩ := h
  refine ⟨h1, h2, fun k hk => ?_⟩
  by_cases e : k = i
  · subst e; exact ⟨h4, h5, h6⟩
  · exact h3 k (by omega)
/-- the least rest from v by the set S, over the first k nodes; L: legs, T: the table, both flat -/
def sLst (L T : Nat → Int) (S v : Nat) : Nat → Int
  | 0 => 1000000
  | k + 1 => if nb S k = 1 ∧ L (v * 8 + k) + T ((S - 2 ^ k) * 8 + k) < sLst L T S v k then L (v * 8 + k) + T ((S - 2 ^ k) * 8 + k) else sLst L T S v k
def sRst (L T : Nat → Int) (n S v : Nat) : Int := if S = 0 then L (v * 8 + 7) else sLst L T S v n
theorem sLst_b {L T : Nat → Int} {S v k : Nat} (hL : inB L) (hT : inB T) : 0 ≤ sLst L T S v k ∧ sLst L T S v k ≤ 1000000 := by
  induction k with
  | zero => unfold sLst; omega
  | succ k ih =>
    unfold sLst
    have h1 := hL (v * 8 + k)
    have h2 := hT ((S - 2 ^ k) * 8 + k)
    split <;> omega
theorem sRst_b {L T : Nat → Int} {n S v : Nat} (hL : inB L) (hT : inB T) : 0 ≤ sRst L T n S v ∧ sRst L T n S v ≤ 1000000 := by
  unfold sRst
  split
  · exact hL _
  · exact sLst_b hL hT
/-- the table T holds the least rests of all sets below b -/
def isT (L T : Nat → Int) (n b : Nat) : Prop := ∀ S, S < b → T (S * 8 + 7) = sRst L T n S 7 ∧ ∀ v, v < n → nb S v = 0 → T (S * 8 + v) = sRst L T n S v
theorem sLst_up {L T : Nat → Int} {S v n k j : Nat} {x : Int} (hn : n ≤ 7) (hS : S < 128) (hk : S * 8 ≤ k) (hj : j ≤ n) : sLst L (va_up T k x) S v j = sLst L T S v j := by
  induction j with
  | zero => rfl
  | succ j ih =>
    have e := ih (by omega)
    unfold sLst
    rw [e]
    by_cases hb : nb S j = 1
    · have h1 := nb_le hb
      have h2 := pw_b (k := j) (by omega)
      rw [iu_n (by omega)]
    · rw [if_neg (fun z => hb z.1), if_neg (fun z => hb z.1)]
theorem sRst_up {L T : Nat → Int} {S v n k : Nat} {x : Int} (hn : n ≤ 7) (hS : S < 128) (hk : S * 8 ≤ k) : sRst L (va_up T k x) n S v = sRst L T n S v := by
  unfold sRst
  rw [sLst_up hn hS hk (Nat.le_refl n)]
theorem isT_up {L T : Nat → Int} {n b k : Nat} {x : Int} (hn : n ≤ 7) (hb : b ≤ 128) (hk : b * 8 ≤ k) (h : isT L T n b) : isT L (va_up T k x) n b := by
  intro S hS
  obtain ⟨h1, h2⟩ := h S hS
  refine ⟨?_, fun v hv hz => ?_⟩
  · rw [iu_n (by omega), sRst_up hn (by omega) (by omega)]; exact h1
  · rw [iu_n (by omega), sRst_up hn (by omega) (by omega)]; exact h2 v hv hz
/-- at the set b the nodes below j are laid -/
def isR (L T : Nat → Int) (n b j : Nat) : Prop := isT L T n b ∧ ∀ v, v < j → nb b v = 0 → T (b * 8 + v) = sRst L T n b v
theorem isR_s {L T : Nat → Int} {n b j : Nat} (hn : n ≤ 7) (hb : b < 128) (hj : j < n) (h : isR L T n b j) : isR L (va_up T (b * 8 + j) (sRst L T n b j)) n b (j + 1) := by
  refine ⟨isT_up hn (by omega) (by omega) h.1, fun v hv hz => ?_⟩
  rw [sRst_up hn hb (by omega)]
  by_cases e : v = j
  · subst e; exact iu_s
  · rw [iu_n (by omega)]; exact h.2 v (by omega) hz
theorem isR_n {L T : Nat → Int} {n b j : Nat} (hz0 : ¬ nb b j = 0) (h : isR L T n b j) : isR L T n b (j + 1) := by
  refine ⟨h.1, fun v hv hz => ?_⟩
  by_cases e : v = j
  · subst e; exact absurd hz hz0
  · exact h.2 v (by omega) hz
theorem isT_s {L T : Nat → Int} {n b : Nat} (hn : n ≤ 7) (hb : b < 128) (h : isR L T n b n) : isT L (va_up T (b * 8 + 7) (sRst L T n b 7)) n (b + 1) := by
  intro S hS
  by_cases e : S = b
  · subst e
    refine ⟨?_, fun v hv hz => ?_⟩
    · rw [sRst_up hn hb (by omega)]; exact iu_s
    · rw [sRst_up hn hb (by omega), iu_n (by omega)]; exact h.2 v hv hz
  · exact isT_up hn (by omega) (by omega) h.1 S (by omega)
theorem nb_01 (S k : Nat) : nb S k = 0 ∨ nb S k = 1 := by
  unfold nb
  have := Nat.mod_lt (S / 2 ^ k) (show 0 < 2 by decide)
  omega
end
section
/-! THE PLANNER: written by program (wip/whole/gen/plan.py) -/
set_option maxHeartbeats 4000000 in
set_option maxRecDepth 100000 in
theorem ct_Pn_legOf (l : Launch) (D : va_G) (tys : xK) (A : Nat → Prop) (M : Wm) (hT : tyOK tys) (h a b nl : Nat) (lf : Nat → Nat → Int) (p q : Nat → Int) (hp : okP p) (hq : okP q) (hH : HoA tys M h nl lf) (ha : M a = some (oPl p)) (hb : M b = some (oPl q)) : pT l y_Pn_legOf b_Pn_legOf 4 (some .int) { frames := 4, cells := 0, slots := 0, locals := 91 } D tys A [.ref h, .ref a, .ref b] M (qP (fun z => z = sLeg (sWay nl lf p q))) := by
  refine met_of (own := R_Pn) (lv := [(0, .ref h), (1, .ref a), (2, .ref b)]) rfl (by decide) (Nat.le_of_ble_eq_true rfl) rfl ?_
  intro p_ e_ s_ m_ bl_ me_ c_ C hr hin
  have hT0 := hT
  have hlok := hH.2.1
  obtain ⟨-, -, pa9, la9, np9, gl9, hh9, -⟩ := id hH
  have hlg := sLeg_or (sWay nl lf p q)
  refine g_aload_n C d_Pn_legOf_0 0 rfl ?_
  refine g_aload_n C d_Pn_legOf_1 1 rfl ?_
  refine g_aload_n C d_Pn_legOf_2 2 rfl ?_
  refine g_calliP C (run_V C [.ref a, .ref b] k_Pn_36 (ct_Ho_secondsBetween l D tys A M hT0 h a b nl lf p q hp hq hH ha hb) hh9 ⟨rfl, rfl, Nat.le_of_ble_eq_true rfl, Nat.le_of_ble_eq_true rfl⟩ rfl rfl (Nat.le_of_ble_eq_true rfl) d_Pn_legOf_3 ⟨Nat.le_of_ble_eq_true rfl, Nat.le_of_ble_eq_true rfl⟩) (fun z1 hz1 => ?_)
  have hbz1 := sWay_b (nl := nl) hlok hp hq
  refine g_istore_n (lv' := [(3, .int (iI z1)), (0, .ref h), (1, .ref a), (2, .ref b)]) C d_Pn_legOf_6 (by decide) rfl ?_
  refine g_iload_n C d_Pn_legOf_7 0 rfl ?_
  refine g_iconst C d_Pn_legOf_8 ?_
  refine g_icmp_ne C 17 d_Pn_legOf_9 rfl (by omega) (fun c2 => ?_) (fun c2 => ?_)
  · refine g_iload_n C d_Pn_legOf_17 0 rfl ?_
    exact g_iretP C hr d_Pn_legOf_18 (by omega)
  · refine g_ldc C 1000000 q_Pn_42 d_Pn_legOf_12 ?_
    refine g_goto C 18 d_Pn_legOf_14 rfl ?_
    exact g_iretP C hr d_Pn_legOf_18 (by omega)
set_option maxHeartbeats 4000000 in
set_option maxRecDepth 100000 in
theorem ct_Pn_isIn (l : Launch) (D : va_G) (tys : xK) (A : Nat → Prop) (M : Wm) (v S : Nat) (hv : v ≤ 7) (hS : S ≤ 255) : pT l y_Pn_isIn b_Pn_isIn 2 (some .boolean) { frames := 0, cells := 0, slots := 0, locals := 0 } D tys A [.int (iI ((v : Int))), .int (iI ((S : Int)))] M (qP (fun z => (z = 1 ∧ nb S v = 1) ∨ (z = 0 ∧ nb S v = 0))) := by
  refine met_of (own := R_Pn) (lv := [(0, .int (iI ((v : Int)))), (1, .int (iI ((S : Int))))]) rfl (by decide) (Nat.le_of_ble_eq_true rfl) rfl ?_
  intro p_ e_ s_ m_ bl_ me_ c_ C hr hin
  have hb := sBit_nb S v
  have h01 := nb_01 S v
  refine g_iload_n C d_Pn_isIn_0 1 rfl ?_
  refine g_iload_n C d_Pn_isIn_1 0 rfl ?_
  refine g_ishr C ((((S : Int)).toNat / 2 ^ ((v : Int)).toNat : Nat) : Int) (shr_i (by omega) (by omega)) d_Pn_isIn_2 ?_
  refine g_iconst C d_Pn_isIn_3 ?_
  refine g_iand C (sBit ((S : Int)) ((v : Int))) (and1_i (by omega)) d_Pn_isIn_4 ?_
  refine g_iconst C d_Pn_isIn_5 ?_
  refine g_icmp_ne C 13 d_Pn_isIn_6 rfl (by omega) (fun c1 => ?_) (fun c1 => ?_)
  · refine g_iconst C d_Pn_isIn_13 ?_
    exact g_zretP C hr (by omega) d_Pn_isIn_14 (by omega)
  · refine g_iconst C d_Pn_isIn_9 ?_
    refine g_goto C 14 d_Pn_isIn_10 rfl ?_
    exact g_zretP C hr (by omega) d_Pn_isIn_14 (by omega)
set_option maxHeartbeats 4000000 in
set_option maxRecDepth 100000 in
theorem ct_Pn_firstOnes (l : Launch) (D : va_G) (tys : xK) (A : Nat → Prop) (M : Wm) (n : Nat) (hn : n ≤ 7) : pT l y_Pn_firstOnes b_Pn_firstOnes 1 (some .int) { frames := 0, cells := 0, slots := 0, locals := 0 } D tys A [.int (iI ((n : Int)))] M (qP (fun z => z = ((2 ^ n : Nat) : Int) - 1)) := by
  refine met_of (own := R_Pn) (lv := [(0, .int (iI ((n : Int))))]) rfl (by decide) (Nat.le_of_ble_eq_true rfl) rfl ?_
  intro p_ e_ s_ m_ bl_ me_ c_ C hr hin
  refine g_iconst C d_Pn_firstOnes_0 ?_
  refine g_iload_n C d_Pn_firstOnes_1 0 rfl ?_
  refine g_ishl C ((2 ^ ((n : Int)).toNat : Nat) : Int) (shl_i (by omega)) d_Pn_firstOnes_2 ?_
  refine g_iconst C d_Pn_firstOnes_3 ?_
  refine g_isub C d_Pn_firstOnes_4 ?_
  exact g_iretP C hr d_Pn_firstOnes_5 (by rw [show (n : Int).toNat = n by omega])
set_option maxHeartbeats 4000000 in
set_option maxRecDepth 100000 in
theorem ct_Pn_restBy (l : Launch) (D : va_G) (tys : xK) (A : Nat → Prop) (M : Wm) (hT : tyOK tys) (a ca ga ra n : Nat) (L T : Nat → Int) (hn : n ≤ 7) (hL : inB L) (hTb : inB T) (v k S : Nat) (hv : v ≤ 7) (hk : k < 7) (hS : S < 128) (hb : nb S k = 1) (hpn : M a = some (.inr (5, [.ref ca, .ref ga, .ref ra, .int (iI ((n : Int)))]))) (hga : M ga = some (aI tys 64 L)) (hra : M ra = some (aI tys 1024 T)) : pT l y_Pn_restBy b_Pn_restBy 4 (some .int) { frames := 0, cells := 0, slots := 0, locals := 0 } D tys A [.ref a, .int (iI ((v : Int))), .int (iI ((k : Int))), .int (iI ((S : Int)))] M (qP (fun z => z = L (v * 8 + k) + T ((S - 2 ^ k) * 8 + k))) := by
  refine met_of (own := R_Pn) (lv := [(0, .ref a), (1, .int (iI ((v : Int)))), (2, .int (iI ((k : Int)))), (3, .int (iI ((S : Int))))]) rfl (by decide) (Nat.le_of_ble_eq_true rfl) rfl ?_
  intro p_ e_ s_ m_ bl_ me_ c_ C hr hin
  obtain ⟨hT0, -⟩ := hT
  have hle := nb_le hb
  have hpw := pw_b (k := k) (by omega)
  have ek : (k : Int).toNat = k := by omega
  refine g_aload_n C d_Pn_restBy_0 0 rfl ?_
  refine g_get C f_Pn_17 hpn rfl d_Pn_restBy_1 ?_
  refine g_iload_n C d_Pn_restBy_4 1 rfl ?_
  refine g_bipush C d_Pn_restBy_5 (by decide) ?_
  refine g_imul C d_Pn_restBy_7 ?_
  refine g_iload_n C d_Pn_restBy_8 2 rfl ?_
  refine g_iadd C d_Pn_restBy_9 ?_
  refine g_iald C 0 hT0 hga (by omega) d_Pn_restBy_10 ?_
  refine g_aload_n C d_Pn_restBy_11 0 rfl ?_
  refine g_get C f_Pn_21 hpn rfl d_Pn_restBy_12 ?_
  refine g_iload_n C d_Pn_restBy_15 3 rfl ?_
  refine g_iconst C d_Pn_restBy_16 ?_
  refine g_iload_n C d_Pn_restBy_17 2 rfl ?_
  refine g_ishl C ((2 ^ ((k : Int)).toNat : Nat) : Int) (shl_i (by omega)) d_Pn_restBy_18 ?_
  rw [ek]
  refine g_isub C d_Pn_restBy_19 ?_
  refine g_bipush C d_Pn_restBy_20 (by decide) ?_
  refine g_imul C d_Pn_restBy_22 ?_
  refine g_iload_n C d_Pn_restBy_23 2 rfl ?_
  refine g_iadd C d_Pn_restBy_24 ?_
  refine g_iald C 0 hT0 hra (by omega) d_Pn_restBy_25 ?_
  refine g_iadd C d_Pn_restBy_26 ?_
  exact g_iretP C hr d_Pn_restBy_27 (by rw [show ((v : Int) * 8 + (k : Int)).toNat = v * 8 + k by omega, show (((S : Int) - ((2 ^ k : Nat) : Int)) * 8 + (k : Int)).toNat = (S - 2 ^ k) * 8 + k by omega])
set_option maxHeartbeats 4000000 in
set_option maxRecDepth 100000 in
theorem ct_Pn_leastRest (l : Launch) (D : va_G) (tys : xK) (A : Nat → Prop) (M : Wm) (hT : tyOK tys) (a ca ga ra n : Nat) (L T : Nat → Int) (hn : n ≤ 7) (hL : inB L) (hTb : inB T) (v S : Nat) (hv : v ≤ 7) (hS : S < 128) (hpn : M a = some (.inr (5, [.ref ca, .ref ga, .ref ra, .int (iI ((n : Int)))]))) (hga : M ga = some (aI tys 64 L)) (hra : M ra = some (aI tys 1024 T)) : pT l y_Pn_leastRest b_Pn_leastRest 5 (some .int) { frames := 1, cells := 0, slots := 0, locals := 23 } D tys A [.ref a, .int (iI ((v : Int))), .int (iI ((S : Int)))] M (qP (fun z => z = sRst L T n S v)) := by
  refine met_of (own := R_Pn) (lv := [(0, .ref a), (1, .int (iI ((v : Int)))), (2, .int (iI ((S : Int))))]) rfl (by decide) (Nat.le_of_ble_eq_true rfl) rfl ?_
  intro p_ e_ s_ m_ bl_ me_ c_ C hr hin
  have hT9 := hT
  obtain ⟨hT0, -⟩ := hT
  refine g_iload_n C d_Pn_leastRest_0 2 rfl ?_
  refine g_if_ne C 17 d_Pn_leastRest_1 rfl (by omega) (fun c1 => ?_) (fun c1 => ?_)
  · refine g_ldc C 1000000 q_Pn_42 d_Pn_leastRest_17 ?_
    refine g_istore_n (lv' := [(3, .int (iI 1000000)), (0, .ref a), (1, .int (iI ((v : Int)))), (2, .int (iI ((S : Int))))]) C d_Pn_leastRest_19 (by decide) rfl ?_
    refine g_iconst C d_Pn_leastRest_20 ?_
    refine g_istore (lv' := [(4, .int (iI 0)), (3, .int (iI 1000000)), (0, .ref a), (1, .int (iI ((v : Int)))), (2, .int (iI ((S : Int))))]) C d_Pn_leastRest_21 (by decide) rfl ?_
    refine g_sub [2, 3, 4, 1, 0] rfl (g_loop (σ := Nat) (fun x => n - x) (fun x => (x ≤ n)) (fun x => [(0, .ref a), (1, .int (iI ((v : Int)))), (2, .int (iI ((S : Int)))), (3, .int (iI (sLst L T S v x))), (4, .int (iI ((x : Int))))]) (fun x => M) ?_ (0) (Nat.zero_le _))
    intro x_ hI ih23
    obtain ⟨k, rfl⟩ : ∃ z, z = x_ := ⟨_, rfl⟩
    try dsimp only at hI ih23 ⊢
    obtain hk0 := hI
    have hsb := sLst_b (S := S) (v := v) (k := k) hL hTb
    refine g_iload C d_Pn_leastRest_23 4 rfl ?_
    refine g_aload_n C d_Pn_leastRest_25 0 rfl ?_
    refine g_get C f_Pn_24 hpn rfl d_Pn_leastRest_26 ?_
    refine g_icmp_ge C 60 d_Pn_leastRest_29 rfl (by omega) (fun c2 => ?_) (fun c2 => ?_)
    · refine g_iload_n C d_Pn_leastRest_60 3 rfl ?_
      exact g_iretP C hr d_Pn_leastRest_61 (by unfold sRst; rw [if_neg (by omega), show k = n by omega])
    · refine g_iload C d_Pn_leastRest_32 4 rfl ?_
      refine g_iload_n C d_Pn_leastRest_34 2 rfl ?_
      refine g_calliP C (run_S C [.int (iI ((k : Int))), .int (iI ((S : Int)))] k_Pn_43 (ct_Pn_isIn l D tys A M k S (by omega) (by omega)) ⟨rfl, rfl, Nat.le_of_ble_eq_true rfl, Nat.le_of_ble_eq_true rfl⟩ rfl rfl (Nat.le_of_ble_eq_true rfl) d_Pn_leastRest_35 ⟨Nat.le_of_ble_eq_true rfl, Nat.le_of_ble_eq_true rfl⟩) (fun z3 hz3 => ?_)
      refine g_if_eq C 54 d_Pn_leastRest_38 rfl (by omega) (fun c4 => ?_) (fun c4 => ?_)
      · refine g_iinc (lv' := [(4, .int (iI (((k : Int)) + 1))), (0, .ref a), (1, .int (iI ((v : Int)))), (2, .int (iI ((S : Int)))), (3, .int (iI (sLst L T S v k)))]) C d_Pn_leastRest_54 4 rfl (by decide) rfl ?_
        refine g_goto C 23 d_Pn_leastRest_57 rfl ?_
        have hE : sLst L T S v (k + 1) = sLst L T S v k := by
          rw [sLst.eq_2, if_neg (by omega)]
        rw [← hE]
        exact g_sub [1, 2, 3, 4, 0] rfl (ih23 (k + 1) (by omega) (by first | omega | (dsimp only; omega)))
      · refine g_iload_n C d_Pn_leastRest_41 3 rfl ?_
        refine g_aload_n C d_Pn_leastRest_42 0 rfl ?_
        refine g_iload_n C d_Pn_leastRest_43 1 rfl ?_
        refine g_iload C d_Pn_leastRest_44 4 rfl ?_
        refine g_iload_n C d_Pn_leastRest_46 2 rfl ?_
        refine g_calliP C (run_V C [.int (iI ((v : Int))), .int (iI ((k : Int))), .int (iI ((S : Int)))] k_Pn_51 (ct_Pn_restBy l D tys A M hT9 a ca ga ra n L T hn hL hTb v k S (by omega) (by omega) (by omega) (by omega) hpn hga hra) hpn ⟨rfl, rfl, Nat.le_of_ble_eq_true rfl, Nat.le_of_ble_eq_true rfl⟩ rfl rfl (Nat.le_of_ble_eq_true rfl) d_Pn_leastRest_47 ⟨Nat.le_of_ble_eq_true rfl, Nat.le_of_ble_eq_true rfl⟩) (fun z5 hz5 => ?_)
        have hb1z5 := hL (v * 8 + k)
        have hb2z5 := hTb ((S - 2 ^ k) * 8 + k)
        refine g_mmin C k_Pn_55 (by omega) ⟨Nat.le_of_ble_eq_true rfl, Nat.le_of_ble_eq_true rfl, Nat.le_of_ble_eq_true rfl, Nat.le_of_ble_eq_true rfl⟩ d_Pn_leastRest_50 ?_
        obtain ⟨z6, ez6⟩ : ∃ z : Int, z = if z5 < sLst L T S v k then z5 else sLst L T S v k := ⟨_, rfl⟩
        rw [← ez6]
        have hz6 : (z5 < sLst L T S v k ∧ z6 = z5) ∨ (¬ z5 < sLst L T S v k ∧ z6 = sLst L T S v k) := by rw [ez6]; split <;> omega
        refine g_istore_n (lv' := [(3, .int (iI z6)), (0, .ref a), (1, .int (iI ((v : Int)))), (2, .int (iI ((S : Int)))), (4, .int (iI ((k : Int))))]) C d_Pn_leastRest_53 (by decide) rfl ?_
        refine g_iinc (lv' := [(4, .int (iI (((k : Int)) + 1))), (3, .int (iI z6)), (0, .ref a), (1, .int (iI ((v : Int)))), (2, .int (iI ((S : Int))))]) C d_Pn_leastRest_54 4 rfl (by decide) rfl ?_
        refine g_goto C 23 d_Pn_leastRest_57 rfl ?_
        have hE : z6 = sLst L T S v (k + 1) := by
          rw [sLst.eq_2]
          split <;> omega
        rw [hE]
        exact g_sub [2, 3, 4, 1, 0] rfl (ih23 (k + 1) (by omega) (by first | omega | (dsimp only; omega)))
  · refine g_aload_n C d_Pn_leastRest_4 0 rfl ?_
    refine g_get C f_Pn_17 hpn rfl d_Pn_leastRest_5 ?_
    refine g_iload_n C d_Pn_leastRest_8 1 rfl ?_
    refine g_bipush C d_Pn_leastRest_9 (by decide) ?_
    refine g_imul C d_Pn_leastRest_11 ?_
    refine g_bipush C d_Pn_leastRest_12 (by decide) ?_
    refine g_iadd C d_Pn_leastRest_14 ?_
    refine g_iald C 0 hT0 hga (by omega) d_Pn_leastRest_15 ?_
    exact g_iretP C hr d_Pn_leastRest_16 (by unfold sRst; rw [if_pos (by omega), show ((v : Int) * 8 + 7).toNat = v * 8 + 7 by omega])
set_option maxHeartbeats 4000000 in
set_option maxRecDepth 100000 in
theorem ct_Pn_leastWalks (l : Launch) (D : va_G) (tys : xK) (A : Nat → Prop) (M : Wm) (hT : tyOK tys) (a ca ga ra n : Nat) (L T : Nat → Int) (hn : n ≤ 7) (hL : inB L) (hTb : inB T) (k : Nat) (hk : k ≤ 7) (hpn : M a = some (.inr (5, [.ref ca, .ref ga, .ref ra, .int (iI ((n : Int)))]))) (hga : M ga = some (aI tys 64 L)) (hra : M ra = some (aI tys 1024 T)) : pT l y_Pn_leastWalks b_Pn_leastWalks 2 (some .int) { frames := 1, cells := 0, slots := 0, locals := 20 } D tys A [.ref a, .int (iI ((k : Int)))] M (qP (fun z => z = T ((2 ^ k - 1) * 8 + 7))) := by
  refine met_of (own := R_Pn) (lv := [(0, .ref a), (1, .int (iI ((k : Int))))]) rfl (by decide) (Nat.le_of_ble_eq_true rfl) rfl ?_
  intro p_ e_ s_ m_ bl_ me_ c_ C hr hin
  have hT9 := hT
  obtain ⟨hT0, -⟩ := hT
  have hpw := pw_b (k := k) (by omega)
  refine g_aload_n C d_Pn_leastWalks_0 0 rfl ?_
  refine g_get C f_Pn_21 hpn rfl d_Pn_leastWalks_1 ?_
  refine g_iload_n C d_Pn_leastWalks_4 1 rfl ?_
  refine g_calliP C (run_S C [.int (iI ((k : Int)))] k_Pn_60 (ct_Pn_firstOnes l D tys A M k (by omega)) ⟨rfl, rfl, Nat.le_of_ble_eq_true rfl, Nat.le_of_ble_eq_true rfl⟩ rfl rfl (Nat.le_of_ble_eq_true rfl) d_Pn_leastWalks_5 ⟨Nat.le_of_ble_eq_true rfl, Nat.le_of_ble_eq_true rfl⟩) (fun z1 hz1 => ?_)
  refine g_bipush C d_Pn_leastWalks_8 (by decide) ?_
  refine g_imul C d_Pn_leastWalks_10 ?_
  refine g_bipush C d_Pn_leastWalks_11 (by decide) ?_
  refine g_iadd C d_Pn_leastWalks_13 ?_
  refine g_iald C 0 hT0 hra (by omega) d_Pn_leastWalks_14 ?_
  exact g_iretP C hr d_Pn_leastWalks_15 (by rw [hz1, show (((2 ^ k : Nat) : Int) - 1) * 8 + 7 = (((2 ^ k - 1) * 8 + 7 : Nat) : Int) by omega]; rfl)
end
section
/-! A HOUSE stays where another cell is written -/
def hok (tys : xK) (e : va_E) : Prop := match e with
  | .inr o => o.1 ≠ 0 ∧ o.1 ≠ 1
  | .inl (c, _, .inl _) => True
  | .inl (c, _, .inr _) => c ≠ tc tys 3
theorem HoA_up {tys : xK} {M : Wm} {h nl a : Nat} {lf : Nat → Nat → Int} {e x : va_E} (hH : HoA tys M h nl lf) (ha : M a = some e) (hk : hok tys e) : HoA tys (va_up M a (some x)) h nl lf := by
  obtain ⟨h1, h2, pa, la, np, gl, h3, h4, h5⟩ := hH
  have n1 : h ≠ a := by
    intro q
    rw [← q, h3] at ha
    cases ha
    exact hk.1 rfl
  have n2 : la ≠ a := by
    intro q
    rw [← q, h4] at ha
    cases ha
    exact hk rfl
  refine ⟨h1, h2, pa, la, np, gl, (wd_up_n n1).trans h3, (wd_up_n n2).trans h4, fun k hkk => ?_⟩
  obtain ⟨y, g1, g2⟩ := h5 k hkk
  have n3 : y ≠ a := by
    intro q
    rw [← q, g2] at ha
    cases ha
    exact hk.2 rfl
  exact ⟨y, g1, (wd_up_n n3).trans g2⟩
end
section
/-! THE PLANNER, its writers: written by program (wip/whole/gen/plan2.py) -/
set_option maxHeartbeats 4000000 in
set_option maxRecDepth 100000 in
theorem ct_Pn_measure (l : Launch) (D : va_G) (tys : xK) (A : Nat → Prop) (M : Wm) (hT : tyOK tys) (a ca ga ra n : Nat) (L : Nat → Int) (gc : Nat → Option Nat) (hn : n ≤ 7) (hL : inB L) (hpn : M a = some (.inr (5, [.ref ca, .ref ga, .ref ra, .int (iI ((n : Int)))]))) (hca : M ca = some (aR tys 4 7 gc)) (hga : M ga = some (aI tys 64 L)) (h nl : Nat) (lf : Nat → Nat → Int) (hH : HoA tys M h nl lf) (hm : Nat) (ph : Nat → Int) (hph : okP ph) (hhm : M hm = some (oPl ph)) (pc : Nat → Nat → Int) (hel : ∀ k, k < n → okP (pc k) ∧ ∃ b nb pa t, gc k = some b ∧ M b = some (oPt nb pa t) ∧ M pa = some (oPl (pc k))) : mT l y_Pn_measure b_Pn_measure 6 none { frames := 5, cells := 0, slots := 0, locals := 114 } D tys A [.ref a, .ref h, .ref hm] M (qV D A (fun M' => ∃ G : Nat → Int, Ms n n (fun k_ => sLeg (sWay nl lf ph (pc k_))) (fun k_ j_ => sLeg (sWay nl lf (pc k_) (pc j_))) L G ∧ M' = va_up M ga (some (aI tys 64 G)))) 0 0 := by
  refine met_of (own := R_Pn) (lv := [(0, .ref a), (1, .ref h), (2, .ref hm)]) rfl (by decide) (Nat.le_of_ble_eq_true rfl) rfl ?_
  intro p_ e_ s_ m_ bl_ me_ c_ C hr hin
  have hT9 := hT
  obtain ⟨hT0, -, -, -, hT4, -⟩ := hT
  have hlok := hH.2.1
  obtain ⟨-, -, pa9, la9, np9, gl9, hh9, -⟩ := id hH
  refine g_iconst C d_Pn_measure_0 ?_
  refine g_istore_n (lv' := [(3, .int (iI 0)), (0, .ref a), (1, .ref h), (2, .ref hm)]) C d_Pn_measure_1 (by decide) rfl ?_
  refine g_world (up_same hga).symm ?_
  refine g_toX ?_
  refine g_sub [1, 2, 3, 0] rfl (g_loop (σ := Nat × (Nat → Int)) (fun x => n - x.1) (fun x => (x.1 ≤ n) ∧ (Ms n x.1 (fun k_ => sLeg (sWay nl lf ph (pc k_))) (fun k_ j_ => sLeg (sWay nl lf (pc k_) (pc j_))) L x.2)) (fun x => [(0, .ref a), (1, .ref h), (2, .ref hm), (3, .int (iI ((x.1 : Int))))]) (fun x => (va_up M ga (some (.inl (tc tys 0, 64, .inl (fun j_ => iI (x.2 j_))))))) ?_ (0, L) (⟨Nat.zero_le _, Ms_0 hL⟩))
  intro x_ hI ih2
  obtain ⟨i, G⟩ := x_
  try dsimp only at hI ih2 ⊢
  obtain ⟨hi0, hMs⟩ := hI
  refine g_iload_n C d_Pn_measure_2 3 rfl ?_
  refine g_aload_n C d_Pn_measure_3 0 rfl ?_
  refine g_get C f_Pn_24 ((wd_up_n (ne_oa hpn hga)).trans hpn) rfl d_Pn_measure_4 ?_
  refine g_icmp_ge C 110 d_Pn_measure_7 rfl (by omega) (fun c1 => ?_) (fun c1 => ?_)
  · have eI : i = n := by omega
    exact g_vret C hr d_Pn_measure_110 ⟨G, eI ▸ hMs, rfl⟩
  · obtain ⟨hpk1, b1, n1, pa1, t1, hs1, hb1, hpa1⟩ := hel i (by omega)
    refine g_aload_n C d_Pn_measure_10 1 rfl ?_
    refine g_aload_n C d_Pn_measure_11 2 rfl ?_
    refine g_aload_n C d_Pn_measure_12 0 rfl ?_
    refine g_get C f_Pn_13 ((wd_up_n (ne_oa hpn hga)).trans hpn) rfl d_Pn_measure_13 ?_
    refine g_iload_n C d_Pn_measure_16 3 rfl ?_
    refine g_aald C 4 hT4 ((wd_up_n (Ne.symm (ne_ia hga hca))).trans hca) (by omega) (by rw [show (i : Int).toNat = i by omega]; exact hs1) d_Pn_measure_17 ?_
    refine g_get C f_Pn_28 ((wd_up_n (ne_oa hb1 hga)).trans hb1) rfl d_Pn_measure_18 ?_
    refine g_calliP C (run_S C [.ref h, .ref hm, .ref pa1] k_Pn_32 (ct_Pn_legOf l D tys A (va_up M ga (some (.inl (tc tys 0, 64, .inl (fun j_ => iI (G j_)))))) hT9 h hm pa1 nl lf ph (pc i) hph hpk1 (HoA_up hH hga trivial) ((wd_up_n (ne_oa hhm hga)).trans hhm) ((wd_up_n (ne_oa hpa1 hga)).trans hpa1)) ⟨rfl, rfl, Nat.le_of_ble_eq_true rfl, Nat.le_of_ble_eq_true rfl⟩ rfl rfl (Nat.le_of_ble_eq_true rfl) d_Pn_measure_21 ⟨Nat.le_of_ble_eq_true rfl, Nat.le_of_ble_eq_true rfl⟩) (fun z2 hz2 => ?_)
    have hbz2 := sWay_b (nl := nl) hlok hph hpk1
    have hcz2 := sLeg_or (sWay nl lf ph (pc i))
    refine g_istore (lv' := [(4, .int (iI z2)), (0, .ref a), (1, .ref h), (2, .ref hm), (3, .int (iI ((i : Int))))]) C d_Pn_measure_24 (by decide) rfl ?_
    refine g_aload_n C d_Pn_measure_26 1 rfl ?_
    refine g_get C f_Pn_17 ((wd_up_n (ne_oa hpn hga)).trans hpn) rfl d_Pn_measure_27 ?_
    refine g_bipush C d_Pn_measure_30 (by decide) ?_
    refine g_iload_n C d_Pn_measure_32 4 rfl ?_
    refine g_iadd C d_Pn_measure_33 ?_
    refine g_iload C d_Pn_measure_34 0 rfl ?_
    refine g_iast C 0 hT0 wd_up_s (by omega) d_Pn_measure_36 ?_
    refine g_world (bx_uu _ _ _ _) ?_
    refine g_aload_n C d_Pn_measure_37 1 rfl ?_
    refine g_get C f_Pn_17 ((wd_up_n (ne_oa hpn hga)).trans hpn) rfl d_Pn_measure_38 ?_
    refine g_iload_n C d_Pn_measure_41 4 rfl ?_
    refine g_bipush C d_Pn_measure_42 (by decide) ?_
    refine g_imul C d_Pn_measure_44 ?_
    refine g_bipush C d_Pn_measure_45 (by decide) ?_
    refine g_iadd C d_Pn_measure_47 ?_
    refine g_iload C d_Pn_measure_48 0 rfl ?_
    refine g_iast C 0 hT0 wd_up_s (by omega) d_Pn_measure_50 ?_
    refine g_world (bx_uu _ _ _ _) ?_
    refine g_iconst C d_Pn_measure_51 ?_
    refine g_istore (lv' := [(5, .int (iI 0)), (4, .int (iI z2)), (0, .ref a), (1, .ref h), (2, .ref hm), (3, .int (iI ((i : Int))))]) C d_Pn_measure_52 (by decide) rfl ?_
    obtain ⟨G1, eG1⟩ : ∃ z : Nat → Int, z = va_up (va_up G (56 + ((i : Int))).toNat z2) ((((i : Int)) * 8) + 7).toNat z2 := ⟨_, rfl⟩
    rw [← eG1]
    have hMi0 : Mi n i 0 (fun k_ => sLeg (sWay nl lf ph (pc k_))) (fun k_ j_ => sLeg (sWay nl lf (pc k_) (pc j_))) L G1 := by
      rw [eG1, show ((56 : Int) + (i : Int)).toNat = 56 + i by omega, show ((i : Int) * 8 + 7).toNat = i * 8 + 7 by omega, hz2]
      exact Mi_0 (by omega) hMs (by first | omega | (dsimp only; omega))
    refine g_sub [2, 3, 4, 5, 0] rfl (g_loop (σ := Nat × (Nat → Int)) (fun x => n - x.1) (fun x => (x.1 ≤ n) ∧ (Mi n i x.1 (fun k_ => sLeg (sWay nl lf ph (pc k_))) (fun k_ j_ => sLeg (sWay nl lf (pc k_) (pc j_))) L x.2)) (fun x => [(0, .ref a), (1, .ref h), (2, .ref hm), (3, .int (iI ((i : Int)))), (5, .int (iI ((x.1 : Int))))]) (fun x => (va_up M ga (some (.inl (tc tys 0, 64, .inl (fun j_ => iI (x.2 j_))))))) ?_ (0, G1) (⟨Nat.zero_le _, hMi0⟩))
    intro x_ hI ih54
    obtain ⟨j, G⟩ := x_
    try dsimp only at hI ih54 ⊢
    obtain ⟨hj0, hMi⟩ := hI
    refine g_iload C d_Pn_measure_54 4 rfl ?_
    refine g_aload_n C d_Pn_measure_56 0 rfl ?_
    refine g_get C f_Pn_24 ((wd_up_n (ne_oa hpn hga)).trans hpn) rfl d_Pn_measure_57 ?_
    refine g_icmp_ge C 104 d_Pn_measure_60 rfl (by omega) (fun c3 => ?_) (fun c3 => ?_)
    · refine g_iinc (lv' := [(3, .int (iI (((i : Int)) + 1))), (0, .ref a), (1, .ref h), (2, .ref hm), (5, .int (iI ((j : Int))))]) C d_Pn_measure_104 3 rfl (by decide) rfl ?_
      refine g_goto C 2 d_Pn_measure_107 rfl ?_
      have eJ : j = n := by omega
      rw [eJ] at hMi
      exact g_sub [1, 2, 3, 0] rfl (ih2 (i + 1, G) ⟨by omega, Ms_s hMi⟩ (by first | omega | (dsimp only; omega)))
    · obtain ⟨hpk2, b2, n2, pa2, t2, hs2, hb2, hpa2⟩ := hel j (by omega)
      refine g_aload_n C d_Pn_measure_63 0 rfl ?_
      refine g_get C f_Pn_17 ((wd_up_n (ne_oa hpn hga)).trans hpn) rfl d_Pn_measure_64 ?_
      refine g_iload_n C d_Pn_measure_67 3 rfl ?_
      refine g_bipush C d_Pn_measure_68 (by decide) ?_
      refine g_imul C d_Pn_measure_70 ?_
      refine g_iload C d_Pn_measure_71 4 rfl ?_
      refine g_iadd C d_Pn_measure_73 ?_
      refine g_aload_n C d_Pn_measure_74 1 rfl ?_
      refine g_aload_n C d_Pn_measure_75 0 rfl ?_
      refine g_get C f_Pn_13 ((wd_up_n (ne_oa hpn hga)).trans hpn) rfl d_Pn_measure_76 ?_
      refine g_iload_n C d_Pn_measure_79 3 rfl ?_
      refine g_aald C 4 hT4 ((wd_up_n (Ne.symm (ne_ia hga hca))).trans hca) (by omega) (by rw [show (i : Int).toNat = i by omega]; exact hs1) d_Pn_measure_80 ?_
      refine g_get C f_Pn_28 ((wd_up_n (ne_oa hb1 hga)).trans hb1) rfl d_Pn_measure_81 ?_
      refine g_aload_n C d_Pn_measure_84 0 rfl ?_
      refine g_get C f_Pn_13 ((wd_up_n (ne_oa hpn hga)).trans hpn) rfl d_Pn_measure_85 ?_
      refine g_iload C d_Pn_measure_88 4 rfl ?_
      refine g_aald C 4 hT4 ((wd_up_n (Ne.symm (ne_ia hga hca))).trans hca) (by omega) (by rw [show (j : Int).toNat = j by omega]; exact hs2) d_Pn_measure_90 ?_
      refine g_get C f_Pn_28 ((wd_up_n (ne_oa hb2 hga)).trans hb2) rfl d_Pn_measure_91 ?_
      refine g_calliP C (run_S C [.ref h, .ref pa1, .ref pa2] k_Pn_32 (ct_Pn_legOf l D tys A (va_up M ga (some (.inl (tc tys 0, 64, .inl (fun j_ => iI (G j_)))))) hT9 h pa1 pa2 nl lf (pc i) (pc j) hpk1 hpk2 (HoA_up hH hga trivial) ((wd_up_n (ne_oa hpa1 hga)).trans hpa1) ((wd_up_n (ne_oa hpa2 hga)).trans hpa2)) ⟨rfl, rfl, Nat.le_of_ble_eq_true rfl, Nat.le_of_ble_eq_true rfl⟩ rfl rfl (Nat.le_of_ble_eq_true rfl) d_Pn_measure_94 ⟨Nat.le_of_ble_eq_true rfl, Nat.le_of_ble_eq_true rfl⟩) (fun z4 hz4 => ?_)
      have hbz4 := sWay_b (nl := nl) hlok hpk1 hpk2
      have hcz4 := sLeg_or (sWay nl lf (pc i) (pc j))
      refine g_iast C 0 hT0 wd_up_s (by omega) d_Pn_measure_97 ?_
      refine g_world (bx_uu _ _ _ _) ?_
      refine g_iinc (lv' := [(5, .int (iI (((j : Int)) + 1))), (0, .ref a), (1, .ref h), (2, .ref hm), (3, .int (iI ((i : Int))))]) C d_Pn_measure_98 4 rfl (by decide) rfl ?_
      refine g_goto C 54 d_Pn_measure_101 rfl ?_
      obtain ⟨G2, eG2⟩ : ∃ z : Nat → Int, z = va_up G ((((i : Int)) * 8) + ((j : Int))).toNat z4 := ⟨_, rfl⟩
      rw [← eG2]
      exact g_sub [1, 2, 3, 4, 0] rfl (ih54 (j + 1, G2) ⟨by omega, (by rw [eG2, show ((i : Int) * 8 + (j : Int)).toNat = i * 8 + j by omega, hz4]; exact Mi_s (by omega) hMi (by first | omega | (dsimp only; omega)))⟩ (by first | omega | (dsimp only; omega)))
set_option maxHeartbeats 4000000 in
set_option maxRecDepth 100000 in
theorem ct_Pn_plan (l : Launch) (D : va_G) (tys : xK) (A : Nat → Prop) (M : Wm) (hT : tyOK tys) (a ca ga ra n : Nat) (L T : Nat → Int) (hn : n ≤ 7) (hL : inB L) (hTb : inB T) (hpn : M a = some (.inr (5, [.ref ca, .ref ga, .ref ra, .int (iI ((n : Int)))]))) (hga : M ga = some (aI tys 64 L)) (hra : M ra = some (aI tys 1024 T)) (hgr : ga ≠ ra) : mT l y_Pn_plan b_Pn_plan 3 none { frames := 2, cells := 0, slots := 0, locals := 47 } D tys A [.ref a] M (qV D A (fun M' => ∃ T2 : Nat → Int, inB T2 ∧ isT L T2 n (2 ^ n) ∧ M' = va_up M ra (some (aI tys 1024 T2)))) 0 0 := by
  refine met_of (own := R_Pn) (lv := [(0, .ref a)]) rfl (by decide) (Nat.le_of_ble_eq_true rfl) rfl ?_
  intro p_ e_ s_ m_ bl_ me_ c_ C hr hin
  have hT9 := hT
  obtain ⟨hT0, -⟩ := hT
  have hpn2 := pw_b (k := n) hn
  have en : (n : Int).toNat = n := by omega
  refine g_iconst C d_Pn_plan_0 ?_
  refine g_istore_n (lv' := [(1, .int (iI 0)), (0, .ref a)]) C d_Pn_plan_1 (by decide) rfl ?_
  refine g_world (up_same hra).symm ?_
  refine g_toX ?_
  refine g_sub [1, 0] rfl (g_loop (σ := Nat × (Nat → Int)) (fun x => 2 ^ n - x.1) (fun x => (x.1 ≤ 2 ^ n) ∧ (inB x.2) ∧ (isT L x.2 n x.1)) (fun x => [(0, .ref a), (1, .int (iI ((x.1 : Int))))]) (fun x => (va_up M ra (some (.inl (tc tys 0, 1024, .inl (fun j_ => iI (x.2 j_))))))) ?_ (0, T) (⟨Nat.zero_le _, hTb, (fun S hS => absurd hS (Nat.not_lt_zero S))⟩))
  intro x_ hI ih2
  obtain ⟨b, Tq⟩ := x_
  try dsimp only at hI ih2 ⊢
  obtain ⟨hb0, hTb, hIs⟩ := hI
  refine g_iload_n C d_Pn_plan_2 1 rfl ?_
  refine g_iconst C d_Pn_plan_3 ?_
  refine g_aload_n C d_Pn_plan_4 0 rfl ?_
  refine g_get C f_Pn_24 ((wd_up_n (ne_oa hpn hra)).trans hpn) rfl d_Pn_plan_5 ?_
  refine g_ishl C ((2 ^ ((n : Int)).toNat : Nat) : Int) (shl_i (by omega)) d_Pn_plan_8 ?_
  rw [en]
  refine g_icmp_ge C 78 d_Pn_plan_9 rfl (by omega) (fun c1 => ?_) (fun c1 => ?_)
  · exact g_vret C hr d_Pn_plan_78 ⟨Tq, hTb, (show b = 2 ^ n by omega) ▸ hIs, rfl⟩
  · refine g_iconst C d_Pn_plan_12 ?_
    refine g_istore_n (lv' := [(2, .int (iI 0)), (0, .ref a), (1, .int (iI ((b : Int))))]) C d_Pn_plan_13 (by decide) rfl ?_
    refine g_sub [1, 2, 0] rfl (g_loop (σ := Nat × (Nat → Int)) (fun x => n - x.1) (fun x => (x.1 ≤ n) ∧ (inB x.2) ∧ (isR L x.2 n b x.1)) (fun x => [(0, .ref a), (1, .int (iI ((b : Int)))), (2, .int (iI ((x.1 : Int))))]) (fun x => (va_up M ra (some (.inl (tc tys 0, 1024, .inl (fun j_ => iI (x.2 j_))))))) ?_ (0, Tq) (⟨Nat.zero_le _, hTb, ⟨hIs, fun v hv => absurd hv (Nat.not_lt_zero v)⟩⟩))
    intro x_ hI ih14
    obtain ⟨j, Tq⟩ := x_
    try dsimp only at hI ih14 ⊢
    obtain ⟨hj0, hTb, hR⟩ := hI
    refine g_iload_n C d_Pn_plan_14 2 rfl ?_
    refine g_aload_n C d_Pn_plan_15 0 rfl ?_
    refine g_get C f_Pn_24 ((wd_up_n (ne_oa hpn hra)).trans hpn) rfl d_Pn_plan_16 ?_
    refine g_icmp_ge C 53 d_Pn_plan_19 rfl (by omega) (fun c2 => ?_) (fun c2 => ?_)
    · refine g_aload_n C d_Pn_plan_53 0 rfl ?_
      refine g_get C f_Pn_21 ((wd_up_n (ne_oa hpn hra)).trans hpn) rfl d_Pn_plan_54 ?_
      refine g_iload_n C d_Pn_plan_57 1 rfl ?_
      refine g_bipush C d_Pn_plan_58 (by decide) ?_
      refine g_imul C d_Pn_plan_60 ?_
      refine g_bipush C d_Pn_plan_61 (by decide) ?_
      refine g_iadd C d_Pn_plan_63 ?_
      refine g_aload_n C d_Pn_plan_64 0 rfl ?_
      refine g_bipush C d_Pn_plan_65 (by decide) ?_
      refine g_iload_n C d_Pn_plan_67 1 rfl ?_
      refine g_calliP C (run_V C [.int (iI 7), .int (iI ((b : Int)))] k_Pn_47 (ct_Pn_leastRest l D tys A (va_up M ra (some (.inl (tc tys 0, 1024, .inl (fun j_ => iI (Tq j_)))))) hT9 a ca ga ra n L Tq hn hL hTb 7 b (by omega) (by omega) ((wd_up_n (ne_oa hpn hra)).trans hpn) ((wd_up_n hgr).trans hga) wd_up_s) ((wd_up_n (ne_oa hpn hra)).trans hpn) ⟨rfl, rfl, Nat.le_of_ble_eq_true rfl, Nat.le_of_ble_eq_true rfl⟩ rfl rfl (Nat.le_of_ble_eq_true rfl) d_Pn_plan_68 ⟨Nat.le_of_ble_eq_true rfl, Nat.le_of_ble_eq_true rfl⟩) (fun z3 hz3 => ?_)
      have hrbz3 := sRst_b (n := n) (S := b) (v := 7) hL hTb
      refine g_iast C 0 hT0 wd_up_s (by omega) d_Pn_plan_71 ?_
      refine g_world (bx_uu _ _ _ _) ?_
      refine g_iinc (lv' := [(1, .int (iI (((b : Int)) + 1))), (0, .ref a), (2, .int (iI ((j : Int))))]) C d_Pn_plan_72 1 rfl (by decide) rfl ?_
      refine g_goto C 2 d_Pn_plan_75 rfl ?_
      obtain ⟨T2, eT2⟩ : ∃ z : Nat → Int, z = va_up Tq ((((b : Int)) * 8) + 7).toNat z3 := ⟨_, rfl⟩
      rw [← eT2]
      have eJ : j = n := by omega
      rw [eJ] at hR
      exact g_sub [1, 0] rfl (ih2 (b + 1, T2) ⟨by omega, (by rw [eT2]; exact inB_up hTb (by omega)), (by rw [eT2, show ((b : Int) * 8 + 7).toNat = b * 8 + 7 by omega, hz3]; exact isT_s hn (by omega) hR)⟩ (by first | omega | (dsimp only; omega)))
    · refine g_iload_n C d_Pn_plan_22 2 rfl ?_
      refine g_iload_n C d_Pn_plan_23 1 rfl ?_
      refine g_calliP C (run_S C [.int (iI ((j : Int))), .int (iI ((b : Int)))] k_Pn_43 (ct_Pn_isIn l D tys A (va_up M ra (some (.inl (tc tys 0, 1024, .inl (fun j_ => iI (Tq j_)))))) j b (by omega) (by omega)) ⟨rfl, rfl, Nat.le_of_ble_eq_true rfl, Nat.le_of_ble_eq_true rfl⟩ rfl rfl (Nat.le_of_ble_eq_true rfl) d_Pn_plan_24 ⟨Nat.le_of_ble_eq_true rfl, Nat.le_of_ble_eq_true rfl⟩) (fun z4 hz4 => ?_)
      refine g_if_ne C 47 d_Pn_plan_27 rfl (by omega) (fun c5 => ?_) (fun c5 => ?_)
      · refine g_iinc (lv' := [(2, .int (iI (((j : Int)) + 1))), (0, .ref a), (1, .int (iI ((b : Int))))]) C d_Pn_plan_47 2 rfl (by decide) rfl ?_
        refine g_goto C 14 d_Pn_plan_50 rfl ?_
        exact g_sub [1, 2, 0] rfl (ih14 (j + 1, Tq) ⟨by omega, hTb, isR_n (by omega) hR⟩ (by first | omega | (dsimp only; omega)))
      · refine g_aload_n C d_Pn_plan_30 0 rfl ?_
        refine g_get C f_Pn_21 ((wd_up_n (ne_oa hpn hra)).trans hpn) rfl d_Pn_plan_31 ?_
        refine g_iload_n C d_Pn_plan_34 1 rfl ?_
        refine g_bipush C d_Pn_plan_35 (by decide) ?_
        refine g_imul C d_Pn_plan_37 ?_
        refine g_iload_n C d_Pn_plan_38 2 rfl ?_
        refine g_iadd C d_Pn_plan_39 ?_
        refine g_aload_n C d_Pn_plan_40 0 rfl ?_
        refine g_iload_n C d_Pn_plan_41 2 rfl ?_
        refine g_iload_n C d_Pn_plan_42 1 rfl ?_
        refine g_calliP C (run_V C [.int (iI ((j : Int))), .int (iI ((b : Int)))] k_Pn_47 (ct_Pn_leastRest l D tys A (va_up M ra (some (.inl (tc tys 0, 1024, .inl (fun j_ => iI (Tq j_)))))) hT9 a ca ga ra n L Tq hn hL hTb j b (by omega) (by omega) ((wd_up_n (ne_oa hpn hra)).trans hpn) ((wd_up_n hgr).trans hga) wd_up_s) ((wd_up_n (ne_oa hpn hra)).trans hpn) ⟨rfl, rfl, Nat.le_of_ble_eq_true rfl, Nat.le_of_ble_eq_true rfl⟩ rfl rfl (Nat.le_of_ble_eq_true rfl) d_Pn_plan_43 ⟨Nat.le_of_ble_eq_true rfl, Nat.le_of_ble_eq_true rfl⟩) (fun z6 hz6 => ?_)
        have hrbz6 := sRst_b (n := n) (S := b) (v := j) hL hTb
        refine g_iast C 0 hT0 wd_up_s (by omega) d_Pn_plan_46 ?_
        refine g_world (bx_uu _ _ _ _) ?_
        refine g_iinc (lv' := [(2, .int (iI (((j : Int)) + 1))), (0, .ref a), (1, .int (iI ((b : Int))))]) C d_Pn_plan_47 2 rfl (by decide) rfl ?_
        refine g_goto C 14 d_Pn_plan_50 rfl ?_
        obtain ⟨T2, eT2⟩ : ∃ z : Nat → Int, z = va_up Tq ((((b : Int)) * 8) + ((j : Int))).toNat z6 := ⟨_, rfl⟩
        rw [← eT2]
        exact g_sub [1, 2, 0] rfl (ih14 (j + 1, T2) ⟨by omega, (by rw [eT2]; exact inB_up hTb (by omega)), (by rw [eT2, show ((b : Int) * 8 + (j : Int)).toNat = b * 8 + j by omega, hz6]; exact isR_s hn (by omega) (by omega) hR)⟩ (by first | omega | (dsimp only; omega)))
end
section
/-! WHAT THE PLANNER ANSWERS -/
def sSum (wk : Nat → Int) : Nat → Int
  | 0 => 0
  | n + 1 => sSum wk n + wk n
theorem sSum_b {wk : Nat → Int} {n : Nat} (h : ∀ k, k < n → 0 ≤ wk k ∧ wk k ≤ 7200) : 0 ≤ sSum wk n ∧ sSum wk n ≤ 7200 * n := by
  induction n with
  | zero => unfold sSum; omega
  | succ n ih =>
    have h1 := ih (fun k hk => h k (by omega))
    have h2 := h n (by omega)
    unfold sSum
    omega
/-- how many of the first n can be gone to in sec seconds -/
def sStp (T wk : Nat → Int) (sec : Int) : Nat → Nat
  | 0 => 0
  | m + 1 => if T ((2 ^ (m + 1) - 1) * 8 + 7) < 1000000 ∧ T ((2 ^ (m + 1) - 1) * 8 + 7) + sSum wk (m + 1) ≤ sec then m + 1 else sStp T wk sec m
theorem sStp_le {T wk : Nat → Int} {sec : Int} (n : Nat) : sStp T wk sec n ≤ n := by
  induction n with
  | zero => unfold sStp; omega
  | succ n ih => unfold sStp; split <;> omega
/-- where a least way goes on from v by the set S: of several nodes the one with the least number -/
def sNx (L T num : Nat → Int) (S v : Nat) : Nat → Int
  | 0 => -1
  | k + 1 => if (nb S k = 1 ∧ L (v * 8 + k) + T ((S - 2 ^ k) * 8 + k) = T (S * 8 + v)) ∧ (sNx L T num S v k = -1 ∨ num k < num (sNx L T num S v k).toNat) then (k : Int) else sNx L T num S v k
theorem sNx_b {L T num : Nat → Int} {S v : Nat} (k : Nat) : -1 ≤ sNx L T num S v k ∧ sNx L T num S v k < k ∧ (¬ sNx L T num S v k = -1 → nb S (sNx L T num S v k).toNat = 1) := by
  induction k with
  | zero => unfold sNx; omega
  | succ k ih =>
    unfold sNx
    split
    · rename_i h
      refine ⟨by omega, by omega, fun _ => ?_⟩
      rw [show ((k : Int)).toNat = k by omega]
      exact h.1.1
    · omega
/-- the set and the node behind k steps of the first m -/
def sSv (L T num : Nat → Int) (n m : Nat) : Nat → Nat × Nat
  | 0 => (2 ^ m - 1, 7)
  | k + 1 => ((sSv L T num n m k).1 - 2 ^ (sNx L T num (sSv L T num n m k).1 (sSv L T num n m k).2 n).toNat, (sNx L T num (sSv L T num n m k).1 (sSv L T num n m k).2 n).toNat)
/-- the node that step k takes -/
def sStep (L T num : Nat → Int) (n m k : Nat) : Int := sNx L T num (sSv L T num n m k).1 (sSv L T num n m k).2 n
theorem sSv_b {L T num : Nat → Int} {n m : Nat} (hn : n ≤ 7) (hm : m ≤ n) (k : Nat) : (sSv L T num n m k).1 < 128 ∧ (sSv L T num n m k).2 ≤ 7 := by
  induction k with
  | zero =>
    unfold sSv
    have := pw_b (k := m) (by omega)
    dsimp only
    omega
  | succ k ih =>
    unfold sSv
    have := sNx_b (L := L) (T := T) (num := num) (S := (sSv L T num n m k).1) (v := (sSv L T num n m k).2) n
    have h2 := Nat.sub_le (sSv L T num n m k).1 (2 ^ (sNx L T num (sSv L T num n m k).1 (sSv L T num n m k).2 n).toNat)
    dsimp only
    refine ⟨Nat.lt_of_le_of_lt h2 ih.1, by omega⟩
theorem up4 {M : Wm} {a b : Nat} {x y x2 y2 : Option va_E} (h : a ≠ b) : va_up (va_up (va_up (va_up M a x) b y) a x2) b y2 = va_up (va_up M a x2) b y2 := by
  funext j
  unfold va_up
  by_cases h1 : j = b
  · simp [h1]
  · by_cases h2 : j = a
    · subst h2
      simp [h1]
    · simp [h1, h2]
/-- the parts that are chosen -/
def ChA (M : Wm) (n : Nat) (gc : Nat → Option Nat) (cq : Nat → Nat) (pp tt : Nat → Nat → Int) : Prop := ∀ k, k < n → cq k < 40 ∧ ∃ b, gc k = some b ∧ PtA M b (cq k) (pp (cq k)) (tt (cq k))
theorem ChA_el {M : Wm} {n : Nat} {gc : Nat → Option Nat} {cq : Nat → Nat} {pp tt : Nat → Nat → Int} (h : ChA M n gc cq pp tt) : ∀ k, k < n → okP (pp (cq k)) ∧ ∃ b nb pa t, gc k = some b ∧ M b = some (oPt nb pa t) ∧ M pa = some (oPl (pp (cq k))) := by
  intro k hk
  obtain ⟨-, b, h1, h2, h3, pa, h4, h5⟩ := h k hk
  exact ⟨h2, b, _, pa, _, h1, h4, h5⟩
end
section
/-! THE PLANNER, its answers: written by program (wip/whole/gen/plan3.py) -/
set_option maxHeartbeats 4000000 in
set_option maxRecDepth 100000 in
theorem ct_Pn_stopsWithin (l : Launch) (D : va_G) (tys : xK) (A : Nat → Prop) (M : Wm) (hT : tyOK tys) (a ca ga ra n : Nat) (L T : Nat → Int) (gc : Nat → Option Nat) (cq : Nat → Nat) (pp tt : Nat → Nat → Int) (hn : n ≤ 7) (hL : inB L) (hTb : inB T) (sec : Int) (hsec : 0 ≤ sec ∧ sec ≤ 100000) (hpn : M a = some (.inr (5, [.ref ca, .ref ga, .ref ra, .int (iI ((n : Int)))]))) (hga : M ga = some (aI tys 64 L)) (hra : M ra = some (aI tys 1024 T)) (hca : M ca = some (aR tys 4 7 gc)) (hch : ChA M n gc cq pp tt) : pT l y_Pn_stopsWithin b_Pn_stopsWithin 5 (some .int) { frames := 2, cells := 0, slots := 0, locals := 41 } D tys A [.ref a, .int (iI sec)] M (qP (fun z => z = ((sStp T (fun k_ => tt (cq k_) 4) sec n : Nat) : Int))) := by
  refine met_of (own := R_Pn) (lv := [(0, .ref a), (1, .int (iI sec))]) rfl (by decide) (Nat.le_of_ble_eq_true rfl) rfl ?_
  intro p_ e_ s_ m_ bl_ me_ c_ C hr hin
  have hT9 := hT
  obtain ⟨hT0, -, -, -, hT4, -⟩ := hT
  refine g_iconst C d_Pn_stopsWithin_0 ?_
  refine g_istore_n (lv' := [(2, .int (iI 0)), (0, .ref a), (1, .int (iI sec))]) C d_Pn_stopsWithin_1 (by decide) rfl ?_
  refine g_iconst C d_Pn_stopsWithin_2 ?_
  refine g_istore_n (lv' := [(3, .int (iI 0)), (2, .int (iI 0)), (0, .ref a), (1, .int (iI sec))]) C d_Pn_stopsWithin_3 (by decide) rfl ?_
  refine g_sub [2, 3, 1, 0] rfl (g_loop (σ := Nat) (fun x => n - x) (fun x => (x ≤ n)) (fun x => [(0, .ref a), (1, .int (iI sec)), (2, .int (iI (sSum (fun k_ => tt (cq k_) 4) x))), (3, .int (iI ((x : Int))))]) (fun x => M) ?_ (0) (Nat.zero_le _))
  intro x_ hI ih4
  obtain ⟨k, rfl⟩ : ∃ z, z = x_ := ⟨_, rfl⟩
  try dsimp only at hI ih4 ⊢
  obtain hk0 := hI
  refine g_iload_n C d_Pn_stopsWithin_4 3 rfl ?_
  refine g_aload_n C d_Pn_stopsWithin_5 0 rfl ?_
  refine g_get C f_Pn_24 hpn rfl d_Pn_stopsWithin_6 ?_
  refine g_icmp_ge C 30 d_Pn_stopsWithin_9 rfl (by omega) (fun c1 => ?_) (fun c1 => ?_)
  · refine g_aload_n C d_Pn_stopsWithin_30 0 rfl ?_
    refine g_get C f_Pn_24 hpn rfl d_Pn_stopsWithin_31 ?_
    refine g_istore_n (lv' := [(3, .int (iI ((n : Int)))), (0, .ref a), (1, .int (iI sec)), (2, .int (iI (sSum (fun k_ => tt (cq k_) 4) k)))]) C d_Pn_stopsWithin_34 (by decide) rfl ?_
    have eK : k = n := by omega
    rw [eK]
    refine g_sub [1, 2, 3, 0] rfl (g_loop (σ := Nat) (fun x => x) (fun x => (x ≤ n) ∧ (sStp T (fun k_ => tt (cq k_) 4) sec n = sStp T (fun k_ => tt (cq k_) 4) sec x)) (fun x => [(0, .ref a), (1, .int (iI sec)), (2, .int (iI (sSum (fun k_ => tt (cq k_) 4) x))), (3, .int (iI ((x : Int))))]) (fun x => M) ?_ (n) (⟨Nat.le_refl n, rfl⟩))
    intro x_ hI ih35
    obtain ⟨m, rfl⟩ : ∃ z, z = x_ := ⟨_, rfl⟩
    try dsimp only at hI ih35 ⊢
    obtain ⟨hm0, hst⟩ := hI
    have hsb := sSum_b (wk := (fun k_ => tt (cq k_) 4)) (n := m) (fun k_ hk_ => by obtain ⟨-, b_, -, -, ht_, -⟩ := hch k_ (by omega); unfold okT at ht_; first | omega | (dsimp only; omega))
    refine g_iload_n C d_Pn_stopsWithin_35 3 rfl ?_
    refine g_if_le C 83 d_Pn_stopsWithin_36 rfl (by omega) (fun c2 => ?_) (fun c2 => ?_)
    · refine g_iconst C d_Pn_stopsWithin_83 ?_
      exact g_iretP C hr d_Pn_stopsWithin_84 (by rw [hst, show m = 0 by omega]; rfl)
    · refine g_aload_n C d_Pn_stopsWithin_39 0 rfl ?_
      refine g_iload_n C d_Pn_stopsWithin_40 3 rfl ?_
      refine g_calliP C (run_V C [.int (iI ((m : Int)))] k_Pn_67 (ct_Pn_leastWalks l D tys A M hT9 a ca ga ra n L T hn hL hTb m (by omega) hpn hga hra) hpn ⟨rfl, rfl, Nat.le_of_ble_eq_true rfl, Nat.le_of_ble_eq_true rfl⟩ rfl rfl (Nat.le_of_ble_eq_true rfl) d_Pn_stopsWithin_41 ⟨Nat.le_of_ble_eq_true rfl, Nat.le_of_ble_eq_true rfl⟩) (fun z3 hz3 => ?_)
      have hbz3 := hTb ((2 ^ m - 1) * 8 + 7)
      refine g_istore (lv' := [(4, .int (iI z3)), (0, .ref a), (1, .int (iI sec)), (2, .int (iI (sSum (fun k_ => tt (cq k_) 4) m))), (3, .int (iI ((m : Int))))]) C d_Pn_stopsWithin_44 (by decide) rfl ?_
      refine g_iload C d_Pn_stopsWithin_46 0 rfl ?_
      refine g_ldc C 1000000 q_Pn_42 d_Pn_stopsWithin_48 ?_
      refine g_icmp_ge C 63 d_Pn_stopsWithin_50 rfl (by omega) (fun c4 => ?_) (fun c4 => ?_)
      · obtain ⟨h402, b2, hs2, hpk2, htk2, pa2, hb2, hpa2⟩ := hch ((m - 1)) (by omega)
        have htk92 := htk2
        unfold okT at htk92
        refine g_iload_n C d_Pn_stopsWithin_63 3 rfl ?_
        refine g_aload_n C d_Pn_stopsWithin_64 1 rfl ?_
        refine g_get C f_Pn_13 hpn rfl d_Pn_stopsWithin_65 ?_
        refine g_iload_n C d_Pn_stopsWithin_68 4 rfl ?_
        refine g_iconst C d_Pn_stopsWithin_69 ?_
        refine g_isub C d_Pn_stopsWithin_70 ?_
        refine g_aald C 4 hT4 hca (by omega) (by rw [show ((m : Int) - 1).toNat = (m - 1) by omega]; exact hs2) d_Pn_stopsWithin_71 ?_
        refine g_get C f_Pn_64 hb2 rfl d_Pn_stopsWithin_72 ?_
        refine g_isub C d_Pn_stopsWithin_75 ?_
        refine g_istore_n (lv' := [(2, .int (iI ((sSum (fun k_ => tt (cq k_) 4) m) - (tt (cq ((m - 1))) 4)))), (4, .int (iI z3)), (0, .ref a), (1, .int (iI sec)), (3, .int (iI ((m : Int))))]) C d_Pn_stopsWithin_76 (by decide) rfl ?_
        refine g_iinc (lv' := [(3, .int (iI (((m : Int)) + (-1)))), (2, .int (iI ((sSum (fun k_ => tt (cq k_) 4) m) - (tt (cq ((m - 1))) 4)))), (4, .int (iI z3)), (0, .ref a), (1, .int (iI sec))]) C d_Pn_stopsWithin_77 4 rfl (by decide) rfl ?_
        refine g_goto C 35 d_Pn_stopsWithin_80 rfl ?_
        have hS9 : sStp T (fun k_ => tt (cq k_) 4) sec m = sStp T (fun k_ => tt (cq k_) 4) sec (m - 1) := by
          rw [show m = (m - 1) + 1 by omega, sStp.eq_2, Nat.add_sub_cancel, if_neg (by rw [show (m - 1) + 1 = m by omega]; omega)]
        rw [show sSum (fun k_ => tt (cq k_) 4) m - tt (cq (m - 1)) 4 = sSum (fun k_ => tt (cq k_) 4) (m - 1) by rw [show m = (m - 1) + 1 by omega, sSum.eq_2, Nat.add_sub_cancel]; first | omega | (dsimp only; omega), show (m : Int) + (-1) = ((m - 1 : Nat) : Int) by omega]
        exact g_sub [3, 4, 1, 0] rfl (ih35 (m - 1) ⟨by omega, by rw [← hS9]; exact hst⟩ (by first | omega | (dsimp only; omega)))
      · refine g_iload C d_Pn_stopsWithin_53 0 rfl ?_
        refine g_iload_n C d_Pn_stopsWithin_55 3 rfl ?_
        refine g_iadd C d_Pn_stopsWithin_56 ?_
        refine g_iload_n C d_Pn_stopsWithin_57 2 rfl ?_
        refine g_icmp_gt C 63 d_Pn_stopsWithin_58 rfl (by omega) (fun c5 => ?_) (fun c5 => ?_)
        · obtain ⟨h402, b2, hs2, hpk2, htk2, pa2, hb2, hpa2⟩ := hch ((m - 1)) (by omega)
          have htk92 := htk2
          unfold okT at htk92
          refine g_iload_n C d_Pn_stopsWithin_63 3 rfl ?_
          refine g_aload_n C d_Pn_stopsWithin_64 1 rfl ?_
          refine g_get C f_Pn_13 hpn rfl d_Pn_stopsWithin_65 ?_
          refine g_iload_n C d_Pn_stopsWithin_68 4 rfl ?_
          refine g_iconst C d_Pn_stopsWithin_69 ?_
          refine g_isub C d_Pn_stopsWithin_70 ?_
          refine g_aald C 4 hT4 hca (by omega) (by rw [show ((m : Int) - 1).toNat = (m - 1) by omega]; exact hs2) d_Pn_stopsWithin_71 ?_
          refine g_get C f_Pn_64 hb2 rfl d_Pn_stopsWithin_72 ?_
          refine g_isub C d_Pn_stopsWithin_75 ?_
          refine g_istore_n (lv' := [(2, .int (iI ((sSum (fun k_ => tt (cq k_) 4) m) - (tt (cq ((m - 1))) 4)))), (4, .int (iI z3)), (0, .ref a), (1, .int (iI sec)), (3, .int (iI ((m : Int))))]) C d_Pn_stopsWithin_76 (by decide) rfl ?_
          refine g_iinc (lv' := [(3, .int (iI (((m : Int)) + (-1)))), (2, .int (iI ((sSum (fun k_ => tt (cq k_) 4) m) - (tt (cq ((m - 1))) 4)))), (4, .int (iI z3)), (0, .ref a), (1, .int (iI sec))]) C d_Pn_stopsWithin_77 4 rfl (by decide) rfl ?_
          refine g_goto C 35 d_Pn_stopsWithin_80 rfl ?_
          have hS9 : sStp T (fun k_ => tt (cq k_) 4) sec m = sStp T (fun k_ => tt (cq k_) 4) sec (m - 1) := by
            rw [show m = (m - 1) + 1 by omega, sStp.eq_2, Nat.add_sub_cancel, if_neg (by rw [show (m - 1) + 1 = m by omega]; omega)]
          rw [show sSum (fun k_ => tt (cq k_) 4) m - tt (cq (m - 1)) 4 = sSum (fun k_ => tt (cq k_) 4) (m - 1) by rw [show m = (m - 1) + 1 by omega, sSum.eq_2, Nat.add_sub_cancel]; first | omega | (dsimp only; omega), show (m : Int) + (-1) = ((m - 1 : Nat) : Int) by omega]
          exact g_sub [3, 4, 1, 0] rfl (ih35 (m - 1) ⟨by omega, by rw [← hS9]; exact hst⟩ (by first | omega | (dsimp only; omega)))
        · refine g_iload_n C d_Pn_stopsWithin_61 4 rfl ?_
          exact g_iretP C hr d_Pn_stopsWithin_62 (by rw [hst, show m = (m - 1) + 1 by omega, sStp.eq_2, if_pos (by rw [show (m - 1) + 1 = m by omega]; omega)])
  · obtain ⟨h401, b1, hs1, hpk1, htk1, pa1, hb1, hpa1⟩ := hch k (by omega)
    have htk91 := htk1
    unfold okT at htk91
    refine g_iload_n C d_Pn_stopsWithin_12 2 rfl ?_
    refine g_aload_n C d_Pn_stopsWithin_13 0 rfl ?_
    refine g_get C f_Pn_13 hpn rfl d_Pn_stopsWithin_14 ?_
    refine g_iload_n C d_Pn_stopsWithin_17 3 rfl ?_
    refine g_aald C 4 hT4 hca (by omega) (by rw [show (k : Int).toNat = k by omega]; exact hs1) d_Pn_stopsWithin_18 ?_
    refine g_get C f_Pn_64 hb1 rfl d_Pn_stopsWithin_19 ?_
    refine g_iadd C d_Pn_stopsWithin_22 ?_
    refine g_istore_n (lv' := [(2, .int (iI ((sSum (fun k_ => tt (cq k_) 4) k) + (tt (cq k) 4)))), (0, .ref a), (1, .int (iI sec)), (3, .int (iI ((k : Int))))]) C d_Pn_stopsWithin_23 (by decide) rfl ?_
    refine g_iinc (lv' := [(3, .int (iI (((k : Int)) + 1))), (2, .int (iI ((sSum (fun k_ => tt (cq k_) 4) k) + (tt (cq k) 4)))), (0, .ref a), (1, .int (iI sec))]) C d_Pn_stopsWithin_24 3 rfl (by decide) rfl ?_
    refine g_goto C 4 d_Pn_stopsWithin_27 rfl ?_
    rw [show sSum (fun k_ => tt (cq k_) 4) k + tt (cq k) 4 = sSum (fun k_ => tt (cq k_) 4) (k + 1) from rfl]
    exact g_sub [2, 3, 1, 0] rfl (ih4 (k + 1) (by omega) (by first | omega | (dsimp only; omega)))
set_option maxHeartbeats 4000000 in
set_option maxRecDepth 100000 in
theorem ct_Pn_nextNode (l : Launch) (D : va_G) (tys : xK) (A : Nat → Prop) (M : Wm) (hT : tyOK tys) (a ca ga ra n : Nat) (L T : Nat → Int) (gc : Nat → Option Nat) (cq : Nat → Nat) (pp tt : Nat → Nat → Int) (hn : n ≤ 7) (hL : inB L) (hTb : inB T) (v S : Nat) (hv : v ≤ 7) (hS : S < 128) (hpn : M a = some (.inr (5, [.ref ca, .ref ga, .ref ra, .int (iI ((n : Int)))]))) (hga : M ga = some (aI tys 64 L)) (hra : M ra = some (aI tys 1024 T)) (hca : M ca = some (aR tys 4 7 gc)) (hch : ChA M n gc cq pp tt) : pT l y_Pn_nextNode b_Pn_nextNode 5 (some .int) { frames := 1, cells := 0, slots := 0, locals := 23 } D tys A [.ref a, .int (iI ((v : Int))), .int (iI ((S : Int)))] M (qP (fun z => z = sNx L T (fun k_ => ((cq k_ : Nat) : Int)) S v n)) := by
  refine met_of (own := R_Pn) (lv := [(0, .ref a), (1, .int (iI ((v : Int)))), (2, .int (iI ((S : Int))))]) rfl (by decide) (Nat.le_of_ble_eq_true rfl) rfl ?_
  intro p_ e_ s_ m_ bl_ me_ c_ C hr hin
  have hT9 := hT
  obtain ⟨hT0, -, -, -, hT4, -⟩ := hT
  refine g_iconst C d_Pn_nextNode_0 ?_
  refine g_istore_n (lv' := [(3, .int (iI ((-1)))), (0, .ref a), (1, .int (iI ((v : Int)))), (2, .int (iI ((S : Int))))]) C d_Pn_nextNode_1 (by decide) rfl ?_
  refine g_iconst C d_Pn_nextNode_2 ?_
  refine g_istore (lv' := [(4, .int (iI 0)), (3, .int (iI ((-1)))), (0, .ref a), (1, .int (iI ((v : Int)))), (2, .int (iI ((S : Int))))]) C d_Pn_nextNode_3 (by decide) rfl ?_
  refine g_sub [2, 3, 4, 1, 0] rfl (g_loop (σ := Nat) (fun x => n - x) (fun x => (x ≤ n)) (fun x => [(0, .ref a), (1, .int (iI ((v : Int)))), (2, .int (iI ((S : Int)))), (3, .int (iI (sNx L T (fun k_ => ((cq k_ : Nat) : Int)) S v x))), (4, .int (iI ((x : Int))))]) (fun x => M) ?_ (0) (Nat.zero_le _))
  intro x_ hI ih5
  obtain ⟨k, rfl⟩ : ∃ z, z = x_ := ⟨_, rfl⟩
  try dsimp only at hI ih5 ⊢
  obtain hk0 := hI
  have hxb := sNx_b (L := L) (T := T) (num := (fun k_ => ((cq k_ : Nat) : Int))) (S := S) (v := v) k
  have hTv := hTb (S * 8 + v)
  refine g_iload C d_Pn_nextNode_5 4 rfl ?_
  refine g_aload_n C d_Pn_nextNode_7 0 rfl ?_
  refine g_get C f_Pn_24 hpn rfl d_Pn_nextNode_8 ?_
  refine g_icmp_ge C 81 d_Pn_nextNode_11 rfl (by omega) (fun c1 => ?_) (fun c1 => ?_)
  · refine g_iload_n C d_Pn_nextNode_81 3 rfl ?_
    exact g_iretP C hr d_Pn_nextNode_82 (by rw [show k = n by omega])
  · refine g_iload C d_Pn_nextNode_14 4 rfl ?_
    refine g_iload_n C d_Pn_nextNode_16 2 rfl ?_
    refine g_calliP C (run_S C [.int (iI ((k : Int))), .int (iI ((S : Int)))] k_Pn_43 (ct_Pn_isIn l D tys A M k S (by omega) (by omega)) ⟨rfl, rfl, Nat.le_of_ble_eq_true rfl, Nat.le_of_ble_eq_true rfl⟩ rfl rfl (Nat.le_of_ble_eq_true rfl) d_Pn_nextNode_17 ⟨Nat.le_of_ble_eq_true rfl, Nat.le_of_ble_eq_true rfl⟩) (fun z2 hz2 => ?_)
    refine g_if_eq C 75 d_Pn_nextNode_20 rfl (by omega) (fun c3 => ?_) (fun c3 => ?_)
    · refine g_iinc (lv' := [(4, .int (iI (((k : Int)) + 1))), (0, .ref a), (1, .int (iI ((v : Int)))), (2, .int (iI ((S : Int)))), (3, .int (iI (sNx L T (fun k_ => ((cq k_ : Nat) : Int)) S v k)))]) C d_Pn_nextNode_75 4 rfl (by decide) rfl ?_
      refine g_goto C 5 d_Pn_nextNode_78 rfl ?_
      have hE : sNx L T (fun k_ => ((cq k_ : Nat) : Int)) S v (k + 1) = sNx L T (fun k_ => ((cq k_ : Nat) : Int)) S v k := by
        rw [sNx.eq_2, if_neg (by first | omega | (dsimp only; omega))]
      rw [← hE]
      exact g_sub [1, 2, 3, 4, 0] rfl (ih5 (k + 1) (by omega) (by first | omega | (dsimp only; omega)))
    · refine g_aload_n C d_Pn_nextNode_23 0 rfl ?_
      refine g_iload_n C d_Pn_nextNode_24 1 rfl ?_
      refine g_iload C d_Pn_nextNode_25 4 rfl ?_
      refine g_iload_n C d_Pn_nextNode_27 2 rfl ?_
      refine g_calliP C (run_V C [.int (iI ((v : Int))), .int (iI ((k : Int))), .int (iI ((S : Int)))] k_Pn_51 (ct_Pn_restBy l D tys A M hT9 a ca ga ra n L T hn hL hTb v k S (by omega) (by omega) (by omega) (by omega) hpn hga hra) hpn ⟨rfl, rfl, Nat.le_of_ble_eq_true rfl, Nat.le_of_ble_eq_true rfl⟩ rfl rfl (Nat.le_of_ble_eq_true rfl) d_Pn_nextNode_28 ⟨Nat.le_of_ble_eq_true rfl, Nat.le_of_ble_eq_true rfl⟩) (fun z4 hz4 => ?_)
      have hb1z4 := hL (v * 8 + k)
      have hb2z4 := hTb ((S - 2 ^ k) * 8 + k)
      refine g_aload_n C d_Pn_nextNode_31 0 rfl ?_
      refine g_get C f_Pn_21 hpn rfl d_Pn_nextNode_32 ?_
      refine g_iload_n C d_Pn_nextNode_35 2 rfl ?_
      refine g_bipush C d_Pn_nextNode_36 (by decide) ?_
      refine g_imul C d_Pn_nextNode_38 ?_
      refine g_iload_n C d_Pn_nextNode_39 1 rfl ?_
      refine g_iadd C d_Pn_nextNode_40 ?_
      refine g_iald C 0 hT0 hra (by omega) d_Pn_nextNode_41 ?_
      rw [show ((S : Int) * 8 + (v : Int)).toNat = S * 8 + v by omega]
      refine g_icmp_ne C 75 d_Pn_nextNode_42 rfl (by omega) (fun c5 => ?_) (fun c5 => ?_)
      · refine g_iinc (lv' := [(4, .int (iI (((k : Int)) + 1))), (0, .ref a), (1, .int (iI ((v : Int)))), (2, .int (iI ((S : Int)))), (3, .int (iI (sNx L T (fun k_ => ((cq k_ : Nat) : Int)) S v k)))]) C d_Pn_nextNode_75 4 rfl (by decide) rfl ?_
        refine g_goto C 5 d_Pn_nextNode_78 rfl ?_
        have hE : sNx L T (fun k_ => ((cq k_ : Nat) : Int)) S v (k + 1) = sNx L T (fun k_ => ((cq k_ : Nat) : Int)) S v k := by
          rw [sNx.eq_2, if_neg (by first | omega | (dsimp only; omega))]
        rw [← hE]
        exact g_sub [1, 2, 3, 4, 0] rfl (ih5 (k + 1) (by omega) (by first | omega | (dsimp only; omega)))
      · refine g_iload_n C d_Pn_nextNode_45 3 rfl ?_
        refine g_iconst C d_Pn_nextNode_46 ?_
        refine g_icmp_eq C 72 d_Pn_nextNode_47 rfl (by omega) (fun c6 => ?_) (fun c6 => ?_)
        · refine g_iload C d_Pn_nextNode_72 4 rfl ?_
          refine g_istore_n (lv' := [(3, .int (iI ((k : Int)))), (0, .ref a), (1, .int (iI ((v : Int)))), (2, .int (iI ((S : Int)))), (4, .int (iI ((k : Int))))]) C d_Pn_nextNode_74 (by decide) rfl ?_
          refine g_iinc (lv' := [(4, .int (iI (((k : Int)) + 1))), (3, .int (iI ((k : Int)))), (0, .ref a), (1, .int (iI ((v : Int)))), (2, .int (iI ((S : Int))))]) C d_Pn_nextNode_75 4 rfl (by decide) rfl ?_
          refine g_goto C 5 d_Pn_nextNode_78 rfl ?_
          have hE : (k : Int) = sNx L T (fun k_ => ((cq k_ : Nat) : Int)) S v (k + 1) := by
            rw [sNx.eq_2, if_pos (by first | omega | (dsimp only; omega))]
          refine g_eq (lv' := [(4, .int (iI ((k : Int) + 1))), (3, .int (iI (sNx L T (fun k_ => ((cq k_ : Nat) : Int)) S v (k + 1)))), (0, .ref a), (1, .int (iI (v : Int))), (2, .int (iI (S : Int)))]) (by rw [← hE]) rfl ?_
          exact g_sub [2, 3, 4, 1, 0] rfl (ih5 (k + 1) (by omega) (by first | omega | (dsimp only; omega)))
        · obtain ⟨h401, b1, hs1, hpk1, htk1, pa1, hb1, hpa1⟩ := hch k (by omega)
          have htk91 := htk1
          unfold okT at htk91
          obtain ⟨h402, b2, hs2, hpk2, htk2, pa2, hb2, hpa2⟩ := hch ((sNx L T (fun k_ => ((cq k_ : Nat) : Int)) S v k).toNat) (by omega)
          have htk92 := htk2
          unfold okT at htk92
          refine g_aload_n C d_Pn_nextNode_50 0 rfl ?_
          refine g_get C f_Pn_13 hpn rfl d_Pn_nextNode_51 ?_
          refine g_iload C d_Pn_nextNode_54 4 rfl ?_
          refine g_aald C 4 hT4 hca (by omega) (by rw [show (k : Int).toNat = k by omega]; exact hs1) d_Pn_nextNode_56 ?_
          refine g_get C f_Pn_82 hb1 rfl d_Pn_nextNode_57 ?_
          refine g_aload_n C d_Pn_nextNode_60 0 rfl ?_
          refine g_get C f_Pn_13 hpn rfl d_Pn_nextNode_61 ?_
          refine g_iload_n C d_Pn_nextNode_64 3 rfl ?_
          refine g_aald C 4 hT4 hca (by omega) hs2 d_Pn_nextNode_65 ?_
          refine g_get C f_Pn_82 hb2 rfl d_Pn_nextNode_66 ?_
          refine g_icmp_ge C 75 d_Pn_nextNode_69 rfl (by omega) (fun c7 => ?_) (fun c7 => ?_)
          · refine g_iinc (lv' := [(4, .int (iI (((k : Int)) + 1))), (0, .ref a), (1, .int (iI ((v : Int)))), (2, .int (iI ((S : Int)))), (3, .int (iI (sNx L T (fun k_ => ((cq k_ : Nat) : Int)) S v k)))]) C d_Pn_nextNode_75 4 rfl (by decide) rfl ?_
            refine g_goto C 5 d_Pn_nextNode_78 rfl ?_
            have hE : sNx L T (fun k_ => ((cq k_ : Nat) : Int)) S v (k + 1) = sNx L T (fun k_ => ((cq k_ : Nat) : Int)) S v k := by
              rw [sNx.eq_2, if_neg (by first | omega | (dsimp only; omega))]
            rw [← hE]
            exact g_sub [1, 2, 3, 4, 0] rfl (ih5 (k + 1) (by omega) (by first | omega | (dsimp only; omega)))
          · refine g_iload C d_Pn_nextNode_72 4 rfl ?_
            refine g_istore_n (lv' := [(3, .int (iI ((k : Int)))), (0, .ref a), (1, .int (iI ((v : Int)))), (2, .int (iI ((S : Int)))), (4, .int (iI ((k : Int))))]) C d_Pn_nextNode_74 (by decide) rfl ?_
            refine g_iinc (lv' := [(4, .int (iI (((k : Int)) + 1))), (3, .int (iI ((k : Int)))), (0, .ref a), (1, .int (iI ((v : Int)))), (2, .int (iI ((S : Int))))]) C d_Pn_nextNode_75 4 rfl (by decide) rfl ?_
            refine g_goto C 5 d_Pn_nextNode_78 rfl ?_
            have hE : (k : Int) = sNx L T (fun k_ => ((cq k_ : Nat) : Int)) S v (k + 1) := by
              rw [sNx.eq_2, if_pos (by first | omega | (dsimp only; omega))]
            refine g_eq (lv' := [(4, .int (iI ((k : Int) + 1))), (3, .int (iI (sNx L T (fun k_ => ((cq k_ : Nat) : Int)) S v (k + 1)))), (0, .ref a), (1, .int (iI (v : Int))), (2, .int (iI (S : Int)))]) (by rw [← hE]) rfl ?_
            exact g_sub [2, 3, 4, 1, 0] rfl (ih5 (k + 1) (by omega) (by first | omega | (dsimp only; omega)))
end
section
/-! THE PLANNER fills a tour: written by program (wip/whole/gen/fill.py) -/
def cok (e : va_E) : Prop := match e with
  | .inr o => o.1 ≠ 2 ∧ o.1 ≠ 4
  | .inl _ => True
theorem PtA_up {M : Wm} {b a : Nat} {n : Int} {p t : Nat → Int} {e x : va_E} (h : PtA M b n p t) (ha : M a = some e) (hk : cok e) : PtA (va_up M a (some x)) b n p t := by
  obtain ⟨h1, h2, pa, h3, h4⟩ := h
  refine ⟨h1, h2, pa, (wd_up_n ?_).trans h3, (wd_up_n ?_).trans h4⟩
  · intro q
    rw [← q, h3] at ha
    cases ha
    exact hk.1 rfl
  · intro q
    rw [← q, h4] at ha
    cases ha
    exact hk.2 rfl
theorem PeA_up {M : Wm} {b a : Nat} {n : Int} {p u : Nat → Int} {e x : va_E} (h : PeA M b n p u) (ha : M a = some e) (hk : cok e) (hk3 : ∀ fs, e ≠ .inr (3, fs)) : PeA (va_up M a (some x)) b n p u := by
  obtain ⟨h1, h2, pa, h3, h4⟩ := h
  refine ⟨h1, h2, pa, (wd_up_n ?_).trans h3, (wd_up_n ?_).trans h4⟩
  · intro q
    rw [← q, h3] at ha
    cases ha
    exact hk3 _ rfl
  · intro q
    rw [← q, h4] at ha
    cases ha
    exact hk.2 rfl
theorem ChA_up {M : Wm} {n a : Nat} {gc : Nat → Option Nat} {cq : Nat → Nat} {pp tt : Nat → Nat → Int} {e x : va_E} (h : ChA M n gc cq pp tt) (ha : M a = some e) (hk : cok e) : ChA (va_up M a (some x)) n gc cq pp tt := by
  intro k hkn
  obtain ⟨h1, b, h2, h3⟩ := h k hkn
  exact ⟨h1, b, h2, PtA_up h3 ha hk⟩
set_option maxHeartbeats 4000000 in
set_option maxRecDepth 100000 in
theorem ct_Pn_fill (l : Launch) (D : va_G) (tys : xK) (A : Nat → Prop) (M : Wm) (hT : tyOK tys) (a ca ga ra n : Nat) (L T : Nat → Int) (gc : Nat → Option Nat) (cq : Nat → Nat) (pp tt : Nat → Nat → Int) (hn : n ≤ 7) (hL : inB L) (hTb : inB T) (m : Nat) (hm : m ≤ n) (hpn : M a = some (.inr (5, [.ref ca, .ref ga, .ref ra, .int (iI ((n : Int)))]))) (hga : M ga = some (aI tys 64 L)) (hra : M ra = some (aI tys 1024 T)) (hca : M ca = some (aR tys 4 7 gc)) (hch : ChA M n gc cq pp tt) (to oa : Nat) (go : Option Nat) (dy dn wk wo : Int) (so : Nat → Option Nat) (hto : M to = some (.inr (6, [.ref oa, va_rf go, .int (iI dy), .int (iI 0), .int (iI dn), .int (iI wk), .int (iI wo)]))) (hoa : M oa = some (aR tys 4 20 so)) (hco : ca ≠ oa) (hw : ∀ k, k < m → ¬ sStep L T (fun k_ => ((cq k_ : Nat) : Int)) n m k = -1) : mT l y_Pn_fill b_Pn_fill 6 none { frames := 2, cells := 0, slots := 0, locals := 47 } D tys A [.ref a, .ref to, .int (iI ((m : Int)))] M (qV D A (fun M' => ∃ so2 : Nat → Option Nat, (∀ k, k < m → so2 k = gc (sStep L T (fun k_ => ((cq k_ : Nat) : Int)) n m k).toNat) ∧ M' = va_up (va_up M oa (some (.inl (tc tys 4, 20, .inr (.inr (.inr (.inr so2))))))) to (some (.inr (6, [.ref oa, va_rf go, .int (iI dy), .int (iI ((m : Int))), .int (iI dn), .int (iI (T ((2 ^ m - 1) * 8 + 7))), .int (iI (wo + sSum (fun k_ => tt (cq (sStep L T (fun k_ => ((cq k_ : Nat) : Int)) n m k_).toNat) 4) m))]))))) 0 0 := by
  refine met_of (own := R_Pn) (lv := [(0, .ref a), (1, .ref to), (2, .int (iI ((m : Int))))]) rfl (by decide) (Nat.le_of_ble_eq_true rfl) rfl ?_
  intro p_ e_ s_ m_ bl_ me_ c_ C hr hin
  have hT9 := hT
  obtain ⟨hT0, -, -, -, hT4, -⟩ := hT
  refine g_iload_n C d_Pn_fill_0 2 rfl ?_
  refine g_calliP C (run_S C [.int (iI ((m : Int)))] k_Pn_60 (ct_Pn_firstOnes l D tys A M m (by omega)) ⟨rfl, rfl, Nat.le_of_ble_eq_true rfl, Nat.le_of_ble_eq_true rfl⟩ rfl rfl (Nat.le_of_ble_eq_true rfl) d_Pn_fill_1 ⟨Nat.le_of_ble_eq_true rfl, Nat.le_of_ble_eq_true rfl⟩) (fun z1 hz1 => ?_)
  refine g_istore_n (lv' := [(3, .int (iI z1)), (0, .ref a), (1, .ref to), (2, .int (iI ((m : Int))))]) C d_Pn_fill_4 (by decide) rfl ?_
  have hpm := pw_b (k := m) (by omega)
  rw [show z1 = ((2 ^ m - 1 : Nat) : Int) by omega]
  refine g_aload_n C d_Pn_fill_5 1 rfl ?_
  refine g_bipush C d_Pn_fill_6 (by decide) ?_
  refine g_iload_n C d_Pn_fill_8 0 rfl ?_
  refine g_calliP C (run_V C [.int (iI 7), .int (iI (((2 ^ m - 1 : Nat) : Int)))] k_Pn_70 (ct_Pn_nextNode l D tys A M hT9 a ca ga ra n L T gc cq pp tt hn hL hTb 7 ((2 ^ m - 1 : Nat)) (by omega) (by omega) hpn hga hra hca hch) hpn ⟨rfl, rfl, Nat.le_of_ble_eq_true rfl, Nat.le_of_ble_eq_true rfl⟩ rfl rfl (Nat.le_of_ble_eq_true rfl) d_Pn_fill_9 ⟨Nat.le_of_ble_eq_true rfl, Nat.le_of_ble_eq_true rfl⟩) (fun z2 hz2 => ?_)
  refine g_istore (lv' := [(4, .int (iI z2)), (3, .int (iI (((2 ^ m - 1 : Nat) : Int)))), (0, .ref a), (1, .ref to), (2, .int (iI ((m : Int))))]) C d_Pn_fill_12 (by decide) rfl ?_
  refine g_iconst C d_Pn_fill_14 ?_
  refine g_istore (lv' := [(5, .int (iI 0)), (4, .int (iI z2)), (3, .int (iI (((2 ^ m - 1 : Nat) : Int)))), (0, .ref a), (1, .ref to), (2, .int (iI ((m : Int))))]) C d_Pn_fill_15 (by decide) rfl ?_
  refine g_world (M' := va_up (va_up M oa (some (aR tys 4 20 so))) to (some (.inr (6, [.ref oa, va_rf go, .int (iI dy), .int (iI (((0 : Nat) : Int))), .int (iI dn), .int (iI wk), .int (iI (wo + sSum (fun k_ => tt (cq (sStep L T (fun k_ => ((cq k_ : Nat) : Int)) n m k_).toNat) 4) 0))])))) (by rw [up_same hoa, show wo + sSum (fun k_ => tt (cq (sStep L T (fun k_ => ((cq k_ : Nat) : Int)) n m k_).toNat) 4) 0 = wo by unfold sSum; omega]; exact (up_same hto).symm) ?_
  refine g_toX ?_
  refine g_sub [3, 4, 5, 2, 1, 0] rfl (g_loop (σ := Nat × Nat × Nat × Int × (Nat → Option Nat)) (fun x => m - x.1) (fun x => (x.1 ≤ m) ∧ (sSv L T (fun k_ => ((cq k_ : Nat) : Int)) n m x.1 = (x.2.1, x.2.2.1)) ∧ (x.2.2.2.1 = sNx L T (fun k_ => ((cq k_ : Nat) : Int)) x.2.1 x.2.2.1 n) ∧ (∀ j_, j_ < x.1 → x.2.2.2.2 j_ = gc (sStep L T (fun k_ => ((cq k_ : Nat) : Int)) n m j_).toNat)) (fun x => [(0, .ref a), (1, .ref to), (2, .int (iI ((m : Int)))), (3, .int (iI ((x.2.1 : Int)))), (4, .int (iI x.2.2.2.1)), (5, .int (iI ((x.1 : Int))))]) (fun x => (va_up (va_up M oa (some (.inl (tc tys 4, 20, .inr (.inr (.inr (.inr x.2.2.2.2))))))) to (some (.inr (6, [.ref oa, va_rf go, .int (iI dy), .int (iI ((x.1 : Int))), .int (iI dn), .int (iI wk), .int (iI (wo + sSum (fun k_ => tt (cq (sStep L T (fun k_ => ((cq k_ : Nat) : Int)) n m k_).toNat) 4) x.1))]))))) ?_ (0, 2 ^ m - 1, 7, z2, so) (⟨Nat.zero_le _, rfl, hz2, lt_0⟩))
  intro x_ hI ih17
  obtain ⟨k, S, v, nd, sO⟩ := x_
  try dsimp only at hI ih17 ⊢
  obtain ⟨hk0, hSv, hnd, hsO⟩ := hI
  have hSb := sSv_b (L := L) (T := T) (num := (fun k_ => ((cq k_ : Nat) : Int))) (n := n) (m := m) hn hm k
  rw [hSv] at hSb
  dsimp only at hSb
  have hxb := sNx_b (L := L) (T := T) (num := (fun k_ => ((cq k_ : Nat) : Int))) (S := S) (v := v) n
  refine g_iload C d_Pn_fill_17 5 rfl ?_
  refine g_iload_n C d_Pn_fill_19 2 rfl ?_
  refine g_icmp_ge C 65 d_Pn_fill_20 rfl (by omega) (fun c3 => ?_) (fun c3 => ?_)
  · refine g_aload_n C d_Pn_fill_65 1 rfl ?_
    refine g_aload_n C d_Pn_fill_66 0 rfl ?_
    refine g_iload_n C d_Pn_fill_67 2 rfl ?_
    refine g_calliP C (run_V C [.int (iI ((m : Int)))] k_Pn_67 (ct_Pn_leastWalks l D tys A (va_up (va_up M oa (some (.inl (tc tys 4, 20, .inr (.inr (.inr (.inr sO))))))) to (some (.inr (6, [.ref oa, va_rf go, .int (iI dy), .int (iI ((k : Int))), .int (iI dn), .int (iI wk), .int (iI (wo + sSum (fun k_ => tt (cq (sStep L T (fun k_ => ((cq k_ : Nat) : Int)) n m k_).toNat) 4) k))])))) hT9 a ca ga ra n L T hn hL hTb m (by omega) ((wd_up_n (ne_oo hpn hto (by decide))).trans ((wd_up_n (ne_oa hpn hoa)).trans hpn)) ((wd_up_n (Ne.symm (ne_oa hto hga))).trans ((wd_up_n (ne_ia hga hoa)).trans hga)) ((wd_up_n (Ne.symm (ne_oa hto hra))).trans ((wd_up_n (ne_ia hra hoa)).trans hra))) ((wd_up_n (ne_oo hpn hto (by decide))).trans ((wd_up_n (ne_oa hpn hoa)).trans hpn)) ⟨rfl, rfl, Nat.le_of_ble_eq_true rfl, Nat.le_of_ble_eq_true rfl⟩ rfl rfl (Nat.le_of_ble_eq_true rfl) d_Pn_fill_68 ⟨Nat.le_of_ble_eq_true rfl, Nat.le_of_ble_eq_true rfl⟩) (fun z4 hz4 => ?_)
    have hbz4 := hTb ((2 ^ m - 1) * 8 + 7)
    refine g_put C p_Pn_79 wd_up_s rfl rfl (Nat.le_of_ble_eq_true rfl) (fs' := [.ref oa, va_rf go, .int (iI dy), .int (iI ((k : Int))), .int (iI dn), .int (iI z4), .int (iI (wo + sSum (fun k_ => tt (cq (sStep L T (fun k_ => ((cq k_ : Nat) : Int)) n m k_).toNat) 4) k))]) rfl d_Pn_fill_71 ?_
    refine g_world (bx_uu _ _ _ _) ?_
    have eK : k = m := by omega
    have eZ := hz4
    exact g_vret C hr d_Pn_fill_74 ⟨sO, eK ▸ hsO, by rw [eZ, eK]⟩
  · refine g_iload C d_Pn_fill_23 4 rfl ?_
    refine g_iconst C d_Pn_fill_25 ?_
    refine g_icmp_eq C 65 d_Pn_fill_26 rfl (by omega) (fun c5 => ?_) (fun c5 => ?_)
    · exact absurd (show sStep L T (fun k_ => ((cq k_ : Nat) : Int)) n m k = -1 by unfold sStep; rw [hSv]; show sNx L T (fun k_ => ((cq k_ : Nat) : Int)) S v n = -1; omega) (hw k (by omega))
    · obtain ⟨w, rfl⟩ : ∃ w : Nat, nd = (w : Int) := ⟨nd.toNat, by omega⟩
      have hwn : w < n := by omega
      have hbw : nb S w = 1 := by have h9 := hxb.2.2 (by omega); rwa [← hnd, show ((w : Nat) : Int).toNat = w by omega] at h9
      have hle := nb_le hbw
      have hpw := pw_b (k := w) (by omega)
      obtain ⟨h401, b1, hs1, hpk1, htk1, pa1, hb1, hpa1⟩ := hch w (by omega)
      have htk91 := htk1
      unfold okT at htk91
      have hstk : sStep L T (fun k_ => ((cq k_ : Nat) : Int)) n m k = (w : Int) := by unfold sStep; rw [hSv]; exact hnd.symm
      have hel9 : ∀ k_, k_ < k → ∃ b_ fs_, sO k_ = some b_ ∧ (va_up (va_up M oa (some (.inl (tc tys 4, 20, .inr (.inr (.inr (.inr sO))))))) to (some (.inr (6, [.ref oa, va_rf go, .int (iI dy), .int (iI ((k : Int))), .int (iI dn), .int (iI wk), .int (iI (wo + sSum (fun k_ => tt (cq (sStep L T (fun k_ => ((cq k_ : Nat) : Int)) n m k_).toNat) 4) k))])))) b_ = some (.inr (2, fs_)) := by
        intro k_ hk_
        have hx9 := sNx_b (L := L) (T := T) (num := (fun k_ => ((cq k_ : Nat) : Int))) (S := (sSv L T (fun k_ => ((cq k_ : Nat) : Int)) n m k_).1) (v := (sSv L T (fun k_ => ((cq k_ : Nat) : Int)) n m k_).2) n
        have hw9 := hw k_ (by omega)
        obtain ⟨-, b_, hg_, -, -, pa_, hb_, -⟩ := hch (sStep L T (fun k_ => ((cq k_ : Nat) : Int)) n m k_).toNat (by unfold sStep at hw9 ⊢; omega)
        exact ⟨b_, _, (hsO k_ hk_).trans hg_, (wd_up_n (ne_oo hb_ hto (by decide))).trans ((wd_up_n (ne_oa hb_ hoa)).trans hb_)⟩
      refine g_aload_n C d_Pn_fill_29 1 rfl ?_
      refine g_aload_n C d_Pn_fill_30 0 rfl ?_
      refine g_get C f_Pn_13 ((wd_up_n (ne_oo hpn hto (by decide))).trans ((wd_up_n (ne_oa hpn hoa)).trans hpn)) rfl d_Pn_fill_31 ?_
      refine g_iload C d_Pn_fill_34 4 rfl ?_
      refine g_aald C 4 hT4 ((wd_up_n (Ne.symm (ne_oa hto hca))).trans ((wd_up_n hco).trans hca)) (by omega) (by rw [show ((w : Nat) : Int).toNat = w by omega]; exact hs1) d_Pn_fill_36 ?_
      refine g_iload C d_Pn_fill_37 5 rfl ?_
      refine g_iconst C d_Pn_fill_39 ?_
      refine g_callv C (run_V C [.ref b1, .int (iI ((k : Int))), .int (iI 0)] k_Pn_73 (ct_To_insert l D tys A (va_up (va_up M oa (some (.inl (tc tys 4, 20, .inr (.inr (.inr (.inr sO))))))) to (some (.inr (6, [.ref oa, va_rf go, .int (iI dy), .int (iI ((k : Int))), .int (iI dn), .int (iI wk), .int (iI (wo + sSum (fun k_ => tt (cq (sStep L T (fun k_ => ((cq k_ : Nat) : Int)) n m k_).toNat) 4) k))])))) hT9 to oa go dy k dn wk (wo + sSum (fun k_ => tt (cq (sStep L T (fun k_ => ((cq k_ : Nat) : Int)) n m k_).toNat) 4) k) sO k 0 b1 ((cq w : Nat) : Int) pa1 (tt (cq w)) (by omega) wd_up_s ((wd_up_n (Ne.symm (ne_oa hto hoa))).trans wd_up_s) hel9 ((wd_up_n (ne_oo hb1 hto (by decide))).trans ((wd_up_n (ne_oa hb1 hoa)).trans hb1))) wd_up_s ⟨rfl, rfl, Nat.le_of_ble_eq_true rfl, Nat.le_of_ble_eq_true rfl⟩ rfl rfl (Nat.le_of_ble_eq_true rfl) d_Pn_fill_40 ⟨Nat.le_of_ble_eq_true rfl, Nat.le_of_ble_eq_true rfl⟩) (fun M6 hM6 => ?_)
      obtain ⟨so2, hso2, rfl⟩ := hM6
      refine g_world (up4 (Ne.symm (ne_oa hto hoa))) ?_
      refine g_iload_n C d_Pn_fill_43 3 rfl ?_
      refine g_iconst C d_Pn_fill_44 ?_
      refine g_iload C d_Pn_fill_45 4 rfl ?_
      refine g_ishl C ((2 ^ ((w : Int)).toNat : Nat) : Int) (shl_i (by omega)) d_Pn_fill_47 ?_
      refine g_isub C d_Pn_fill_48 ?_
      rw [show (S : Int) - ((2 ^ (w : Int).toNat : Nat) : Int) = ((S - 2 ^ w : Nat) : Int) by rw [show (w : Int).toNat = w by omega]; omega]
      refine g_istore_n (lv' := [(3, .int (iI (((S - 2 ^ w : Nat) : Int)))), (0, .ref a), (1, .ref to), (2, .int (iI ((m : Int)))), (4, .int (iI ((w : Int)))), (5, .int (iI ((k : Int))))]) C d_Pn_fill_49 (by decide) rfl ?_
      refine g_aload_n C d_Pn_fill_50 1 rfl ?_
      refine g_iload C d_Pn_fill_51 4 rfl ?_
      refine g_iload_n C d_Pn_fill_53 0 rfl ?_
      refine g_calliP C (run_V C [.int (iI ((w : Int))), .int (iI (((S - 2 ^ w : Nat) : Int)))] k_Pn_70 (ct_Pn_nextNode l D tys A (va_up (va_up M oa (some (.inl (tc tys 4, 20, .inr (.inr (.inr (.inr so2))))))) to (some (.inr (6, [.ref oa, va_rf go, .int (iI dy), .int (iI ((k : Int) + 1)), .int (iI dn), .int (iI (wk + 0)), .int (iI (wo + sSum (fun k_ => tt (cq (sStep L T (fun k_ => ((cq k_ : Nat) : Int)) n m k_).toNat) 4) k + tt (cq w) 4))])))) hT9 a ca ga ra n L T gc cq pp tt hn hL hTb w ((S - 2 ^ w : Nat)) (by omega) (by omega) ((wd_up_n (ne_oo hpn hto (by decide))).trans ((wd_up_n (ne_oa hpn hoa)).trans hpn)) ((wd_up_n (Ne.symm (ne_oa hto hga))).trans ((wd_up_n (ne_ia hga hoa)).trans hga)) ((wd_up_n (Ne.symm (ne_oa hto hra))).trans ((wd_up_n (ne_ia hra hoa)).trans hra)) ((wd_up_n (Ne.symm (ne_oa hto hca))).trans ((wd_up_n hco).trans hca)) (ChA_up (ChA_up hch hoa trivial) ((wd_up_n (ne_oa hto hoa)).trans hto) ⟨by show (6 : Nat) ≠ 2; decide, by show (6 : Nat) ≠ 4; decide⟩)) ((wd_up_n (ne_oo hpn hto (by decide))).trans ((wd_up_n (ne_oa hpn hoa)).trans hpn)) ⟨rfl, rfl, Nat.le_of_ble_eq_true rfl, Nat.le_of_ble_eq_true rfl⟩ rfl rfl (Nat.le_of_ble_eq_true rfl) d_Pn_fill_54 ⟨Nat.le_of_ble_eq_true rfl, Nat.le_of_ble_eq_true rfl⟩) (fun z7 hz7 => ?_)
      refine g_istore (lv' := [(4, .int (iI z7)), (3, .int (iI (((S - 2 ^ w : Nat) : Int)))), (0, .ref a), (1, .ref to), (2, .int (iI ((m : Int)))), (5, .int (iI ((k : Int))))]) C d_Pn_fill_57 (by decide) rfl ?_
      refine g_iinc (lv' := [(5, .int (iI (((k : Int)) + 1))), (4, .int (iI z7)), (3, .int (iI (((S - 2 ^ w : Nat) : Int)))), (0, .ref a), (1, .ref to), (2, .int (iI ((m : Int))))]) C d_Pn_fill_59 5 rfl (by decide) rfl ?_
      refine g_goto C 17 d_Pn_fill_62 rfl ?_
      have hq1 : ∀ j_, j_ < k + 1 → so2 j_ = gc (sStep L T (fun k_ => ((cq k_ : Nat) : Int)) n m j_).toNat := lt_s (fun j hj => by rw [hso2 j, if_pos hj]; exact hsO j hj) (by rw [hso2 k, if_neg (by omega), if_pos rfl, hstk, show ((w : Nat) : Int).toNat = w by omega]; exact hs1.symm)
      refine g_world (M' := va_up (va_up M oa (some (aR tys 4 20 so2))) to (some (.inr (6, [.ref oa, va_rf go, .int (iI dy), .int (iI (((k + 1 : Nat) : Int))), .int (iI dn), .int (iI wk), .int (iI (wo + sSum (fun k_ => tt (cq (sStep L T (fun k_ => ((cq k_ : Nat) : Int)) n m k_).toNat) 4) (k + 1)))])))) (by rw [show wk + 0 = wk by omega, show wo + sSum (fun k_ => tt (cq (sStep L T (fun k_ => ((cq k_ : Nat) : Int)) n m k_).toNat) 4) k + tt (cq w) 4 = wo + sSum (fun k_ => tt (cq (sStep L T (fun k_ => ((cq k_ : Nat) : Int)) n m k_).toNat) 4) (k + 1) by rw [sSum.eq_2, hstk]; show _ = wo + (_ + tt (cq (w : Int).toNat) 4); rw [show ((w : Nat) : Int).toNat = w by omega]; omega]; rfl) ?_
      exact g_sub [3, 4, 5, 2, 1, 0] rfl (ih17 (k + 1, S - 2 ^ w, w, z7, so2) ⟨by omega, by rw [sSv.eq_2, hSv]; dsimp only; rw [← hnd, show ((w : Nat) : Int).toNat = w by omega], hz7, hq1⟩ (by first | omega | (dsimp only; omega)))
end
section
/-! SORTED BY DUE DAYS, THEN NUMBERS -/
def bf (d : Nat → Int) (i j : Nat) : Prop := d i < d j ∨ (d i = d j ∧ i < j)
theorem bf_irr {d : Nat → Int} {i : Nat} (h : bf d i i) : False := by
  unfold bf at h
  omega
theorem bf_tr {d : Nat → Int} {i j k : Nat} (h : bf d i j) (h2 : bf d j k) : bf d i k := by
  unfold bf at *
  omega
theorem bf_tot {d : Nat → Int} {i j : Nat} (h : i ≠ j) : bf d i j ∨ bf d j i := by
  unfold bf
  omega
theorem bf_as {d : Nat → Int} {i j : Nat} (h : bf d i j) (h2 : bf d j i) : False := bf_irr (bf_tr h h2)
/-- how many of the first n are before p -/
def bfc (d : Nat → Int) (n p : Nat) : Nat := (List.range n).countP (fun j => decide (d j < d p) || (decide (d j = d p) && decide (j < p)))
theorem bf_b {d : Nat → Int} {j p : Nat} : (decide (d j < d p) || (decide (d j = d p) && decide (j < p))) = true ↔ bf d j p := by
  unfold bf
  simp
theorem bfc_at {d : Nat → Int} {n k p : Nat} {L : List Nat} (hp : L.Perm (List.range n)) (hs : L.Pairwise (bf d)) (hk : L[k]? = some p) : bfc d n p = k := by
  unfold bfc
  rw [← hp.countP_eq]
  obtain ⟨hlt, hg⟩ := List.getElem?_eq_some_iff.mp hk
  have hL : L = L.take k ++ p :: L.drop (k + 1) := by
    conv => lhs; rw [← List.take_append_drop k L, List.drop_eq_getElem_cons hlt, hg]
  have hs2 := hs
  rw [hL, List.pairwise_append, List.pairwise_cons] at hs2
  obtain ⟨-, ⟨h1, -⟩, h2⟩ := hs2
  rw [hL, List.countP_append, List.countP_cons]
  have e1 : List.countP (fun j => decide (d j < d p) || (decide (d j = d p) && decide (j < p))) (L.take k) = (L.take k).length := by
    rw [List.countP_eq_length]
    intro a ha
    exact bf_b.mpr (h2 a ha p List.mem_cons_self)
  have e2 : List.countP (fun j => decide (d j < d p) || (decide (d j = d p) && decide (j < p))) (L.drop (k + 1)) = 0 := by
    rw [List.countP_eq_zero]
    intro a ha hb
    exact bf_as (bf_b.mp hb) (h1 a ha)
  have e3 : ¬ (decide (d p < d p) || (decide (d p = d p) && decide (p < p))) = true := fun h => bf_irr (bf_b.mp h)
  rw [e1, e2, if_neg e3, List.length_take]
  omega
/-- one more part, laid behind those that are not due later -/
theorem ins_getD (L : List Nat) (r i k : Nat) (hr : r ≤ L.length) : (L.take r ++ i :: L.drop r).getD k 0 = if k < r then L.getD k 0 else if k = r then i else L.getD (k - 1) 0 := by
  have hl : (L.take r).length = r := by rw [List.length_take]; omega
  rw [List.getD_eq_getElem?_getD]
  by_cases h1 : k < r
  · rw [if_pos h1, List.getElem?_append_left (by omega), List.getElem?_take_of_lt h1, List.getD_eq_getElem?_getD]
  · rw [if_neg h1, List.getElem?_append_right (by omega), hl]
    by_cases h2 : k = r
    · rw [if_pos h2, h2, Nat.sub_self]; rfl
    · rw [if_neg h2, show k - r = (k - r - 1) + 1 by omega, List.getElem?_cons_succ, List.getElem?_drop, List.getD_eq_getElem?_getD, show r + (k - r - 1) = k - 1 by omega]
theorem ins_perm {L : List Nat} {r i : Nat} (h : L.Perm (List.range i)) : (L.take r ++ i :: L.drop r).Perm (List.range (i + 1)) := by
  have h1 : (L.take r ++ i :: L.drop r).Perm (i :: (L.take r ++ L.drop r)) := List.perm_middle
  rw [List.take_append_drop] at h1
  rw [List.range_succ]
  exact h1.trans ((List.Perm.cons i h).trans (List.perm_append_singleton i (List.range i)).symm)
theorem ins_sorted {d : Nat → Int} {L : List Nat} {r i : Nat} (hp : L.Perm (List.range i)) (hs : L.Pairwise (bf d)) (h1 : ∀ a ∈ L.take r, d a ≤ d i) (h2 : ∀ a ∈ L.drop r, d i < d a) : (L.take r ++ i :: L.drop r).Pairwise (bf d) := by
  have hs2 := hs
  rw [← List.take_append_drop r L, List.pairwise_append] at hs2
  obtain ⟨a1, a2, a3⟩ := hs2
  rw [List.pairwise_append, List.pairwise_cons]
  refine ⟨a1, ⟨fun b hb => Or.inl (h2 b hb), a2⟩, fun a ha b hb => ?_⟩
  rcases List.mem_cons.mp hb with rfl | hb
  · have hm : a ∈ List.range b := hp.mem_iff.mp (List.mem_of_mem_take ha)
    have := List.mem_range.mp hm
    have := h1 a ha
    unfold bf
    omega
  · exact a3 a ha b hb
theorem bf_le {d : Nat → Int} {i j : Nat} (h : bf d i j) : d i ≤ d j := by
  unfold bf at h
  omega
/-- the list's elements by their places -/
theorem gD_mem {L : List Nat} {k : Nat} (h : k < L.length) : L.getD k 0 ∈ L := by
  rw [List.getD_eq_getElem?_getD, List.getElem?_eq_getElem h]
  exact List.getElem_mem h
theorem tk_le {d : Nat → Int} {L : List Nat} {r : Nat} {x : Int} (hs : L.Pairwise (bf d)) (hr : r ≤ L.length) (h : r = 0 ∨ d (L.getD (r - 1) 0) ≤ x) : ∀ a ∈ L.take r, d a ≤ x := by
  intro a ha
  obtain ⟨k, hk, e⟩ := List.mem_iff_getElem.mp ha
  rw [List.length_take] at hk
  rw [List.getElem_take] at e
  rcases h with h | h
  · omega
  · rw [List.getD_eq_getElem?_getD, List.getElem?_eq_getElem (show r - 1 < L.length by omega)] at h
    have h9 : d (L[r - 1]'(by omega)) ≤ x := h
    by_cases q : k = r - 1
    · subst q; rw [← e]; exact h9
    · have := bf_le (List.pairwise_iff_getElem.mp hs k (r - 1) (by omega) (by omega) (by omega))
      rw [← e]
      omega
theorem dr_gt {d : Nat → Int} {L : List Nat} {r : Nat} {x : Int} (h : ∀ k, r ≤ k → k < L.length → x < d (L.getD k 0)) : ∀ a ∈ L.drop r, x < d a := by
  intro a ha
  obtain ⟨k, hk, e⟩ := List.mem_iff_getElem.mp ha
  rw [List.length_drop] at hk
  rw [List.getElem_drop] at e
  have h2 := h (r + k) (by omega) (by omega)
  rw [List.getD_eq_getElem?_getD, List.getElem?_eq_getElem (show r + k < L.length by omega)] at h2
  rw [← e]
  exact h2
/-- the parts of the house: their cells, places and numbers -/
def PsA (M : Wm) (nt : Nat) (gt : Nat → Option Nat) (pp tt : Nat → Nat → Int) : Prop := nt ≤ 40 ∧ ∀ k, k < nt → ∃ b, gt k = some b ∧ PtA M b (k : Int) (pp k) (tt k)
/-- the ranked ones -/
def Rk (d : Nat → Int) (n : Nat) (gt g : Nat → Option Nat) (L : List Nat) : Prop := L.Perm (List.range n) ∧ L.Pairwise (bf d) ∧ ∀ k, k < n → g k = gt (L.getD k 0)
theorem Rk.len {d : Nat → Int} {n : Nat} {gt g : Nat → Option Nat} {L : List Nat} (h : Rk d n gt g L) : L.length = n := by
  have := h.1.length_eq
  rwa [List.length_range] at this
theorem Rk.lt {d : Nat → Int} {n k : Nat} {gt g : Nat → Option Nat} {L : List Nat} (h : Rk d n gt g L) (hk : k < n) : L.getD k 0 < n := by
  have h1 := gD_mem (L := L) (k := k) (by rw [h.len]; exact hk)
  exact List.mem_range.mp (h.1.mem_iff.mp h1)
/-- while part i goes up to the rank r -/
def Ri (d : Nat → Int) (i r : Nat) (gt g : Nat → Option Nat) (L : List Nat) : Prop := r ≤ i ∧ (∀ k, k < r → g k = gt (L.getD k 0)) ∧ (∀ k, r < k → k ≤ i → g k = gt (L.getD (k - 1) 0)) ∧ ∀ k, r ≤ k → k < i → d i < d (L.getD k 0)
theorem Ri_0 {d : Nat → Int} {i : Nat} {gt g : Nat → Option Nat} {L : List Nat} (h : Rk d i gt g L) : Ri d i i gt g L := ⟨Nat.le_refl i, h.2.2, fun k h1 h2 => by omega, fun k h1 h2 => by omega⟩
theorem Ri_s {d : Nat → Int} {i r : Nat} {gt g : Nat → Option Nat} {L : List Nat} {b : Nat} (hr : 0 < r) (h : Ri d i r gt g L) (hd : d i < d (L.getD (r - 1) 0)) (hb : gt (L.getD (r - 1) 0) = some b) : Ri d i (r - 1) gt (va_up g r (some b)) L := by
  obtain ⟨h0, h1, h2, h3⟩ := h
  refine ⟨by omega, fun k hk => ?_, fun k hk hk2 => ?_, fun k hk hk2 => ?_⟩
  · unfold va_up; rw [if_neg (by omega)]; exact h1 k (by omega)
  · unfold va_up
    by_cases e : k = r
    · rw [if_pos e, e]; exact hb.symm
    · rw [if_neg e]; exact h2 k (by omega) hk2
  · by_cases e : k = r - 1
    · rw [e]; exact hd
    · exact h3 k (by omega) hk2
theorem Rk_s {d : Nat → Int} {i r : Nat} {gt g g0 : Nat → Option Nat} {L : List Nat} {b : Nat} (hR : Rk d i gt g0 L) (h : Ri d i r gt g L) (hd : r = 0 ∨ d (L.getD (r - 1) 0) ≤ d i) (hb : gt i = some b) : Rk d (i + 1) gt (va_up g r (some b)) (L.take r ++ i :: L.drop r) := by
  have hl := hR.len
  obtain ⟨h0, h1, h2, h3⟩ := h
  refine ⟨ins_perm hR.1, ins_sorted hR.1 hR.2.1 (tk_le hR.2.1 (by omega) hd) (dr_gt (fun k hk hk2 => h3 k hk (by omega))), fun k hk => ?_⟩
  rw [ins_getD L r i k (by omega)]
  unfold va_up
  by_cases e : k = r
  · rw [if_pos e, if_neg (by omega), if_pos e]; exact hb.symm
  · rw [if_neg e]
    by_cases e2 : k < r
    · rw [if_pos e2]; exact h1 k e2
    · rw [if_neg e2, if_neg e]; exact h2 k (by omega) (by omega)
end
section
/-! WHO MAY BE CHOSEN -/
theorem up_comm {M : Wm} {a b : Nat} {x y : Option va_E} (h : a ≠ b) : va_up (va_up M a x) b y = va_up (va_up M b y) a x := by
  funext j
  unfold va_up
  by_cases h1 : j = b
  · subst h1
    simp [Ne.symm h]
  · simp [h1]
def el (nl : Nat) (lf : Nat → Nat → Int) (ph u : Nat → Int) (dy : Int) (pp tt : Nat → Nat → Int) (k : Nat) : Bool := decide (sDue (tt k) ≤ dy) && decide (sBit (u 0) (tt k 0) = 1) && decide (¬ sWay nl lf ph (pp k) = -1)
theorem el_iff {nl : Nat} {lf : Nat → Nat → Int} {ph u : Nat → Int} {dy : Int} {pp tt : Nat → Nat → Int} {k : Nat} : el nl lf ph u dy pp tt k = true ↔ sDue (tt k) ≤ dy ∧ sBit (u 0) (tt k 0) = 1 ∧ ¬ sWay nl lf ph (pp k) = -1 := by
  unfold el
  simp [and_assoc]
theorem tk_1 {L : List Nat} {i : Nat} (h : i < L.length) : L.take (i + 1) = L.take i ++ [L.getD i 0] := by
  rw [List.take_add_one, List.getD_eq_getElem?_getD, List.getElem?_eq_getElem h]
  rfl
theorem fl_1 {L : List Nat} {i : Nat} {f : Nat → Bool} (h : i < L.length) : (L.take (i + 1)).filter f = if f (L.getD i 0) = true then (L.take i).filter f ++ [L.getD i 0] else (L.take i).filter f := by
  rw [tk_1 h, List.filter_append]
  by_cases q : f (L.getD i 0) = true
  · rw [if_pos q, List.filter_cons_of_pos q]; rfl
  · rw [if_neg q, List.filter_cons_of_neg q, List.filter_nil, List.append_nil]
theorem fl_7 {L : List Nat} {i : Nat} {f : Nat → Bool} (h : ((L.take i).filter f).length ≤ 7) (h2 : L.length ≤ i ∨ 7 ≤ ((L.take i).filter f).length) : (L.take i).filter f = (L.filter f).take 7 := by
  rcases h2 with h2 | h2
  · rw [List.take_of_length_le h2] at h ⊢
    rw [List.take_of_length_le h]
  · have e : L.filter f = (L.take i).filter f ++ (L.drop i).filter f := by rw [← List.filter_append, List.take_append_drop]
    rw [e, List.take_append_of_le_length h2]
    exact (List.take_of_length_le h).symm
theorem ap_getD {C : List Nat} {c k : Nat} : (C ++ [c]).getD k 0 = if k < C.length then C.getD k 0 else if k = C.length then c else 0 := by
  rw [List.getD_eq_getElem?_getD]
  by_cases h : k < C.length
  · rw [if_pos h, List.getElem?_append_left h, List.getD_eq_getElem?_getD]
  · rw [if_neg h, List.getElem?_append_right (by omega)]
    by_cases h2 : k = C.length
    · rw [if_pos h2, h2, Nat.sub_self]; rfl
    · rw [if_neg h2, show k - C.length = (k - C.length - 1) + 1 by omega, List.getElem?_cons_succ, List.getElem?_nil]; rfl
end
section
/-! RANKS AND CHOICE: written by program (wip/whole/gen/rank.py) -/
set_option maxHeartbeats 4000000 in
set_option maxRecDepth 100000 in
theorem ct_Ct_rankByDueDays (l : Launch) (D : va_G) (tys : xK) (A : Nat → Prop) (M : Wm) (hT : tyOK tys) (x ho ta rk ea sa pn to nt ns : Nat) (rt : Int) (gt gr : Nat → Option Nat) (pp tt : Nat → Nat → Int) (hx : M x = some (.inr (7, [.int (iI rt), .ref ho, .ref ta, .ref rk, .ref ea, .ref sa, .ref pn, .ref to, .int (iI ((nt : Int))), .int (iI ((ns : Int)))]))) (hta : M ta = some (aR tys 4 40 gt)) (hrk : M rk = some (aR tys 4 40 gr)) (htr : ta ≠ rk) (hps : PsA M nt gt pp tt) : mT l y_Ct_rankByDueDays b_Ct_rankByDueDays 4 none { frames := 2, cells := 0, slots := 0, locals := 42 } D tys A [.ref x] M (qV D A (fun M' => ∃ (g : Nat → Option Nat) (Lq : List Nat), Rk (fun k_ => sDue (tt k_)) nt gt g Lq ∧ M' = va_up M rk (some (aR tys 4 40 g)))) 0 0 := by
  refine met_of (own := R_Ct) (lv := [(0, .ref x)]) rfl (by decide) (Nat.le_of_ble_eq_true rfl) rfl ?_
  intro p_ e_ s_ m_ bl_ me_ c_ C hr hin
  have hT9 := hT
  obtain ⟨hT0, hT1, hT2, hT3, hT4, hT5, hT32, hT42, hT52, hT43, hT53, hT54⟩ := hT
  have hnt := hps.1
  refine g_iconst C d_Ct_rankByDueDays_0 ?_
  refine g_istore_n (lv' := [(1, .int (iI 0)), (0, .ref x)]) C d_Ct_rankByDueDays_1 (by decide) rfl ?_
  refine g_world (up_same hrk).symm ?_
  refine g_toX ?_
  refine g_sub [1, 0] rfl (g_loop (σ := Nat × (Nat → Option Nat) × List Nat) (fun q_ => nt - q_.1) (fun q_ => (q_.1 ≤ nt) ∧ (Rk (fun k_ => sDue (tt k_)) q_.1 gt q_.2.1 q_.2.2)) (fun q_ => [(0, .ref x), (1, .int (iI ((q_.1 : Int))))]) (fun q_ => (va_up M rk (some (.inl (tc tys 4, 40, .inr (.inr (.inr (.inr q_.2.1)))))))) ?_ (0, gr, []) (⟨Nat.zero_le _, ⟨List.Perm.refl _, List.Pairwise.nil, fun k hk => absurd hk (Nat.not_lt_zero k)⟩⟩))
  intro x_ hI ih2
  obtain ⟨i, G, Lq⟩ := x_
  try dsimp only at hI ih2 ⊢
  obtain ⟨hi0, hRk⟩ := hI
  refine g_iload_n C d_Ct_rankByDueDays_2 1 rfl ?_
  refine g_aload_n C d_Ct_rankByDueDays_3 0 rfl ?_
  refine g_get C f_Ct_49 ((wd_up_n (ne_oa hx hrk)).trans hx) rfl d_Ct_rankByDueDays_4 ?_
  refine g_icmp_ge C 79 d_Ct_rankByDueDays_7 rfl (by omega) (fun c1 => ?_) (fun c1 => ?_)
  · exact g_vret C hr d_Ct_rankByDueDays_79 ⟨G, Lq, (show i = nt by omega) ▸ hRk, rfl⟩
  · obtain ⟨b1, hs1, hpk1, htk1, pa1, hb1, hpa1⟩ := hps.2 i (by omega)
    refine g_aload_n C d_Ct_rankByDueDays_10 0 rfl ?_
    refine g_get C f_Ct_18 ((wd_up_n (ne_oa hx hrk)).trans hx) rfl d_Ct_rankByDueDays_11 ?_
    refine g_iload_n C d_Ct_rankByDueDays_14 1 rfl ?_
    refine g_aald C 4 hT4 ((wd_up_n htr).trans hta) (by omega) (by rw [show ((i : Nat) : Int).toNat = i by omega]; exact hs1) d_Ct_rankByDueDays_15 ?_
    refine g_calliP C (run_V C [] k_Ct_278 (ct_Pt_dueDay l D tys A (va_up M rk (some (.inl (tc tys 4, 40, .inr (.inr (.inr (.inr G))))))) b1 ((i : Nat) : Int) pa1 (tt i) htk1 ((wd_up_n (ne_oa hb1 hrk)).trans hb1)) ((wd_up_n (ne_oa hb1 hrk)).trans hb1) ⟨rfl, rfl, Nat.le_of_ble_eq_true rfl, Nat.le_of_ble_eq_true rfl⟩ rfl rfl (Nat.le_of_ble_eq_true rfl) d_Ct_rankByDueDays_16 ⟨Nat.le_of_ble_eq_true rfl, Nat.le_of_ble_eq_true rfl⟩) (fun z2 hz2 => ?_)
    have hbz2 := sDue_b htk1
    refine g_istore_n (lv' := [(2, .int (iI z2)), (0, .ref x), (1, .int (iI ((i : Int))))]) C d_Ct_rankByDueDays_19 (by decide) rfl ?_
    refine g_iload_n C d_Ct_rankByDueDays_20 2 rfl ?_
    refine g_istore_n (lv' := [(3, .int (iI ((i : Int)))), (2, .int (iI z2)), (0, .ref x), (1, .int (iI ((i : Int))))]) C d_Ct_rankByDueDays_21 (by decide) rfl ?_
    rw [hz2]
    refine g_sub [2, 3, 1, 0] rfl (g_loop (σ := Nat × (Nat → Option Nat)) (fun q_ => q_.1) (fun q_ => (Ri (fun k_ => sDue (tt k_)) i q_.1 gt q_.2 Lq)) (fun q_ => [(0, .ref x), (1, .int (iI ((i : Int)))), (2, .int (iI (sDue (tt i)))), (3, .int (iI ((q_.1 : Int))))]) (fun q_ => (va_up M rk (some (.inl (tc tys 4, 40, .inr (.inr (.inr (.inr q_.2)))))))) ?_ (i, G) (Ri_0 hRk))
    intro x_ hI ih22
    obtain ⟨r, G⟩ := x_
    try dsimp only at hI ih22 ⊢
    have hRi := hI
    have hri := hRi.1
    refine g_iload_n C d_Ct_rankByDueDays_22 3 rfl ?_
    refine g_if_le C 61 d_Ct_rankByDueDays_23 rfl (by omega) (fun c3 => ?_) (fun c3 => ?_)
    · have hst9 : r = 0 ∨ sDue (tt (Lq.getD (r - 1) 0)) ≤ sDue (tt i) := Or.inl (by omega)
      refine g_aload_n C d_Ct_rankByDueDays_61 0 rfl ?_
      refine g_get C f_Ct_22 ((wd_up_n (ne_oa hx hrk)).trans hx) rfl d_Ct_rankByDueDays_62 ?_
      refine g_iload_n C d_Ct_rankByDueDays_65 3 rfl ?_
      refine g_aload_n C d_Ct_rankByDueDays_66 0 rfl ?_
      refine g_get C f_Ct_18 ((wd_up_n (ne_oa hx hrk)).trans hx) rfl d_Ct_rankByDueDays_67 ?_
      refine g_iload_n C d_Ct_rankByDueDays_70 1 rfl ?_
      refine g_aald C 4 hT4 ((wd_up_n htr).trans hta) (by omega) (by rw [show ((i : Nat) : Int).toNat = i by omega]; exact hs1) d_Ct_rankByDueDays_71 ?_
      refine g_aast C 4 hT4 rfl wd_up_s ((wd_up_n (ne_oa hb1 hrk)).trans hb1) (by omega) d_Ct_rankByDueDays_72 ?_
      refine g_world (bx_uu _ _ _ _) ?_
      refine g_iinc (lv' := [(1, .int (iI (((i : Int)) + 1))), (0, .ref x), (2, .int (iI (sDue (tt i)))), (3, .int (iI ((r : Int))))]) C d_Ct_rankByDueDays_73 1 rfl (by decide) rfl ?_
      refine g_goto C 2 d_Ct_rankByDueDays_76 rfl ?_
      obtain ⟨G2, eG2⟩ : ∃ z : Nat → Option Nat, z = va_up G ((r : Int)).toNat (some b1) := ⟨_, rfl⟩
      rw [← eG2]
      have hRk2 : Rk (fun k_ => sDue (tt k_)) (i + 1) gt G2 (Lq.take r ++ i :: Lq.drop r) := by
        rw [eG2, show ((r : Nat) : Int).toNat = r by omega]
        exact Rk_s hRk hRi hst9 hs1
      exact g_sub [1, 0] rfl (ih2 (i + 1, G2, Lq.take r ++ i :: Lq.drop r) ⟨by omega, hRk2⟩ (by first | omega | (dsimp only; omega)))
    · have hlt9 := hRk.lt (k := r - 1) (by omega)
      obtain ⟨b2, hs2, hpk2, htk2, pa2, hb2, hpa2⟩ := hps.2 ((Lq.getD (r - 1) 0)) (by omega)
      refine g_aload_n C d_Ct_rankByDueDays_26 0 rfl ?_
      refine g_get C f_Ct_22 ((wd_up_n (ne_oa hx hrk)).trans hx) rfl d_Ct_rankByDueDays_27 ?_
      refine g_iload_n C d_Ct_rankByDueDays_30 3 rfl ?_
      refine g_iconst C d_Ct_rankByDueDays_31 ?_
      refine g_isub C d_Ct_rankByDueDays_32 ?_
      refine g_aald C 4 hT4 wd_up_s (by omega) (by rw [show ((r : Int) - 1).toNat = r - 1 by omega, hRi.2.1 (r - 1) (by omega)]; exact hs2) d_Ct_rankByDueDays_33 ?_
      refine g_calliP C (run_V C [] k_Ct_278 (ct_Pt_dueDay l D tys A (va_up M rk (some (.inl (tc tys 4, 40, .inr (.inr (.inr (.inr G))))))) b2 (((Lq.getD (r - 1) 0) : Nat) : Int) pa2 (tt ((Lq.getD (r - 1) 0))) htk2 ((wd_up_n (ne_oa hb2 hrk)).trans hb2)) ((wd_up_n (ne_oa hb2 hrk)).trans hb2) ⟨rfl, rfl, Nat.le_of_ble_eq_true rfl, Nat.le_of_ble_eq_true rfl⟩ rfl rfl (Nat.le_of_ble_eq_true rfl) d_Ct_rankByDueDays_34 ⟨Nat.le_of_ble_eq_true rfl, Nat.le_of_ble_eq_true rfl⟩) (fun z4 hz4 => ?_)
      have hbz4 := sDue_b htk2
      refine g_iload_n C d_Ct_rankByDueDays_37 2 rfl ?_
      refine g_icmp_le C 61 d_Ct_rankByDueDays_38 rfl (by omega) (fun c5 => ?_) (fun c5 => ?_)
      · have hst9 : r = 0 ∨ sDue (tt (Lq.getD (r - 1) 0)) ≤ sDue (tt i) := Or.inr (by omega)
        refine g_aload_n C d_Ct_rankByDueDays_61 0 rfl ?_
        refine g_get C f_Ct_22 ((wd_up_n (ne_oa hx hrk)).trans hx) rfl d_Ct_rankByDueDays_62 ?_
        refine g_iload_n C d_Ct_rankByDueDays_65 3 rfl ?_
        refine g_aload_n C d_Ct_rankByDueDays_66 0 rfl ?_
        refine g_get C f_Ct_18 ((wd_up_n (ne_oa hx hrk)).trans hx) rfl d_Ct_rankByDueDays_67 ?_
        refine g_iload_n C d_Ct_rankByDueDays_70 1 rfl ?_
        refine g_aald C 4 hT4 ((wd_up_n htr).trans hta) (by omega) (by rw [show ((i : Nat) : Int).toNat = i by omega]; exact hs1) d_Ct_rankByDueDays_71 ?_
        refine g_aast C 4 hT4 rfl wd_up_s ((wd_up_n (ne_oa hb1 hrk)).trans hb1) (by omega) d_Ct_rankByDueDays_72 ?_
        refine g_world (bx_uu _ _ _ _) ?_
        refine g_iinc (lv' := [(1, .int (iI (((i : Int)) + 1))), (0, .ref x), (2, .int (iI (sDue (tt i)))), (3, .int (iI ((r : Int))))]) C d_Ct_rankByDueDays_73 1 rfl (by decide) rfl ?_
        refine g_goto C 2 d_Ct_rankByDueDays_76 rfl ?_
        obtain ⟨G2, eG2⟩ : ∃ z : Nat → Option Nat, z = va_up G ((r : Int)).toNat (some b1) := ⟨_, rfl⟩
        rw [← eG2]
        have hRk2 : Rk (fun k_ => sDue (tt k_)) (i + 1) gt G2 (Lq.take r ++ i :: Lq.drop r) := by
          rw [eG2, show ((r : Nat) : Int).toNat = r by omega]
          exact Rk_s hRk hRi hst9 hs1
        exact g_sub [1, 0] rfl (ih2 (i + 1, G2, Lq.take r ++ i :: Lq.drop r) ⟨by omega, hRk2⟩ (by first | omega | (dsimp only; omega)))
      · refine g_aload_n C d_Ct_rankByDueDays_41 0 rfl ?_
        refine g_get C f_Ct_22 ((wd_up_n (ne_oa hx hrk)).trans hx) rfl d_Ct_rankByDueDays_42 ?_
        refine g_iload_n C d_Ct_rankByDueDays_45 3 rfl ?_
        refine g_aload_n C d_Ct_rankByDueDays_46 0 rfl ?_
        refine g_get C f_Ct_22 ((wd_up_n (ne_oa hx hrk)).trans hx) rfl d_Ct_rankByDueDays_47 ?_
        refine g_iload_n C d_Ct_rankByDueDays_50 3 rfl ?_
        refine g_iconst C d_Ct_rankByDueDays_51 ?_
        refine g_isub C d_Ct_rankByDueDays_52 ?_
        refine g_aald C 4 hT4 wd_up_s (by omega) (by rw [show ((r : Int) - 1).toNat = r - 1 by omega, hRi.2.1 (r - 1) (by omega)]; exact hs2) d_Ct_rankByDueDays_53 ?_
        refine g_aast C 4 hT4 rfl wd_up_s ((wd_up_n (ne_oa hb2 hrk)).trans hb2) (by omega) d_Ct_rankByDueDays_54 ?_
        refine g_world (bx_uu _ _ _ _) ?_
        refine g_iinc (lv' := [(3, .int (iI (((r : Int)) + (-1)))), (0, .ref x), (1, .int (iI ((i : Int)))), (2, .int (iI (sDue (tt i))))]) C d_Ct_rankByDueDays_55 3 rfl (by decide) rfl ?_
        refine g_goto C 22 d_Ct_rankByDueDays_58 rfl ?_
        obtain ⟨G2, eG2⟩ : ∃ z : Nat → Option Nat, z = va_up G ((r : Int)).toNat (some b2) := ⟨_, rfl⟩
        rw [← eG2, show (r : Int) + (-1) = ((r - 1 : Nat) : Int) by omega]
        have hRi2 : Ri (fun k_ => sDue (tt k_)) i (r - 1) gt G2 Lq := by
          rw [eG2, show ((r : Nat) : Int).toNat = r by omega]
          exact Ri_s (by omega) hRi (by show sDue (tt i) < sDue (tt (Lq.getD (r - 1) 0)); omega) hs2
        exact g_sub [1, 2, 3, 0] rfl (ih22 (r - 1, G2) hRi2 (by first | omega | (dsimp only; omega)))
end
section
/-! THE CHOICE of a tour's parts: written by program (wip/whole/gen/choose.py) -/
theorem PsA_up {M : Wm} {nt a : Nat} {gt : Nat → Option Nat} {pp tt : Nat → Nat → Int} {e x : va_E} (h : PsA M nt gt pp tt) (ha : M a = some e) (hk : cok e) : PsA (va_up M a (some x)) nt gt pp tt := by
  refine ⟨h.1, fun k hkn => ?_⟩
  obtain ⟨b, h2, h3⟩ := h.2 k hkn
  exact ⟨b, h2, PtA_up h3 ha hk⟩
set_option maxHeartbeats 4000000 in
set_option maxRecDepth 100000 in
theorem ct_Ct_choose (l : Launch) (D : va_G) (tys : xK) (A : Nat → Prop) (M : Wm) (hT : tyOK tys) (x ho ta rk ea sa pn to nt ns : Nat) (rt : Int) (gt gr : Nat → Option Nat) (pp tt : Nat → Nat → Int) (hx : M x = some (.inr (7, [.int (iI rt), .ref ho, .ref ta, .ref rk, .ref ea, .ref sa, .ref pn, .ref to, .int (iI ((nt : Int))), .int (iI ((ns : Int)))]))) (hta : M ta = some (aR tys 4 40 gt)) (hrk : M rk = some (aR tys 4 40 gr)) (htr : ta ≠ rk) (hps : PsA M nt gt pp tt) (ca ga ra : Nat) (c0 : Int) (gc : Nat → Option Nat) (hpn : M pn = some (.inr (5, [.ref ca, .ref ga, .ref ra, .int (iI c0)]))) (hca : M ca = some (aR tys 4 7 gc)) (hcr : ca ≠ rk) (hct : ca ≠ ta) (nl : Nat) (lf : Nat → Nat → Int) (hH : HoA tys M ho nl lf) (e0 hm : Nat) (n0 : Int) (ph u : Nat → Int) (hph : okP ph) (hu : okU u) (he0 : M e0 = some (oPe n0 hm u)) (hhm : M hm = some (oPl ph)) (dy : Int) (hdy : 0 ≤ dy ∧ dy ≤ 100000) : mT l y_Ct_choose b_Ct_choose 5 none { frames := 4, cells := 0, slots := 0, locals := 91 } D tys A [.ref x, .ref e0, .int (iI dy)] M (qV D A (fun M' => ∃ (g gC : Nat → Option Nat) (Lq C_ : List Nat), Rk (fun k_ => sDue (tt k_)) nt gt g Lq ∧ C_ = (Lq.filter (el nl lf ph u dy pp tt)).take 7 ∧ (∀ k, k < C_.length → gC k = gt (C_.getD k 0)) ∧ M' = va_up (va_up (va_up M rk (some (.inl (tc tys 4, 40, .inr (.inr (.inr (.inr g))))))) ca (some (.inl (tc tys 4, 7, .inr (.inr (.inr (.inr gC))))))) pn (some (.inr (5, [.ref ca, .ref ga, .ref ra, .int (iI (((C_.length : Nat) : Int)))]))))) 0 0 := by
  refine met_of (own := R_Ct) (lv := [(0, .ref x), (1, .ref e0), (2, .int (iI dy))]) rfl (by decide) (Nat.le_of_ble_eq_true rfl) rfl ?_
  intro p_ e_ s_ m_ bl_ me_ c_ C hr hin
  have hT9 := hT
  obtain ⟨hT0, hT1, hT2, hT3, hT4, hT5, hT32, hT42, hT52, hT43, hT53, hT54⟩ := hT
  have hnt := hps.1
  have hlok := hH.2.1
  obtain ⟨-, -, pa9, la9, np9, gl9, hh9, -⟩ := id hH
  have hu9 := hu
  unfold okU at hu9
  refine g_aload_n C d_Ct_choose_0 0 rfl ?_
  refine g_get C f_Ct_38 hx rfl d_Ct_choose_1 ?_
  refine g_callv C (run_V C [] k_Ct_292 (ct_Pn_clear l D tys A M pn ca ga ra c0 hpn) hpn ⟨rfl, rfl, Nat.le_of_ble_eq_true rfl, Nat.le_of_ble_eq_true rfl⟩ rfl rfl (Nat.le_of_ble_eq_true rfl) d_Ct_choose_4 ⟨Nat.le_of_ble_eq_true rfl, Nat.le_of_ble_eq_true rfl⟩) (fun M1 hM1 => ?_)
  subst hM1
  refine g_aload_n C d_Ct_choose_7 0 rfl ?_
  refine g_callv C (run_V C [] k_Ct_284 (ct_Ct_rankByDueDays l D tys A (va_up M pn (some (.inr (5, [.ref ca, .ref ga, .ref ra, .int (iI 0)])))) hT9 x ho ta rk ea sa pn to nt ns rt gt gr pp tt ((wd_up_n (ne_oo hx hpn (by decide))).trans hx) ((wd_up_n (Ne.symm (ne_oa hpn hta))).trans hta) ((wd_up_n (Ne.symm (ne_oa hpn hrk))).trans hrk) htr (PsA_up hps hpn ⟨by show (5 : Nat) ≠ 2; decide, by show (5 : Nat) ≠ 4; decide⟩)) ((wd_up_n (ne_oo hx hpn (by decide))).trans hx) ⟨rfl, rfl, Nat.le_of_ble_eq_true rfl, Nat.le_of_ble_eq_true rfl⟩ rfl rfl (Nat.le_of_ble_eq_true rfl) d_Ct_choose_8 ⟨Nat.le_of_ble_eq_true rfl, Nat.le_of_ble_eq_true rfl⟩) (fun M2 hM2 => ?_)
  obtain ⟨gR, Lq, hRk, rfl⟩ := hM2
  refine g_world (up_comm (ne_oa hpn hrk)) ?_
  refine g_iconst C d_Ct_choose_11 ?_
  refine g_istore_n (lv' := [(3, .int (iI 0)), (0, .ref x), (1, .ref e0), (2, .int (iI dy))]) C d_Ct_choose_12 (by decide) rfl ?_
  refine g_world (M' := va_up (va_up (va_up M rk (some (aR tys 4 40 gR))) ca (some (aR tys 4 7 gc))) pn (some (.inr (5, [.ref ca, .ref ga, .ref ra, .int (iI 0)])))) (by rw [up_same ((wd_up_n hcr).trans hca)]) ?_
  refine g_sub [1, 2, 3, 0] rfl (g_loop (σ := Nat × List Nat × (Nat → Option Nat)) (fun q_ => nt - q_.1) (fun q_ => (q_.1 ≤ nt) ∧ (q_.2.1 = (Lq.take q_.1).filter (el nl lf ph u dy pp tt)) ∧ (q_.2.1.length ≤ 7) ∧ (∀ k_, k_ < q_.2.1.length → q_.2.2 k_ = gt (q_.2.1.getD k_ 0))) (fun q_ => [(0, .ref x), (1, .ref e0), (2, .int (iI dy)), (3, .int (iI ((q_.1 : Int))))]) (fun q_ => (va_up (va_up (va_up M rk (some (.inl (tc tys 4, 40, .inr (.inr (.inr (.inr gR))))))) ca (some (.inl (tc tys 4, 7, .inr (.inr (.inr (.inr q_.2.2))))))) pn (some (.inr (5, [.ref ca, .ref ga, .ref ra, .int (iI (((q_.2.1.length : Nat) : Int)))]))))) ?_ (0, [], gc) (⟨Nat.zero_le _, rfl, Nat.zero_le _, (fun k_ hk_ => absurd hk_ (Nat.not_lt_zero k_))⟩))
  intro x_ hI ih13
  obtain ⟨i, C_, gC⟩ := x_
  try dsimp only at hI ih13 ⊢
  obtain ⟨hi0, hC, hC7, hgC⟩ := hI
  refine g_iload_n C d_Ct_choose_13 3 rfl ?_
  refine g_aload_n C d_Ct_choose_14 0 rfl ?_
  refine g_get C f_Ct_49 ((wd_up_n (ne_oo hx hpn (by decide))).trans ((wd_up_n (ne_oa hx hca)).trans ((wd_up_n (ne_oa hx hrk)).trans hx))) rfl d_Ct_choose_15 ?_
  refine g_icmp_ge C 95 d_Ct_choose_18 rfl (by omega) (fun c3 => ?_) (fun c3 => ?_)
  · exact g_vret C hr d_Ct_choose_95 ⟨gR, gC, Lq, C_, hRk, (by rw [hC]; exact fl_7 (by rw [← hC]; exact hC7) (by rw [← hC, hRk.len]; omega)), hgC, rfl⟩
  · refine g_aload_n C d_Ct_choose_21 0 rfl ?_
    refine g_get C f_Ct_38 ((wd_up_n (ne_oo hx hpn (by decide))).trans ((wd_up_n (ne_oa hx hca)).trans ((wd_up_n (ne_oa hx hrk)).trans hx))) rfl d_Ct_choose_22 ?_
    refine g_calliP C (run_V C [] k_Ct_295 (ct_Pn_isFull l D tys A (va_up (va_up (va_up M rk (some (.inl (tc tys 4, 40, .inr (.inr (.inr (.inr gR))))))) ca (some (.inl (tc tys 4, 7, .inr (.inr (.inr (.inr gC))))))) pn (some (.inr (5, [.ref ca, .ref ga, .ref ra, .int (iI (((C_.length : Nat) : Int)))])))) pn ca ga ra ((C_.length : Nat) : Int) (by omega) wd_up_s) wd_up_s ⟨rfl, rfl, Nat.le_of_ble_eq_true rfl, Nat.le_of_ble_eq_true rfl⟩ rfl rfl (Nat.le_of_ble_eq_true rfl) d_Ct_choose_25 ⟨Nat.le_of_ble_eq_true rfl, Nat.le_of_ble_eq_true rfl⟩) (fun z4 hz4 => ?_)
    refine g_if_ne C 95 d_Ct_choose_28 rfl (by omega) (fun c5 => ?_) (fun c5 => ?_)
    · exact g_vret C hr d_Ct_choose_95 ⟨gR, gC, Lq, C_, hRk, (by rw [hC]; exact fl_7 (by rw [← hC]; exact hC7) (by rw [← hC, hRk.len]; omega)), hgC, rfl⟩
    · have hlt9 := hRk.lt (k := i) (by omega)
      obtain ⟨b1, hs1, hpk1, htk1, pa1, hb1, hpa1⟩ := hps.2 ((Lq.getD i 0)) (by omega)
      have htk9 := htk1
      unfold okT at htk9
      refine g_aload_n C d_Ct_choose_31 0 rfl ?_
      refine g_get C f_Ct_22 ((wd_up_n (ne_oo hx hpn (by decide))).trans ((wd_up_n (ne_oa hx hca)).trans ((wd_up_n (ne_oa hx hrk)).trans hx))) rfl d_Ct_choose_32 ?_
      refine g_iload_n C d_Ct_choose_35 3 rfl ?_
      refine g_aald C 4 hT4 ((wd_up_n (Ne.symm (ne_oa hpn hrk))).trans ((wd_up_n (Ne.symm hcr)).trans wd_up_s)) (by omega) (by rw [show ((i : Nat) : Int).toNat = i by omega, hRk.2.2 i (by omega)]; exact hs1) d_Ct_choose_36 ?_
      refine g_astore (lv' := [(4, .ref b1), (0, .ref x), (1, .ref e0), (2, .int (iI dy)), (3, .int (iI ((i : Int))))]) C d_Ct_choose_37 (by decide) rfl ?_
      refine g_aload C d_Ct_choose_39 0 rfl ?_
      refine g_calliP C (run_V C [] k_Ct_278 (ct_Pt_dueDay l D tys A (va_up (va_up (va_up M rk (some (.inl (tc tys 4, 40, .inr (.inr (.inr (.inr gR))))))) ca (some (.inl (tc tys 4, 7, .inr (.inr (.inr (.inr gC))))))) pn (some (.inr (5, [.ref ca, .ref ga, .ref ra, .int (iI (((C_.length : Nat) : Int)))])))) b1 (((Lq.getD i 0) : Nat) : Int) pa1 (tt ((Lq.getD i 0))) htk1 ((wd_up_n (ne_oo hb1 hpn (by decide))).trans ((wd_up_n (ne_oa hb1 hca)).trans ((wd_up_n (ne_oa hb1 hrk)).trans hb1)))) ((wd_up_n (ne_oo hb1 hpn (by decide))).trans ((wd_up_n (ne_oa hb1 hca)).trans ((wd_up_n (ne_oa hb1 hrk)).trans hb1))) ⟨rfl, rfl, Nat.le_of_ble_eq_true rfl, Nat.le_of_ble_eq_true rfl⟩ rfl rfl (Nat.le_of_ble_eq_true rfl) d_Ct_choose_41 ⟨Nat.le_of_ble_eq_true rfl, Nat.le_of_ble_eq_true rfl⟩) (fun z6 hz6 => ?_)
      have hbz6 := sDue_b htk1
      refine g_iload_n C d_Ct_choose_44 3 rfl ?_
      refine g_icmp_gt C 89 d_Ct_choose_45 rfl (by omega) (fun c7 => ?_) (fun c7 => ?_)
      · refine g_iinc (lv' := [(3, .int (iI (((i : Int)) + 1))), (4, .ref b1), (0, .ref x), (1, .ref e0), (2, .int (iI dy))]) C d_Ct_choose_89 4 rfl (by decide) rfl ?_
        refine g_goto C 13 d_Ct_choose_92 rfl ?_
        have hC2 : C_ = (Lq.take (i + 1)).filter (el nl lf ph u dy pp tt) := by
          rw [fl_1 (by rw [hRk.len]; omega), if_neg (by rw [el_iff]; omega)]; exact hC
        exact g_sub [2, 3, 4, 0] rfl (ih13 (i + 1, C_, gC) ⟨by omega, hC2, hC7, hgC⟩ (by first | omega | (dsimp only; omega)))
      · refine g_aload_n C d_Ct_choose_48 2 rfl ?_
        refine g_aload C d_Ct_choose_49 0 rfl ?_
        refine g_get C f_Ct_237 ((wd_up_n (ne_oo hb1 hpn (by decide))).trans ((wd_up_n (ne_oa hb1 hca)).trans ((wd_up_n (ne_oa hb1 hrk)).trans hb1))) rfl d_Ct_choose_51 ?_
        refine g_calliP C (run_V C [.int (iI (tt ((Lq.getD i 0)) 0))] k_Ct_240 (ct_Pe_has l D tys A (va_up (va_up (va_up M rk (some (.inl (tc tys 4, 40, .inr (.inr (.inr (.inr gR))))))) ca (some (.inl (tc tys 4, 7, .inr (.inr (.inr (.inr gC))))))) pn (some (.inr (5, [.ref ca, .ref ga, .ref ra, .int (iI (((C_.length : Nat) : Int)))])))) e0 n0 hm u (tt ((Lq.getD i 0)) 0) hu (by omega) ((wd_up_n (ne_oo he0 hpn (by decide))).trans ((wd_up_n (ne_oa he0 hca)).trans ((wd_up_n (ne_oa he0 hrk)).trans he0)))) ((wd_up_n (ne_oo he0 hpn (by decide))).trans ((wd_up_n (ne_oa he0 hca)).trans ((wd_up_n (ne_oa he0 hrk)).trans he0))) ⟨rfl, rfl, Nat.le_of_ble_eq_true rfl, Nat.le_of_ble_eq_true rfl⟩ rfl rfl (Nat.le_of_ble_eq_true rfl) d_Ct_choose_54 ⟨Nat.le_of_ble_eq_true rfl, Nat.le_of_ble_eq_true rfl⟩) (fun z8 hz8 => ?_)
        refine g_if_eq C 89 d_Ct_choose_57 rfl (by omega) (fun c9 => ?_) (fun c9 => ?_)
        · refine g_iinc (lv' := [(3, .int (iI (((i : Int)) + 1))), (4, .ref b1), (0, .ref x), (1, .ref e0), (2, .int (iI dy))]) C d_Ct_choose_89 4 rfl (by decide) rfl ?_
          refine g_goto C 13 d_Ct_choose_92 rfl ?_
          have hC2 : C_ = (Lq.take (i + 1)).filter (el nl lf ph u dy pp tt) := by
            rw [fl_1 (by rw [hRk.len]; omega), if_neg (by rw [el_iff]; omega)]; exact hC
          exact g_sub [2, 3, 4, 0] rfl (ih13 (i + 1, C_, gC) ⟨by omega, hC2, hC7, hgC⟩ (by first | omega | (dsimp only; omega)))
        · refine g_aload_n C d_Ct_choose_60 1 rfl ?_
          refine g_get C f_Ct_10 ((wd_up_n (ne_oo hx hpn (by decide))).trans ((wd_up_n (ne_oa hx hca)).trans ((wd_up_n (ne_oa hx hrk)).trans hx))) rfl d_Ct_choose_61 ?_
          refine g_aload_n C d_Ct_choose_64 2 rfl ?_
          refine g_get C f_Ct_183 ((wd_up_n (ne_oo he0 hpn (by decide))).trans ((wd_up_n (ne_oa he0 hca)).trans ((wd_up_n (ne_oa he0 hrk)).trans he0))) rfl d_Ct_choose_65 ?_
          refine g_aload C d_Ct_choose_68 0 rfl ?_
          refine g_get C f_Ct_251 ((wd_up_n (ne_oo hb1 hpn (by decide))).trans ((wd_up_n (ne_oa hb1 hca)).trans ((wd_up_n (ne_oa hb1 hrk)).trans hb1))) rfl d_Ct_choose_70 ?_
          refine g_calliP C (run_V C [.ref hm, .ref pa1] k_Ct_173 (ct_Ho_secondsBetween l D tys A (va_up (va_up (va_up M rk (some (.inl (tc tys 4, 40, .inr (.inr (.inr (.inr gR))))))) ca (some (.inl (tc tys 4, 7, .inr (.inr (.inr (.inr gC))))))) pn (some (.inr (5, [.ref ca, .ref ga, .ref ra, .int (iI (((C_.length : Nat) : Int)))])))) hT9 ho hm pa1 nl lf ph (pp ((Lq.getD i 0))) hph hpk1 (HoA_up (HoA_up (HoA_up hH hrk hT43) ((wd_up_n hcr).trans hca) hT43) ((wd_up_n (ne_oa hpn hca)).trans ((wd_up_n (ne_oa hpn hrk)).trans hpn)) ⟨by show (5 : Nat) ≠ 0; decide, by show (5 : Nat) ≠ 1; decide⟩) ((wd_up_n (ne_oo hhm hpn (by decide))).trans ((wd_up_n (ne_oa hhm hca)).trans ((wd_up_n (ne_oa hhm hrk)).trans hhm))) ((wd_up_n (ne_oo hpa1 hpn (by decide))).trans ((wd_up_n (ne_oa hpa1 hca)).trans ((wd_up_n (ne_oa hpa1 hrk)).trans hpa1)))) ((wd_up_n (ne_oo hh9 hpn (by decide))).trans ((wd_up_n (ne_oa hh9 hca)).trans ((wd_up_n (ne_oa hh9 hrk)).trans hh9))) ⟨rfl, rfl, Nat.le_of_ble_eq_true rfl, Nat.le_of_ble_eq_true rfl⟩ rfl rfl (Nat.le_of_ble_eq_true rfl) d_Ct_choose_73 ⟨Nat.le_of_ble_eq_true rfl, Nat.le_of_ble_eq_true rfl⟩) (fun z10 hz10 => ?_)
          have hbz10 := sWay_b (nl := nl) hlok hph hpk1
          refine g_iconst C d_Ct_choose_76 ?_
          refine g_icmp_eq C 89 d_Ct_choose_77 rfl (by omega) (fun c11 => ?_) (fun c11 => ?_)
          · refine g_iinc (lv' := [(3, .int (iI (((i : Int)) + 1))), (4, .ref b1), (0, .ref x), (1, .ref e0), (2, .int (iI dy))]) C d_Ct_choose_89 4 rfl (by decide) rfl ?_
            refine g_goto C 13 d_Ct_choose_92 rfl ?_
            have hC2 : C_ = (Lq.take (i + 1)).filter (el nl lf ph u dy pp tt) := by
              rw [fl_1 (by rw [hRk.len]; omega), if_neg (by rw [el_iff]; omega)]; exact hC
            exact g_sub [2, 3, 4, 0] rfl (ih13 (i + 1, C_, gC) ⟨by omega, hC2, hC7, hgC⟩ (by first | omega | (dsimp only; omega)))
          · refine g_aload_n C d_Ct_choose_80 1 rfl ?_
            refine g_get C f_Ct_38 ((wd_up_n (ne_oo hx hpn (by decide))).trans ((wd_up_n (ne_oa hx hca)).trans ((wd_up_n (ne_oa hx hrk)).trans hx))) rfl d_Ct_choose_81 ?_
            refine g_aload C d_Ct_choose_84 0 rfl ?_
            refine g_callv C (run_V C [.ref b1] k_Ct_299 (ct_Pn_add l D tys A (va_up (va_up (va_up M rk (some (.inl (tc tys 4, 40, .inr (.inr (.inr (.inr gR))))))) ca (some (.inl (tc tys 4, 7, .inr (.inr (.inr (.inr gC))))))) pn (some (.inr (5, [.ref ca, .ref ga, .ref ra, .int (iI (((C_.length : Nat) : Int)))])))) hT9 pn ca ga ra b1 ((C_.length : Nat) : Int) gC _ (by omega) wd_up_s ((wd_up_n (Ne.symm (ne_oa hpn hca))).trans wd_up_s) ((wd_up_n (ne_oo hb1 hpn (by decide))).trans ((wd_up_n (ne_oa hb1 hca)).trans ((wd_up_n (ne_oa hb1 hrk)).trans hb1)))) wd_up_s ⟨rfl, rfl, Nat.le_of_ble_eq_true rfl, Nat.le_of_ble_eq_true rfl⟩ rfl rfl (Nat.le_of_ble_eq_true rfl) d_Ct_choose_86 ⟨Nat.le_of_ble_eq_true rfl, Nat.le_of_ble_eq_true rfl⟩) (fun M12 hM12 => ?_)
            subst hM12
            refine g_world (up4 (Ne.symm (ne_oa hpn hca))) ?_
            refine g_iinc (lv' := [(3, .int (iI (((i : Int)) + 1))), (4, .ref b1), (0, .ref x), (1, .ref e0), (2, .int (iI dy))]) C d_Ct_choose_89 4 rfl (by decide) rfl ?_
            refine g_goto C 13 d_Ct_choose_92 rfl ?_
            obtain ⟨G2, eG2⟩ : ∃ z : Nat → Option Nat, z = va_up gC ((C_.length : Nat) : Int).toNat (some b1) := ⟨_, rfl⟩
            rw [← eG2]
            have hC2 : C_ ++ [Lq.getD i 0] = (Lq.take (i + 1)).filter (el nl lf ph u dy pp tt) := by
              rw [fl_1 (by rw [hRk.len]; omega), if_pos (by rw [el_iff]; omega), ← hC]
            have hl2 : (C_ ++ [Lq.getD i 0]).length = C_.length + 1 := by rw [List.length_append]; rfl
            have hg2 : ∀ k_, k_ < (C_ ++ [Lq.getD i 0]).length → G2 k_ = gt ((C_ ++ [Lq.getD i 0]).getD k_ 0) := by
              intro k_ hk_
              rw [hl2] at hk_
              rw [ap_getD, eG2, show ((C_.length : Nat) : Int).toNat = C_.length by omega]
              unfold va_up
              by_cases e_ : k_ = C_.length
              · rw [if_pos e_, if_neg (by omega), if_pos e_]; exact hs1.symm
              · rw [if_neg e_, if_pos (by omega)]; exact hgC k_ (by omega)
            refine g_world (M' := va_up (va_up (va_up M rk (some (aR tys 4 40 gR))) ca (some (aR tys 4 7 G2))) pn (some (.inr (5, [.ref ca, .ref ga, .ref ra, .int (iI ((((C_ ++ [Lq.getD i 0]).length : Nat) : Int)))])))) (by rw [hl2]; rfl) ?_
            exact g_sub [2, 3, 4, 0] rfl (ih13 (i + 1, C_ ++ [Lq.getD i 0], G2) ⟨by omega, hC2, (show (C_ ++ [Lq.getD i 0]).length ≤ 7 by omega), hg2⟩ (by first | omega | (dsimp only; omega)))
end
section
/-! THE CLASS IS MADE: written by program (wip/whole/gen/ctor.py) -/
theorem up_none {M : Wm} {a q : Nat} {x : va_E} (h : va_up M a (some x) q = none) : M q = none ∧ q ≠ a := by
  unfold va_up at h
  by_cases e : q = a
  · rw [if_pos e] at h; cases h
  · rw [if_neg e] at h; exact ⟨h, e⟩
theorem ne_none {M : Wm} {a q : Nat} (h : M a = none) (hq : M q ≠ none) : q ≠ a := by
  intro e
  rw [e] at hq
  exact hq h
theorem some_nn {M : Wm} {q : Nat} {x : va_E} (h : M q = some x) : M q ≠ none := by
  rw [h]; exact fun z => nomatch z
set_option maxHeartbeats 4000000 in
set_option maxRecDepth 100000 in
theorem ct_Ho_init (l : Launch) (D : va_G) (tys : xK) (A : Nat → Prop) (M : Wm) (hT : tyOK tys) (a : Nat) (h : M a = some (.inr (0, [.null, .null, .int (iI 0), .int (iI 0)]))) : mT l y_Ho_init b_Ho_init 1 none { frames := 1, cells := 2, slots := 36, locals := 21 } D tys A [.ref a] M (qV D A (fun M' => ∃ pa la, (M pa = none ∧ M la = none ∧ pa ≠ la) ∧ M' pa = some (aR tys 2 30 (fun _ => none)) ∧ M' la = some (aR tys 3 6 (fun _ => none)) ∧ M' a = some (oHo pa la 0 0) ∧ ∀ q, q ≠ a → M q ≠ none → M' q = M q)) 2 36 := by
  refine met_of (own := R_Ho) (lv := [(0, .ref a)]) rfl (by decide) (Nat.le_of_ble_eq_true rfl) rfl ?_
  intro p_ e_ s_ m_ bl_ me_ c_ C hr hin
  have hT9 := hT
  obtain ⟨hT0, hT1, hT2, hT3, hT4, hT5, hT32, hT42, hT52, hT43, hT53, hT54⟩ := hT
  refine g_aload_n C d_Ho_init_0 0 rfl ?_
  refine g_objInit C oi_Ho_3 ⟨Nat.le_of_ble_eq_true rfl, Nat.le_of_ble_eq_true rfl⟩ d_Ho_init_1 ?_
  refine g_aload_n C d_Ho_init_4 0 rfl ?_
  refine g_bipush C d_Ho_init_5 (by decide) ?_
  refine g_newR C 2 hT2 30 na_Ho_9 ⟨by first | rfl | omega, by decide⟩ ⟨Nat.le_of_ble_eq_true rfl, Nat.le_of_ble_eq_true rfl⟩ d_Ho_init_7 (fun q1 hq1 => ?_)
  refine g_putF C hin p_Ho_11 ((wd_up_n (ne_new hq1 h)).trans h) rfl rfl (Nat.le_of_ble_eq_true rfl) (fs' := [.ref q1, .null, .int (iI 0), .int (iI 0)]) rfl d_Ho_init_10 ?_
  refine g_aload_n C d_Ho_init_13 0 rfl ?_
  refine g_bipush C d_Ho_init_14 (by decide) ?_
  refine g_newR C 3 hT3 6 na_Ho_17 ⟨by first | rfl | omega, by decide⟩ ⟨Nat.le_of_ble_eq_true rfl, Nat.le_of_ble_eq_true rfl⟩ d_Ho_init_16 (fun q2 hq2 => ?_)
  refine g_putF C hin p_Ho_19 ((wd_up_n (ne_new hq2 wd_up_s)).trans wd_up_s) rfl rfl (Nat.le_of_ble_eq_true rfl) (fs' := [.ref q1, .ref q2, .int (iI 0), .int (iI 0)]) rfl d_Ho_init_19 ?_
  refine g_aload_n C d_Ho_init_22 0 rfl ?_
  refine g_iconst C d_Ho_init_23 ?_
  refine g_put C p_Ho_23 wd_up_s rfl rfl (Nat.le_of_ble_eq_true rfl) (fs' := [.ref q1, .ref q2, .int (iI 0), .int (iI 0)]) rfl d_Ho_init_24 ?_
  refine g_world (bx_uu _ _ _ _) ?_
  refine g_aload_n C d_Ho_init_27 0 rfl ?_
  refine g_iconst C d_Ho_init_28 ?_
  refine g_put C p_Ho_27 wd_up_s rfl rfl (Nat.le_of_ble_eq_true rfl) (fs' := [.ref q1, .ref q2, .int (iI 0), .int (iI 0)]) rfl d_Ho_init_29 ?_
  refine g_world (bx_uu _ _ _ _) ?_
  exact g_vret C hr d_Ho_init_32 ⟨q1, q2, ⟨hq1, (up_none (up_none hq2).1).1, (ne_new hq2 ((wd_up_n (Ne.symm (ne_new hq1 h))).trans wd_up_s))⟩, ((wd_up_n (Ne.symm (ne_new hq1 h))).trans ((wd_up_n (ne_new hq2 ((wd_up_n (Ne.symm (ne_new hq1 h))).trans wd_up_s))).trans ((wd_up_n (Ne.symm (ne_new hq1 h))).trans wd_up_s))), ((wd_up_n (Ne.symm (ne_new hq2 wd_up_s))).trans wd_up_s), wd_up_s, (fun q hq hn => ((wd_up_n hq).trans ((wd_up_n (ne_none (up_none (up_none hq2).1).1 hn)).trans ((wd_up_n hq).trans (wd_up_n (ne_none hq1 hn))))))⟩
set_option maxHeartbeats 4000000 in
set_option maxRecDepth 100000 in
theorem ct_To_init (l : Launch) (D : va_G) (tys : xK) (A : Nat → Prop) (M : Wm) (hT : tyOK tys) (a : Nat) (h : M a = some (.inr (6, [.null, .null, .int (iI 0), .int (iI 0), .int (iI 0), .int (iI 0), .int (iI 0)]))) : mT l y_To_init b_To_init 1 none { frames := 1, cells := 1, slots := 20, locals := 21 } D tys A [.ref a] M (qV D A (fun M' => ∃ oa, (M oa = none) ∧ M' oa = some (aR tys 4 20 (fun _ => none)) ∧ M' a = some (.inr (6, [.ref oa, .null, .int (iI 0), .int (iI 0), .int (iI 0), .int (iI 0), .int (iI 0)])) ∧ ∀ q, q ≠ a → M q ≠ none → M' q = M q)) 1 20 := by
  refine met_of (own := R_To) (lv := [(0, .ref a)]) rfl (by decide) (Nat.le_of_ble_eq_true rfl) rfl ?_
  intro p_ e_ s_ m_ bl_ me_ c_ C hr hin
  have hT9 := hT
  obtain ⟨hT0, hT1, hT2, hT3, hT4, hT5, hT32, hT42, hT52, hT43, hT53, hT54⟩ := hT
  refine g_aload_n C d_To_init_0 0 rfl ?_
  refine g_objInit C oi_To_3 ⟨Nat.le_of_ble_eq_true rfl, Nat.le_of_ble_eq_true rfl⟩ d_To_init_1 ?_
  refine g_aload_n C d_To_init_4 0 rfl ?_
  refine g_bipush C d_To_init_5 (by decide) ?_
  refine g_newR C 4 hT4 20 na_To_9 ⟨by first | rfl | omega, by decide⟩ ⟨Nat.le_of_ble_eq_true rfl, Nat.le_of_ble_eq_true rfl⟩ d_To_init_7 (fun q1 hq1 => ?_)
  refine g_putF C hin p_To_11 ((wd_up_n (ne_new hq1 h)).trans h) rfl rfl (Nat.le_of_ble_eq_true rfl) (fs' := [.ref q1, .null, .int (iI 0), .int (iI 0), .int (iI 0), .int (iI 0), .int (iI 0)]) rfl d_To_init_10 ?_
  refine g_aload_n C d_To_init_13 0 rfl ?_
  refine g_null C d_To_init_14 ?_
  refine g_put C p_To_17 wd_up_s rfl rfl (Nat.le_of_ble_eq_true rfl) (fs' := [.ref q1, .null, .int (iI 0), .int (iI 0), .int (iI 0), .int (iI 0), .int (iI 0)]) rfl d_To_init_15 ?_
  refine g_world (bx_uu _ _ _ _) ?_
  refine g_aload_n C d_To_init_18 0 rfl ?_
  refine g_iconst C d_To_init_19 ?_
  refine g_put C p_To_21 wd_up_s rfl rfl (Nat.le_of_ble_eq_true rfl) (fs' := [.ref q1, .null, .int (iI 0), .int (iI 0), .int (iI 0), .int (iI 0), .int (iI 0)]) rfl d_To_init_20 ?_
  refine g_world (bx_uu _ _ _ _) ?_
  refine g_aload_n C d_To_init_23 0 rfl ?_
  refine g_iconst C d_To_init_24 ?_
  refine g_put C p_To_25 wd_up_s rfl rfl (Nat.le_of_ble_eq_true rfl) (fs' := [.ref q1, .null, .int (iI 0), .int (iI 0), .int (iI 0), .int (iI 0), .int (iI 0)]) rfl d_To_init_25 ?_
  refine g_world (bx_uu _ _ _ _) ?_
  refine g_aload_n C d_To_init_28 0 rfl ?_
  refine g_iconst C d_To_init_29 ?_
  refine g_put C p_To_28 wd_up_s rfl rfl (Nat.le_of_ble_eq_true rfl) (fs' := [.ref q1, .null, .int (iI 0), .int (iI 0), .int (iI 0), .int (iI 0), .int (iI 0)]) rfl d_To_init_30 ?_
  refine g_world (bx_uu _ _ _ _) ?_
  refine g_aload_n C d_To_init_33 0 rfl ?_
  refine g_iconst C d_To_init_34 ?_
  refine g_put C p_To_31 wd_up_s rfl rfl (Nat.le_of_ble_eq_true rfl) (fs' := [.ref q1, .null, .int (iI 0), .int (iI 0), .int (iI 0), .int (iI 0), .int (iI 0)]) rfl d_To_init_35 ?_
  refine g_world (bx_uu _ _ _ _) ?_
  refine g_aload_n C d_To_init_38 0 rfl ?_
  refine g_iconst C d_To_init_39 ?_
  refine g_put C p_To_34 wd_up_s rfl rfl (Nat.le_of_ble_eq_true rfl) (fs' := [.ref q1, .null, .int (iI 0), .int (iI 0), .int (iI 0), .int (iI 0), .int (iI 0)]) rfl d_To_init_40 ?_
  refine g_world (bx_uu _ _ _ _) ?_
  exact g_vret C hr d_To_init_43 ⟨q1, hq1, ((wd_up_n (Ne.symm (ne_new hq1 h))).trans wd_up_s), wd_up_s, (fun q hq hn => ((wd_up_n hq).trans (wd_up_n (ne_none hq1 hn))))⟩
set_option maxHeartbeats 4000000 in
set_option maxRecDepth 100000 in
theorem ct_Pn_init (l : Launch) (D : va_G) (tys : xK) (A : Nat → Prop) (M : Wm) (hT : tyOK tys) (a : Nat) (h : M a = some (.inr (5, [.null, .null, .null, .int (iI 0)]))) : mT l y_Pn_init b_Pn_init 1 none { frames := 1, cells := 3, slots := 1095, locals := 21 } D tys A [.ref a] M (qV D A (fun M' => ∃ ca ga ra, (M ca = none ∧ M ga = none ∧ M ra = none ∧ ca ≠ ga ∧ ca ≠ ra ∧ ga ≠ ra) ∧ M' ca = some (aR tys 4 7 (fun _ => none)) ∧ M' ga = some (aI tys 64 (fun _ => 0)) ∧ M' ra = some (aI tys 1024 (fun _ => 0)) ∧ M' a = some (.inr (5, [.ref ca, .ref ga, .ref ra, .int (iI 0)])) ∧ ∀ q, q ≠ a → M q ≠ none → M' q = M q)) 3 1095 := by
  refine met_of (own := R_Pn) (lv := [(0, .ref a)]) rfl (by decide) (Nat.le_of_ble_eq_true rfl) rfl ?_
  intro p_ e_ s_ m_ bl_ me_ c_ C hr hin
  have hT9 := hT
  obtain ⟨hT0, hT1, hT2, hT3, hT4, hT5, hT32, hT42, hT52, hT43, hT53, hT54⟩ := hT
  refine g_aload_n C d_Pn_init_0 0 rfl ?_
  refine g_objInit C oi_Pn_5 ⟨Nat.le_of_ble_eq_true rfl, Nat.le_of_ble_eq_true rfl⟩ d_Pn_init_1 ?_
  refine g_aload_n C d_Pn_init_4 0 rfl ?_
  refine g_bipush C d_Pn_init_5 (by decide) ?_
  refine g_newR C 4 hT4 7 na_Pn_11 ⟨by first | rfl | omega, by decide⟩ ⟨Nat.le_of_ble_eq_true rfl, Nat.le_of_ble_eq_true rfl⟩ d_Pn_init_7 (fun q1 hq1 => ?_)
  refine g_putF C hin p_Pn_13 ((wd_up_n (ne_new hq1 h)).trans h) rfl rfl (Nat.le_of_ble_eq_true rfl) (fs' := [.ref q1, .null, .null, .int (iI 0)]) rfl d_Pn_init_10 ?_
  refine g_aload_n C d_Pn_init_13 0 rfl ?_
  refine g_bipush C d_Pn_init_14 (by decide) ?_
  refine g_newI C 0 hT0 64 ac_int ⟨by first | rfl | omega, by decide⟩ ⟨Nat.le_of_ble_eq_true rfl, Nat.le_of_ble_eq_true rfl⟩ d_Pn_init_16 (fun q2 hq2 => ?_)
  refine g_putF C hin p_Pn_17 ((wd_up_n (ne_new hq2 wd_up_s)).trans wd_up_s) rfl rfl (Nat.le_of_ble_eq_true rfl) (fs' := [.ref q1, .ref q2, .null, .int (iI 0)]) rfl d_Pn_init_18 ?_
  refine g_aload_n C d_Pn_init_21 0 rfl ?_
  refine g_sipush C d_Pn_init_22 (by decide) ?_
  refine g_newI C 0 hT0 1024 ac_int ⟨by first | rfl | omega, by decide⟩ ⟨Nat.le_of_ble_eq_true rfl, Nat.le_of_ble_eq_true rfl⟩ d_Pn_init_25 (fun q3 hq3 => ?_)
  refine g_putF C hin p_Pn_21 ((wd_up_n (ne_new hq3 wd_up_s)).trans wd_up_s) rfl rfl (Nat.le_of_ble_eq_true rfl) (fs' := [.ref q1, .ref q2, .ref q3, .int (iI 0)]) rfl d_Pn_init_27 ?_
  refine g_aload_n C d_Pn_init_30 0 rfl ?_
  refine g_iconst C d_Pn_init_31 ?_
  refine g_put C p_Pn_24 wd_up_s rfl rfl (Nat.le_of_ble_eq_true rfl) (fs' := [.ref q1, .ref q2, .ref q3, .int (iI 0)]) rfl d_Pn_init_32 ?_
  refine g_world (bx_uu _ _ _ _) ?_
  exact g_vret C hr d_Pn_init_35 ⟨q1, q2, q3, ⟨hq1, (up_none (up_none hq2).1).1, (up_none (up_none (up_none (up_none hq3).1).1).1).1, (ne_new hq2 ((wd_up_n (Ne.symm (ne_new hq1 h))).trans wd_up_s)), (ne_new hq3 ((wd_up_n (Ne.symm (ne_new hq1 h))).trans ((wd_up_n (ne_new hq2 ((wd_up_n (Ne.symm (ne_new hq1 h))).trans wd_up_s))).trans ((wd_up_n (Ne.symm (ne_new hq1 h))).trans wd_up_s)))), (ne_new hq3 ((wd_up_n (Ne.symm (ne_new hq2 wd_up_s))).trans wd_up_s))⟩, ((wd_up_n (Ne.symm (ne_new hq1 h))).trans ((wd_up_n (ne_new hq3 ((wd_up_n (Ne.symm (ne_new hq1 h))).trans ((wd_up_n (ne_new hq2 ((wd_up_n (Ne.symm (ne_new hq1 h))).trans wd_up_s))).trans ((wd_up_n (Ne.symm (ne_new hq1 h))).trans wd_up_s))))).trans ((wd_up_n (Ne.symm (ne_new hq1 h))).trans ((wd_up_n (ne_new hq2 ((wd_up_n (Ne.symm (ne_new hq1 h))).trans wd_up_s))).trans ((wd_up_n (Ne.symm (ne_new hq1 h))).trans wd_up_s))))), ((wd_up_n (Ne.symm (ne_new hq2 wd_up_s))).trans ((wd_up_n (ne_new hq3 ((wd_up_n (Ne.symm (ne_new hq2 wd_up_s))).trans wd_up_s))).trans ((wd_up_n (Ne.symm (ne_new hq2 wd_up_s))).trans wd_up_s))), ((wd_up_n (Ne.symm (ne_new hq3 wd_up_s))).trans wd_up_s), wd_up_s, (fun q hq hn => ((wd_up_n hq).trans ((wd_up_n (ne_none (up_none (up_none (up_none (up_none hq3).1).1).1).1 hn)).trans ((wd_up_n hq).trans ((wd_up_n (ne_none (up_none (up_none hq2).1).1 hn)).trans ((wd_up_n hq).trans (wd_up_n (ne_none hq1 hn))))))))⟩
end
section
/-! THE STATE OF THE SYSTEM, and the class's cells that hold it.
A state s: s 0 0 k: 0 rate, 1 places, 2 lifts, 3 parts, 4 persons, 5 who (-1: no tour), 6 day, 7 stops, 8 done, 9 walks, 10 work; s 1 k: a place's floor, x, y; s 2 k: a lift's x, y, least, greatest, wait, speed; s 3 k: a part's skill, kind, every, hours, work, tested, used, last told, worn, and 9: its place's number; s 4 k: a person's skills, seconds, and 2: its home's number; s 5 0 k: the stock of a kind; s 6 0 k: the part that is stop k. -/
abbrev AS : Type := Nat → Nat → Nat → Int
/-- a part's place, a person's home -/
abbrev sPP (s : AS) (k : Nat) : Nat → Int := s 1 (s 3 k 9).toNat
abbrev sHP (s : AS) (k : Nat) : Nat → Int := s 1 (s 4 k 2).toNat
/-- the numbers' bounds -/
def okS (s : AS) (np nl nt ns : Nat) : Prop := (s 0 0 1 = np ∧ s 0 0 2 = nl ∧ s 0 0 3 = nt ∧ s 0 0 4 = ns) ∧ (np ≤ 30 ∧ nl ≤ 6 ∧ nt ≤ 40 ∧ ns ≤ 8) ∧ (0 ≤ s 0 0 0 ∧ s 0 0 0 ≤ 1000) ∧ (∀ k, k < np → okP (s 1 k)) ∧ (∀ k, k < nl → okL (s 2 k)) ∧ (∀ k, k < nt → okT (s 3 k) ∧ 0 ≤ s 3 k 9 ∧ s 3 k 9 < np) ∧ (∀ k, k < ns → okU (s 4 k) ∧ 0 ≤ s 4 k 2 ∧ s 4 k 2 < np) ∧ (∀ k, 0 ≤ s 5 0 k ∧ s 5 0 k ≤ 600000)
/-- the class's cells: rooms for things, by arrays of addresses -/
abbrev oCt (rt : Int) (ho ta rk ea sa pn to : Nat) (nt ns : Nat) : va_E := .inr (7, [.int (iI rt), .ref ho, .ref ta, .ref rk, .ref ea, .ref sa, .ref pn, .ref to, .int (iI (nt : Int)), .int (iI (ns : Int))])
abbrev oPn (ca ga ra : Nat) (c0 : Int) : va_E := .inr (5, [.ref ca, .ref ga, .ref ra, .int (iI c0)])
/-- what is kept of the pools: cells of places, lifts, parts, persons -/
def Pools (M : Wm) (s : AS) (np nl nt ns : Nat) (gp gl gt ge : Nat → Option Nat) : Prop := (∀ k, k < np → ∃ a, gp k = some a ∧ M a = some (oPl (s 1 k))) ∧ (∀ k, k < nl → ∃ a, gl k = some a ∧ M a = some (oLi (s 2 k))) ∧ (∀ k, k < nt → ∃ a pa, gt k = some a ∧ M a = some (oPt (k : Int) pa (s 3 k)) ∧ gp (s 3 k 9).toNat = some pa) ∧ (∀ k, k < ns → ∃ a ha, ge k = some a ∧ M a = some (oPe (k : Int) ha (s 4 k)) ∧ gp (s 4 k 2).toNat = some ha)
/-- the tour under way: none, or one of a person -/
def RT (M : Wm) (s : AS) (nt ns : Nat) (to oa : Nat) (ge gt so : Nat → Option Nat) : Prop :=
  (s 0 0 5 = -1 ∧ (s 0 0 7 = 0 ∧ s 0 0 8 = 0 ∧ s 0 0 9 = 0 ∧ s 0 0 10 = 0) ∧ ∃ d0, M to = some (.inr (6, [.ref oa, .null, .int (iI d0), .int (iI 0), .int (iI 0), .int (iI 0), .int (iI 0)]))) ∨
  (∃ (w ga cn dn : Nat), s 0 0 5 = (w : Int) ∧ w < ns ∧ ge w = some ga ∧ s 0 0 7 = (cn : Int) ∧ s 0 0 8 = (dn : Int) ∧ (dn ≤ cn ∧ cn ≤ 20) ∧ (0 ≤ s 0 0 6 ∧ s 0 0 6 ≤ 100000) ∧ (-1000000 ≤ s 0 0 9 ∧ s 0 0 9 ≤ 1000000) ∧ (0 ≤ s 0 0 10 ∧ s 0 0 10 ≤ 1000000) ∧ M to = some (oTo oa ga (s 0 0 6) cn dn (s 0 0 9) (s 0 0 10)) ∧ ∀ k, k < cn → (0 ≤ s 6 0 k ∧ s 6 0 k < nt) ∧ so k = gt (s 6 0 k).toNat)
def RC (tys : xK) (M : Wm) (x : Nat) (s : AS) : Prop := ∃ (np nl nt ns : Nat) (ho pa la ta rk ea sa pn ca ga ra to oa : Nat) (gp gl gt gr ge gc so : Nat → Option Nat) (L T : Nat → Int) (c0 : Int),
  okS s np nl nt ns ∧ (M x = some (oCt (s 0 0 0) ho ta rk ea sa pn to nt ns) ∧ M ho = some (oHo pa la np nl) ∧ M pa = some (aR tys 2 30 gp) ∧ M la = some (aR tys 3 6 gl) ∧ M ta = some (aR tys 4 40 gt) ∧ M rk = some (aR tys 4 40 gr) ∧ M ea = some (aR tys 5 8 ge) ∧ M sa = some (aI tys 5 (s 5 0)) ∧ M pn = some (oPn ca ga ra c0) ∧ M ca = some (aR tys 4 7 gc) ∧ M ga = some (aI tys 64 L) ∧ M ra = some (aI tys 1024 T) ∧ M oa = some (aR tys 4 20 so)) ∧
  (ta ≠ rk ∧ ta ≠ ca ∧ ta ≠ oa ∧ rk ≠ ca ∧ rk ≠ oa ∧ ca ≠ oa ∧ sa ≠ ga ∧ sa ≠ ra ∧ ga ≠ ra) ∧ (inB L ∧ inB T ∧ L 63 = 0) ∧ Pools M s np nl nt ns gp gl gt ge ∧ RT M s nt ns to oa ge gt so
/-- the state of a new object -/
def sNew (r : Int) : AS := fun a i k => if a = 0 ∧ i = 0 ∧ k = 0 then r else if a = 0 ∧ i = 0 ∧ k = 5 then -1 else 0
end
