section
-- ===== PART A: goes FIRST, ahead of the names: the tables' words, and 'selects' of the private methods out of them =====
/-- a private method of a class that the tables say can be made, by its rows of tables_1 -/
def lw_okq (q : MethodName × Nat) : Prop := (q.1.cls ≠ "java/lang/invoke/MethodHandle" ∧ q.1.cls ≠ "java/lang/invoke/VarHandle") ∧ Cond.instantiable q.1.cls q.2 ∈ tables_1 ∧ Cond.privateMethod q.1 ∈ tables_1 ∧ Cond.instanceMethod q.1 ∈ tables_1
theorem lw_p0 : lw_okq (⟨"java/lang/Throwable", "fillInStackTrace", "(I)Ljava/lang/Throwable;"⟩, 6) := ⟨⟨by decide +kernel, by decide +kernel⟩, List.mem_of_getElem? (i := 205) (by decide +kernel), List.mem_of_getElem? (i := 203) (by decide +kernel), List.mem_of_getElem? (i := 204) (by decide +kernel)⟩
theorem lw_p1 : lw_okq (⟨"CareTours$Tour", "end", "()V"⟩, 7) := ⟨⟨by decide +kernel, by decide +kernel⟩, List.mem_of_getElem? (i := 76) (by decide +kernel), List.mem_of_getElem? (i := 251) (by decide +kernel), List.mem_of_getElem? (i := 252) (by decide +kernel)⟩
theorem lw_p2 : lw_okq (⟨"CareTours$House", "addPlace", "(LCareTours$Place;)I"⟩, 4) := ⟨⟨by decide +kernel, by decide +kernel⟩, List.mem_of_getElem? (i := 25) (by decide +kernel), List.mem_of_getElem? (i := 275) (by decide +kernel), List.mem_of_getElem? (i := 276) (by decide +kernel)⟩
theorem lw_p3 : lw_okq (⟨"CareTours$House", "addLift", "(LCareTours$Lift;)I"⟩, 4) := ⟨⟨by decide +kernel, by decide +kernel⟩, List.mem_of_getElem? (i := 25) (by decide +kernel), List.mem_of_getElem? (i := 314) (by decide +kernel), List.mem_of_getElem? (i := 315) (by decide +kernel)⟩
theorem lw_p4 : lw_okq (⟨"CareTours$House", "hasPlace", "(I)Z"⟩, 4) := ⟨⟨by decide +kernel, by decide +kernel⟩, List.mem_of_getElem? (i := 25) (by decide +kernel), List.mem_of_getElem? (i := 325) (by decide +kernel), List.mem_of_getElem? (i := 326) (by decide +kernel)⟩
theorem lw_p5 : lw_okq (⟨"CareTours", "isPart", "(I)Z"⟩, 10) := ⟨⟨by decide +kernel, by decide +kernel⟩, List.mem_of_getElem? (i := 17) (by decide +kernel), List.mem_of_getElem? (i := 426) (by decide +kernel), List.mem_of_getElem? (i := 427) (by decide +kernel)⟩
theorem lw_p6 : lw_okq (⟨"CareTours$Part", "addUse", "(II)V"⟩, 11) := ⟨⟨by decide +kernel, by decide +kernel⟩, List.mem_of_getElem? (i := 335) (by decide +kernel), List.mem_of_getElem? (i := 435) (by decide +kernel), List.mem_of_getElem? (i := 436) (by decide +kernel)⟩
theorem lw_p7 : lw_okq (⟨"CareTours$House", "secondsBetween", "(LCareTours$Place;LCareTours$Place;)I"⟩, 4) := ⟨⟨by decide +kernel, by decide +kernel⟩, List.mem_of_getElem? (i := 25) (by decide +kernel), List.mem_of_getElem? (i := 455) (by decide +kernel), List.mem_of_getElem? (i := 456) (by decide +kernel)⟩
theorem lw_p8 : lw_okq (⟨"CareTours$Place", "secondsTo", "(II)I"⟩, 3) := ⟨⟨by decide +kernel, by decide +kernel⟩, List.mem_of_getElem? (i := 255) (by decide +kernel), List.mem_of_getElem? (i := 459) (by decide +kernel), List.mem_of_getElem? (i := 460) (by decide +kernel)⟩
theorem lw_p9 : lw_okq (⟨"CareTours$Lift", "comesTo", "(LCareTours$Place;)Z"⟩, 6) := ⟨⟨by decide +kernel, by decide +kernel⟩, List.mem_of_getElem? (i := 289) (by decide +kernel), List.mem_of_getElem? (i := 466) (by decide +kernel), List.mem_of_getElem? (i := 467) (by decide +kernel)⟩
theorem lw_p10 : lw_okq (⟨"CareTours$Lift", "secondsBetween", "(LCareTours$Place;LCareTours$Place;)I"⟩, 6) := ⟨⟨by decide +kernel, by decide +kernel⟩, List.mem_of_getElem? (i := 289) (by decide +kernel), List.mem_of_getElem? (i := 471) (by decide +kernel), List.mem_of_getElem? (i := 472) (by decide +kernel)⟩
theorem lw_p11 : lw_okq (⟨"CareTours", "choose", "(LCareTours$Person;I)V"⟩, 10) := ⟨⟨by decide +kernel, by decide +kernel⟩, List.mem_of_getElem? (i := 17) (by decide +kernel), List.mem_of_getElem? (i := 486) (by decide +kernel), List.mem_of_getElem? (i := 487) (by decide +kernel)⟩
theorem lw_p12 : lw_okq (⟨"CareTours$Planner", "clear", "()V"⟩, 4) := ⟨⟨by decide +kernel, by decide +kernel⟩, List.mem_of_getElem? (i := 55) (by decide +kernel), List.mem_of_getElem? (i := 490) (by decide +kernel), List.mem_of_getElem? (i := 491) (by decide +kernel)⟩
theorem lw_p13 : lw_okq (⟨"CareTours", "rankByDueDays", "()V"⟩, 10) := ⟨⟨by decide +kernel, by decide +kernel⟩, List.mem_of_getElem? (i := 17) (by decide +kernel), List.mem_of_getElem? (i := 494) (by decide +kernel), List.mem_of_getElem? (i := 495) (by decide +kernel)⟩
theorem lw_p14 : lw_okq (⟨"CareTours$Part", "dueDay", "()I"⟩, 11) := ⟨⟨by decide +kernel, by decide +kernel⟩, List.mem_of_getElem? (i := 335) (by decide +kernel), List.mem_of_getElem? (i := 498) (by decide +kernel), List.mem_of_getElem? (i := 499) (by decide +kernel)⟩
theorem lw_p15 : lw_okq (⟨"CareTours$Planner", "isFull", "()Z"⟩, 4) := ⟨⟨by decide +kernel, by decide +kernel⟩, List.mem_of_getElem? (i := 55) (by decide +kernel), List.mem_of_getElem? (i := 503) (by decide +kernel), List.mem_of_getElem? (i := 504) (by decide +kernel)⟩
def lw_privs_1 : List (MethodName × Nat) := [(⟨"java/lang/Throwable", "fillInStackTrace", "(I)Ljava/lang/Throwable;"⟩, 6), (⟨"CareTours$Tour", "end", "()V"⟩, 7), (⟨"CareTours$House", "addPlace", "(LCareTours$Place;)I"⟩, 4), (⟨"CareTours$House", "addLift", "(LCareTours$Lift;)I"⟩, 4), (⟨"CareTours$House", "hasPlace", "(I)Z"⟩, 4), (⟨"CareTours", "isPart", "(I)Z"⟩, 10), (⟨"CareTours$Part", "addUse", "(II)V"⟩, 11), (⟨"CareTours$House", "secondsBetween", "(LCareTours$Place;LCareTours$Place;)I"⟩, 4), (⟨"CareTours$Place", "secondsTo", "(II)I"⟩, 3), (⟨"CareTours$Lift", "comesTo", "(LCareTours$Place;)Z"⟩, 6), (⟨"CareTours$Lift", "secondsBetween", "(LCareTours$Place;LCareTours$Place;)I"⟩, 6), (⟨"CareTours", "choose", "(LCareTours$Person;I)V"⟩, 10), (⟨"CareTours$Planner", "clear", "()V"⟩, 4), (⟨"CareTours", "rankByDueDays", "()V"⟩, 10), (⟨"CareTours$Part", "dueDay", "()I"⟩, 11), (⟨"CareTours$Planner", "isFull", "()Z"⟩, 4)]
theorem lw_r1 : ∀ q ∈ lw_privs_1, lw_okq q := List.forall_mem_cons.mpr ⟨lw_p0, List.forall_mem_cons.mpr ⟨lw_p1, List.forall_mem_cons.mpr ⟨lw_p2, List.forall_mem_cons.mpr ⟨lw_p3, List.forall_mem_cons.mpr ⟨lw_p4, List.forall_mem_cons.mpr ⟨lw_p5, List.forall_mem_cons.mpr ⟨lw_p6, List.forall_mem_cons.mpr ⟨lw_p7, List.forall_mem_cons.mpr ⟨lw_p8, List.forall_mem_cons.mpr ⟨lw_p9, List.forall_mem_cons.mpr ⟨lw_p10, List.forall_mem_cons.mpr ⟨lw_p11, List.forall_mem_cons.mpr ⟨lw_p12, List.forall_mem_cons.mpr ⟨lw_p13, List.forall_mem_cons.mpr ⟨lw_p14, List.forall_mem_cons.mpr ⟨lw_p15, fun _ h => absurd h List.not_mem_nil⟩⟩⟩⟩⟩⟩⟩⟩⟩⟩⟩⟩⟩⟩⟩⟩
theorem lw_p16 : lw_okq (⟨"CareTours$Person", "has", "(I)Z"⟩, 4) := ⟨⟨by decide +kernel, by decide +kernel⟩, List.mem_of_getElem? (i := 396) (by decide +kernel), List.mem_of_getElem? (i := 507) (by decide +kernel), List.mem_of_getElem? (i := 508) (by decide +kernel)⟩
theorem lw_p17 : lw_okq (⟨"CareTours$Planner", "add", "(LCareTours$Part;)V"⟩, 4) := ⟨⟨by decide +kernel, by decide +kernel⟩, List.mem_of_getElem? (i := 55) (by decide +kernel), List.mem_of_getElem? (i := 511) (by decide +kernel), List.mem_of_getElem? (i := 512) (by decide +kernel)⟩
theorem lw_p18 : lw_okq (⟨"CareTours$Planner", "measure", "(LCareTours$House;LCareTours$Place;)V"⟩, 4) := ⟨⟨by decide +kernel, by decide +kernel⟩, List.mem_of_getElem? (i := 55) (by decide +kernel), List.mem_of_getElem? (i := 515) (by decide +kernel), List.mem_of_getElem? (i := 516) (by decide +kernel)⟩
theorem lw_p19 : lw_okq (⟨"CareTours$Planner", "plan", "()V"⟩, 4) := ⟨⟨by decide +kernel, by decide +kernel⟩, List.mem_of_getElem? (i := 55) (by decide +kernel), List.mem_of_getElem? (i := 524) (by decide +kernel), List.mem_of_getElem? (i := 525) (by decide +kernel)⟩
theorem lw_p20 : lw_okq (⟨"CareTours$Planner", "leastRest", "(II)I"⟩, 4) := ⟨⟨by decide +kernel, by decide +kernel⟩, List.mem_of_getElem? (i := 55) (by decide +kernel), List.mem_of_getElem? (i := 531) (by decide +kernel), List.mem_of_getElem? (i := 532) (by decide +kernel)⟩
theorem lw_p21 : lw_okq (⟨"CareTours$Planner", "restBy", "(III)I"⟩, 4) := ⟨⟨by decide +kernel, by decide +kernel⟩, List.mem_of_getElem? (i := 55) (by decide +kernel), List.mem_of_getElem? (i := 535) (by decide +kernel), List.mem_of_getElem? (i := 536) (by decide +kernel)⟩
theorem lw_p22 : lw_okq (⟨"CareTours$Tour", "begin", "(LCareTours$Person;I)V"⟩, 7) := ⟨⟨by decide +kernel, by decide +kernel⟩, List.mem_of_getElem? (i := 76) (by decide +kernel), List.mem_of_getElem? (i := 540) (by decide +kernel), List.mem_of_getElem? (i := 541) (by decide +kernel)⟩
theorem lw_p23 : lw_okq (⟨"CareTours$Planner", "stopsWithin", "(I)I"⟩, 4) := ⟨⟨by decide +kernel, by decide +kernel⟩, List.mem_of_getElem? (i := 55) (by decide +kernel), List.mem_of_getElem? (i := 545) (by decide +kernel), List.mem_of_getElem? (i := 546) (by decide +kernel)⟩
theorem lw_p24 : lw_okq (⟨"CareTours$Planner", "leastWalks", "(I)I"⟩, 4) := ⟨⟨by decide +kernel, by decide +kernel⟩, List.mem_of_getElem? (i := 55) (by decide +kernel), List.mem_of_getElem? (i := 549) (by decide +kernel), List.mem_of_getElem? (i := 550) (by decide +kernel)⟩
theorem lw_p25 : lw_okq (⟨"CareTours$Planner", "fill", "(LCareTours$Tour;I)V"⟩, 4) := ⟨⟨by decide +kernel, by decide +kernel⟩, List.mem_of_getElem? (i := 55) (by decide +kernel), List.mem_of_getElem? (i := 556) (by decide +kernel), List.mem_of_getElem? (i := 557) (by decide +kernel)⟩
theorem lw_p26 : lw_okq (⟨"CareTours$Planner", "nextNode", "(II)I"⟩, 4) := ⟨⟨by decide +kernel, by decide +kernel⟩, List.mem_of_getElem? (i := 55) (by decide +kernel), List.mem_of_getElem? (i := 560) (by decide +kernel), List.mem_of_getElem? (i := 561) (by decide +kernel)⟩
theorem lw_p27 : lw_okq (⟨"CareTours$Tour", "insert", "(LCareTours$Part;II)V"⟩, 7) := ⟨⟨by decide +kernel, by decide +kernel⟩, List.mem_of_getElem? (i := 76) (by decide +kernel), List.mem_of_getElem? (i := 564) (by decide +kernel), List.mem_of_getElem? (i := 565) (by decide +kernel)⟩
theorem lw_p28 : lw_okq (⟨"CareTours$Tour", "isStop", "(LCareTours$Part;)Z"⟩, 7) := ⟨⟨by decide +kernel, by decide +kernel⟩, List.mem_of_getElem? (i := 76) (by decide +kernel), List.mem_of_getElem? (i := 593) (by decide +kernel), List.mem_of_getElem? (i := 594) (by decide +kernel)⟩
theorem lw_p29 : lw_okq (⟨"CareTours$Tour", "shortestGap", "(LCareTours$House;LCareTours$Place;)I"⟩, 7) := ⟨⟨by decide +kernel, by decide +kernel⟩, List.mem_of_getElem? (i := 76) (by decide +kernel), List.mem_of_getElem? (i := 598) (by decide +kernel), List.mem_of_getElem? (i := 599) (by decide +kernel)⟩
theorem lw_p30 : lw_okq (⟨"CareTours$Tour", "canReach", "(LCareTours$House;LCareTours$Place;I)Z"⟩, 7) := ⟨⟨by decide +kernel, by decide +kernel⟩, List.mem_of_getElem? (i := 76) (by decide +kernel), List.mem_of_getElem? (i := 602) (by decide +kernel), List.mem_of_getElem? (i := 603) (by decide +kernel)⟩
theorem lw_p31 : lw_okq (⟨"CareTours$Tour", "placeBefore", "(I)LCareTours$Place;"⟩, 7) := ⟨⟨by decide +kernel, by decide +kernel⟩, List.mem_of_getElem? (i := 76) (by decide +kernel), List.mem_of_getElem? (i := 606) (by decide +kernel), List.mem_of_getElem? (i := 607) (by decide +kernel)⟩
def lw_privs_2 : List (MethodName × Nat) := [(⟨"CareTours$Person", "has", "(I)Z"⟩, 4), (⟨"CareTours$Planner", "add", "(LCareTours$Part;)V"⟩, 4), (⟨"CareTours$Planner", "measure", "(LCareTours$House;LCareTours$Place;)V"⟩, 4), (⟨"CareTours$Planner", "plan", "()V"⟩, 4), (⟨"CareTours$Planner", "leastRest", "(II)I"⟩, 4), (⟨"CareTours$Planner", "restBy", "(III)I"⟩, 4), (⟨"CareTours$Tour", "begin", "(LCareTours$Person;I)V"⟩, 7), (⟨"CareTours$Planner", "stopsWithin", "(I)I"⟩, 4), (⟨"CareTours$Planner", "leastWalks", "(I)I"⟩, 4), (⟨"CareTours$Planner", "fill", "(LCareTours$Tour;I)V"⟩, 4), (⟨"CareTours$Planner", "nextNode", "(II)I"⟩, 4), (⟨"CareTours$Tour", "insert", "(LCareTours$Part;II)V"⟩, 7), (⟨"CareTours$Tour", "isStop", "(LCareTours$Part;)Z"⟩, 7), (⟨"CareTours$Tour", "shortestGap", "(LCareTours$House;LCareTours$Place;)I"⟩, 7), (⟨"CareTours$Tour", "canReach", "(LCareTours$House;LCareTours$Place;I)Z"⟩, 7), (⟨"CareTours$Tour", "placeBefore", "(I)LCareTours$Place;"⟩, 7)]
theorem lw_r2 : ∀ q ∈ lw_privs_2, lw_okq q := List.forall_mem_cons.mpr ⟨lw_p16, List.forall_mem_cons.mpr ⟨lw_p17, List.forall_mem_cons.mpr ⟨lw_p18, List.forall_mem_cons.mpr ⟨lw_p19, List.forall_mem_cons.mpr ⟨lw_p20, List.forall_mem_cons.mpr ⟨lw_p21, List.forall_mem_cons.mpr ⟨lw_p22, List.forall_mem_cons.mpr ⟨lw_p23, List.forall_mem_cons.mpr ⟨lw_p24, List.forall_mem_cons.mpr ⟨lw_p25, List.forall_mem_cons.mpr ⟨lw_p26, List.forall_mem_cons.mpr ⟨lw_p27, List.forall_mem_cons.mpr ⟨lw_p28, List.forall_mem_cons.mpr ⟨lw_p29, List.forall_mem_cons.mpr ⟨lw_p30, List.forall_mem_cons.mpr ⟨lw_p31, fun _ h => absurd h List.not_mem_nil⟩⟩⟩⟩⟩⟩⟩⟩⟩⟩⟩⟩⟩⟩⟩⟩
theorem lw_p32 : lw_okq (⟨"CareTours$Tour", "placeBehind", "(I)LCareTours$Place;"⟩, 7) := ⟨⟨by decide +kernel, by decide +kernel⟩, List.mem_of_getElem? (i := 76) (by decide +kernel), List.mem_of_getElem? (i := 611) (by decide +kernel), List.mem_of_getElem? (i := 612) (by decide +kernel)⟩
theorem lw_p33 : lw_okq (⟨"CareTours$Tour", "detour", "(LCareTours$House;LCareTours$Place;I)I"⟩, 7) := ⟨⟨by decide +kernel, by decide +kernel⟩, List.mem_of_getElem? (i := 76) (by decide +kernel), List.mem_of_getElem? (i := 615) (by decide +kernel), List.mem_of_getElem? (i := 616) (by decide +kernel)⟩
theorem lw_p34 : lw_okq (⟨"CareTours$Part", "renew", "(I)V"⟩, 11) := ⟨⟨by decide +kernel, by decide +kernel⟩, List.mem_of_getElem? (i := 335) (by decide +kernel), List.mem_of_getElem? (i := 629) (by decide +kernel), List.mem_of_getElem? (i := 630) (by decide +kernel)⟩
theorem lw_p35 : lw_okq (⟨"CareToursModel", "isPart", "(I)Z"⟩, 37) := ⟨⟨by decide +kernel, by decide +kernel⟩, List.mem_of_getElem? (i := 665) (by decide +kernel), List.mem_of_getElem? (i := 811) (by decide +kernel), List.mem_of_getElem? (i := 812) (by decide +kernel)⟩
theorem lw_p36 : lw_okq (⟨"CareToursModel", "way", "(II)I"⟩, 37) := ⟨⟨by decide +kernel, by decide +kernel⟩, List.mem_of_getElem? (i := 665) (by decide +kernel), List.mem_of_getElem? (i := 823) (by decide +kernel), List.mem_of_getElem? (i := 824) (by decide +kernel)⟩
theorem lw_p37 : lw_okq (⟨"CareToursModel", "dueDay", "(I)I"⟩, 37) := ⟨⟨by decide +kernel, by decide +kernel⟩, List.mem_of_getElem? (i := 665) (by decide +kernel), List.mem_of_getElem? (i := 834) (by decide +kernel), List.mem_of_getElem? (i := 835) (by decide +kernel)⟩
theorem lw_p38 : lw_okq (⟨"CareToursModel", "isBefore", "(II)Z"⟩, 37) := ⟨⟨by decide +kernel, by decide +kernel⟩, List.mem_of_getElem? (i := 665) (by decide +kernel), List.mem_of_getElem? (i := 838) (by decide +kernel), List.mem_of_getElem? (i := 839) (by decide +kernel)⟩
theorem lw_p39 : lw_okq (⟨"CareToursModel", "isTour", "(II)Z"⟩, 37) := ⟨⟨by decide +kernel, by decide +kernel⟩, List.mem_of_getElem? (i := 665) (by decide +kernel), List.mem_of_getElem? (i := 842) (by decide +kernel), List.mem_of_getElem? (i := 843) (by decide +kernel)⟩
theorem lw_p40 : lw_okq (⟨"CareToursModel", "walksOf", "([III)I"⟩, 37) := ⟨⟨by decide +kernel, by decide +kernel⟩, List.mem_of_getElem? (i := 665) (by decide +kernel), List.mem_of_getElem? (i := 846) (by decide +kernel), List.mem_of_getElem? (i := 847) (by decide +kernel)⟩
theorem lw_p41 : lw_okq (⟨"CareToursModel", "next", "(I)Z"⟩, 37) := ⟨⟨by decide +kernel, by decide +kernel⟩, List.mem_of_getElem? (i := 665) (by decide +kernel), List.mem_of_getElem? (i := 850) (by decide +kernel), List.mem_of_getElem? (i := 851) (by decide +kernel)⟩
theorem lw_p42 : lw_okq (⟨"CareToursModel", "swap", "(II)V"⟩, 37) := ⟨⟨by decide +kernel, by decide +kernel⟩, List.mem_of_getElem? (i := 665) (by decide +kernel), List.mem_of_getElem? (i := 854) (by decide +kernel), List.mem_of_getElem? (i := 855) (by decide +kernel)⟩
def lw_privs_3 : List (MethodName × Nat) := [(⟨"CareTours$Tour", "placeBehind", "(I)LCareTours$Place;"⟩, 7), (⟨"CareTours$Tour", "detour", "(LCareTours$House;LCareTours$Place;I)I"⟩, 7), (⟨"CareTours$Part", "renew", "(I)V"⟩, 11), (⟨"CareToursModel", "isPart", "(I)Z"⟩, 37), (⟨"CareToursModel", "way", "(II)I"⟩, 37), (⟨"CareToursModel", "dueDay", "(I)I"⟩, 37), (⟨"CareToursModel", "isBefore", "(II)Z"⟩, 37), (⟨"CareToursModel", "isTour", "(II)Z"⟩, 37), (⟨"CareToursModel", "walksOf", "([III)I"⟩, 37), (⟨"CareToursModel", "next", "(I)Z"⟩, 37), (⟨"CareToursModel", "swap", "(II)V"⟩, 37)]
theorem lw_r3 : ∀ q ∈ lw_privs_3, lw_okq q := List.forall_mem_cons.mpr ⟨lw_p32, List.forall_mem_cons.mpr ⟨lw_p33, List.forall_mem_cons.mpr ⟨lw_p34, List.forall_mem_cons.mpr ⟨lw_p35, List.forall_mem_cons.mpr ⟨lw_p36, List.forall_mem_cons.mpr ⟨lw_p37, List.forall_mem_cons.mpr ⟨lw_p38, List.forall_mem_cons.mpr ⟨lw_p39, List.forall_mem_cons.mpr ⟨lw_p40, List.forall_mem_cons.mpr ⟨lw_p41, List.forall_mem_cons.mpr ⟨lw_p42, fun _ h => absurd h List.not_mem_nil⟩⟩⟩⟩⟩⟩⟩⟩⟩⟩⟩
def lw_privs : List (MethodName × Nat) := lw_privs_1 ++ (lw_privs_2 ++ (lw_privs_3))
def lw_tbl : List Cond := k2_sels lw_privs ++ tables_1
theorem lw_privs_ok : ∀ q ∈ lw_privs, lw_okq q := by
  show ∀ q ∈ lw_privs_1 ++ (lw_privs_2 ++ (lw_privs_3)), lw_okq q
  exact List.forall_mem_append.mpr ⟨lw_r1, List.forall_mem_append.mpr ⟨lw_r2, lw_r3⟩⟩
end
section
/-! ===== BEGIN words of one list among another's, by their places ===== -/
theorem goodIn_r {big : List Cond} (ws : List Cond) (ps : List Nat) (hp : ws = ps.filterMap (fun i => big[i]?)) (h : ws.all goodWord = true) : GoodIn big ws := by
  intro w hw
  have h1 := List.all_eq_true.mp h w hw
  rw [hp] at hw
  obtain ⟨i, -, hi⟩ := List.mem_filterMap.mp hw
  have hm : w ∈ big := by first | exact List.mem_of_getElem? hi | exact List.getElem?_mem hi
  exact ⟨hm, good_of_word h1⟩
theorem goodIn_app {big a b : List Cond} (ha : GoodIn big a) (hb : GoodIn big b) : GoodIn big (a ++ b) := fun w h => (List.mem_append.mp h).elim (ha w) (hb w)
theorem goodIn_ca {big a b : List Cond} {c : Cond} (ha : GoodIn big (c :: a)) (hb : GoodIn big b) : GoodIn big (c :: (a ++ b)) := fun w h => (List.mem_cons.mp h).elim (fun e => ha w (List.mem_cons.mpr (Or.inl e))) (fun h => (List.mem_append.mp h).elim (fun h => ha w (List.mem_cons.mpr (Or.inr h))) (hb w))
theorem goodIn_sub {big ws : List Cond} (hm : ∀ w ∈ ws, w ∈ big) (h : ws.all goodWord = true) : GoodIn big ws := fun w hw => ⟨hm w hw, good_of_word (List.all_eq_true.mp h w hw)⟩
/-! ===== END ===== -/

/-! ===== BEGIN exceptions that leave a method, and their catching by the caller (launches without stack traces) ===== -/
section VXA
/-! The laws vx_back, vx_callV, vx_callS, vx_callSW, vx_throw0, vx_throwS follow proofs of the library, with one case more: JvmDerived/Free/Laws.lean (Back.of_free), Shelf42/LK1.lean (callV, callS), Shelf/KitTraced.lean (throwNew0V, throwNewS). -/
/-- where a method has thrown q: the class by its name, the cell, what was written, the world -/
def vx_T (XC : String → State → State → Prop) (st : State) (q : Addr) (t : State) (mc ms : Nat) (free : Addr → Prop) : Prop :=
  ∃ (E : String) (ce : Cell) (L : List Loc), XC E st t ∧ t.heap[q]? = some ce ∧ ce.vm = .none ∧ st.vm.findClass E = some ce.cls ∧ st.WarmedH t.vm ∧ st.sameButNew ({ t with vm := st.vm } : State) L mc ms ∧ ∀ z ∈ L, free z.base
def vx_Q (Qc : Array Value → State → Outcome → State → Prop) (XC : String → State → State → Prop) (mc ms : Nat) (free : Addr → Prop) : Array Value → State → Outcome → State → Prop := fun a st o t =>
  (Qc a st o t ∧ ∃ L, FrameEnd st o t L mc ms ∧ ∀ q ∈ L, free q.base) ∨ ∃ q, o = .threw q ∧ vx_T XC st q t mc ms free
/-- a callee that returns or throws -/
def vx_Met (l : Launch) (y : MethodName) (ws : List Cond) (rm : Room) (Pc : Array Value → State → Prop) (Qc : Array Value → State → Outcome → State → Prop) (XC : String → State → State → Prop) (mc ms : Nat) (free : Addr → Prop) : Prop :=
  MetFree l y (headSpec ws rm) Pc (fun _ _ _ _ _ => True) (vx_Q Qc XC mc ms free)
def vx_Post (XC : String → State → State → Prop) (mc ms : Nat) (free : Addr → Prop) : Pt → Array Value → Addr → Pt → Prop := fun A a q B =>
  ∃ (g : JFrame) (mk : MethodId) (t : State) (L : List Loc) (E : String) (ce : Cell), B.U.heap = t.heap ∧ B.U.vm = t.vm ∧ XC E (A.U.calling g mk a) t ∧ t.heap[q]? = some ce ∧ ce.vm = .none ∧ A.U.vm.findClass E = some ce.cls ∧ B.locs = A.locs ++ L ∧ (∀ z ∈ L, free z.base) ∧ B.cells = A.cells + mc ∧ B.slots = A.slots + ms
def vx_Back (l : Launch) (R : Room) (p : Program) (e : Env) (below : List Frame) (s : State) (sargs : Array Value) (y : MethodName) (len W9 : Nat)
    (Pre : Pt → Array Value → Prop) (Post : Pt → Array Value → Option Value → Pt → Prop) (PostX : Pt → Array Value → Addr → Pt → Prop) : Prop :=
  ∀ (m : MethodId) (meth : Method) (c : Code) (A : Pt) (g : JFrame) (ig : Instr) (mk : MethodId) (a : Array Value),
    Stand p l e R s m sargs below meth c A.U A.locs A.cells A.slots → g.method = m → g.locals.size = c.maxLocals → decode c.code g.pc = .ok (ig, len) →
    2 * g.monitorRoom + (g.stack.map fun v => v.category).sum ≤ W9 → A.U.methodNamed? y = some mk → Pre A a →
    (∃ (v : Option Value) (B : Pt), Stand p l e R s m sargs below meth c B.U B.locs B.cells B.slots ∧ Post A a v B ∧
      Steps p.tables e below (doInvoke e (A.U.setTop g) [] mk a).1 (B.U.setTop { g with pc := g.pc + len, stack := v.toList ++ g.stack })) ∨
    (∃ (q : Addr) (B : Pt), Stand p l e R s m sargs below meth c B.U B.locs B.cells B.slots ∧ PostX A a q B ∧
      Steps p.tables e below (doInvoke e (A.U.setTop g) [] mk a).1 ((B.U.setTop g).pushFrame (.throwing q)))
section Payer
variable {l : Launch} {R : Room} {p : Program} {e : Env} {below : List Frame} {s : State} {sargs : Array Value} {y : MethodName} {len W9 : Nat}
theorem vx_back {ws : List Cond} {rm : Room} {Pc : Array Value → State → Prop} {Qc : Array Value → State → Outcome → State → Prop} {XC : String → State → State → Prop} {mc ms : Nat} {free : Addr → Prop} {bytes : ByteArray} {maxL : Nat} {ret : Option FieldType}
    (hM : vx_Met l y ws rm Pc Qc XC mc ms free) (hblind : FrameBlind Pc) (hrc : rm.cells = mc) (hrs : rm.slots = ms)
    (hframes : rm.frames + 1 ≤ R.frames) (hlocals : W9 + (maxL + 11) + rm.locals ≤ R.locals)
    (hws : ∀ w ∈ ws, ∀ a' U, s.WarmedH U.vm → w.before a' U = true) (hcode : Cond.code y bytes maxL ret ∈ ws) (hinit : ∀ a' U, s.WarmedH U.vm → (Cond.initialized y.cls).before a' U = true) :
    vx_Back l R p e below s sargs y len W9 (PreOf R mc ms Pc) (PostOf Qc mc ms free) (vx_Post XC mc ms free) := by
  intro m meth c A g ig mk a X hg hsize hdg hW hn hp
  have h1 : (headSpec ws rm).pre.before a A.U = true := atoms_intro fun w hw => hws w hw _ _ X.warmed
  have h2 : (Cond.code y bytes maxL ret).before a A.U = true := hws _ hcode _ _ X.warmed
  have h3 : (Cond.initialized y.cls).before a A.U = true := hinit _ _ X.warmed
  have h4 : A.cells + (headSpec ws rm).room.cells ≤ R.cells := by rw [show (headSpec ws rm).room.cells = mc from hrc]; exact hp.1
  have h5 : A.slots + (headSpec ws rm).room.slots ≤ R.slots := by rw [show (headSpec ws rm).room.slots = ms from hrs]; exact hp.2.1
  have hPc : Pc a (A.U.calling g mk a) := hblind _ _ _ _ hp.2.2
  obtain ⟨U, Ls, c0, s0⟩ := A
  dsimp only [Pt.U, Pt.locs, Pt.cells, Pt.slots] at h1 h2 h3 h4 h5 X hn hPc ⊢
  obtain ⟨methY, cY, hmY, hcY, -, hlY, -, -, -, -⟩ := Cond.code_spec hn h2
  obtain ⟨kY, hkY, -⟩ := className_of_methodNamed hn
  have hinitY : kY.init = .initialized := Cond.initialized_spec (findClass_of_methodNamed hn) hkY h3
  have h : At U g.method c below := by rw [hg]; exact X.here
  have hlocals9 : W9 + (maxL + 11) + (headSpec ws rm).room.locals ≤ R.locals := hlocals
  have happ : (headSpec ws rm).appliesLoose y e.platform (U.calling g mk a) = true :=
    Spec.appliesLoose_calling (g := g) h hdg hn hkY hinitY
      (X.room_calling (g := g) (R' := (headSpec ws rm).room) hsize hmY hcY hframes (by rw [hlY]; omega) h4 h5) h1
  obtain ⟨mid, hmid⟩ := h.above
  have hfr : (U.setTop g).frames = (.java g :: mid) ++ below := by rw [State.frames_setTop' g h.top, hmid]; rfl
  obtain ⟨o, s₂, hsteps, -, hend, hq⟩ := Steps.callFree hM p X.admits X.cas X.clock (acts := []) hfr happ hPc trivial
  have hq' : vx_Q Qc XC mc ms free a (U.calling g mk a) o s₂ := hq
  rw [State.frames_setTop' g h.top] at hend
  obtain ⟨g₀, hg0⟩ := Option.isSome_iff_exists.mp h.top
  obtain ⟨r, hr⟩ := State.topJava?_eq_some.mp hg0
  have hr' : (({ U with heap := s₂.heap, slotsUsed := s₂.slotsUsed } : State).setVm s₂.vm).frames = .java g₀ :: r := hr
  rcases hq' with ⟨hqc, L, hfe, hL⟩ | ⟨q, rfl, E, ce, L, hx, hce, hcv, hcl, hW₂, hsm, hL⟩
  · obtain ⟨⟨v, rfl⟩, hW₂, e2, q2, q3, q4, q5, q6⟩ := id hfe
    have e3 : s₂ = ({ (U.calling g mk a).setFrames s₂.frames with heap := s₂.heap, slotsUsed := s₂.slotsUsed } : State).setVm s₂.vm := by
      have : s₂ = ({ s₂ with vm := (U.calling g mk a).vm } : State).setVm s₂.vm := rfl
      rw [e2] at this
      exact this
    obtain ⟨c₂, i₂, len₂, hc₂, hd₂, hf₂⟩ := hend
    have hW' : U.WarmedH s₂.vm := hW₂
    have hcc : c₂ = c := by
      have h1 : s₂.code? g.method = U.code? g.method := by
        rw [State.code?_eq, State.code?_eq, hW'.alike.method?]
      exact Option.some.inj (hc₂.symm.trans (h1.trans h.code))
    subst hcc
    have hlen : len₂ = len := by rw [hdg] at hd₂; cases hd₂; rfl
    subst hlen
    have hs₂ : s₂ = (({ U with heap := s₂.heap, slotsUsed := s₂.slotsUsed } : State).setVm s₂.vm).setTop { g with pc := g.pc + len₂, stack := v.toList ++ g.stack } := by
      refine e3.trans ?_
      rw [hf₂, State.calling_eq h.top, State.setFrames_setFrames, State.setTop_of_frames _ hr', hr]
      rfl
    have hsame : U.sameButNew ({ U with heap := s₂.heap, slotsUsed := s₂.slotsUsed } : State) L mc ms := by
      refine ⟨?_, q2, q3, q4, q5, q6⟩
      obtain ⟨t, ht, -⟩ := State.frames_cons hr
      show ({ U with heap := s₂.heap, slotsUsed := s₂.slotsUsed } : State) = { U.setFrames U.frames with heap := s₂.heap, slotsUsed := s₂.slotsUsed }
      rw [State.setFrames_self ht]
    subst hg
    refine Or.inl ⟨v, ⟨(({ U with heap := s₂.heap, slotsUsed := s₂.slotsUsed } : State).setVm s₂.vm), Ls ++ L, c0 + mc, s0 + ms⟩,
      ⟨X.admits, X.cas, X.clock, X.frames, X.room, X.hears, X.method, X.code, (X.here.setHeapUsed s₂.heap s₂.slotsUsed).setVm hW'.alike, X.tail, State.WarmedH.trans X.warmed hW', X.limits, X.bytes, X.same.trans (hsame.setVm s.vm)⟩,
      ⟨g, mk, s₂, L, rfl, rfl, hqc, rfl, hL, rfl, rfl⟩, ?_⟩
    show Steps p.tables e below _ ((({ U with heap := s₂.heap, slotsUsed := s₂.slotsUsed } : State).setVm s₂.vm).setTop { g with pc := g.pc + len₂, stack := v.toList ++ g.stack })
    rw [← hs₂]
    exact hsteps
  · obtain ⟨e2, q2, q3, q4, q5, q6⟩ := id hsm
    have e3 : s₂ = ({ (U.calling g mk a).setFrames s₂.frames with heap := s₂.heap, slotsUsed := s₂.slotsUsed } : State).setVm s₂.vm := by
      have : s₂ = ({ s₂ with vm := (U.calling g mk a).vm } : State).setVm s₂.vm := rfl
      rw [e2] at this
      exact this
    have hf₂ : s₂.frames = .throwing q :: .java g :: U.frames.tail := hend
    have hW' : U.WarmedH s₂.vm := hW₂
    have hs₂ : s₂ = ((({ U with heap := s₂.heap, slotsUsed := s₂.slotsUsed } : State).setVm s₂.vm).setTop g).pushFrame (.throwing q) := by
      refine e3.trans ?_
      rw [hf₂, State.calling_eq h.top, State.setFrames_setFrames, State.pushFrame, State.frames_setTop _ hr', State.setTop_of_frames _ hr', State.setFrames_setFrames, hr]
      rfl
    have hsame : U.sameButNew ({ U with heap := s₂.heap, slotsUsed := s₂.slotsUsed } : State) L mc ms := by
      refine ⟨?_, q2, q3, q4, q5, q6⟩
      obtain ⟨t, ht, -⟩ := State.frames_cons hr
      show ({ U with heap := s₂.heap, slotsUsed := s₂.slotsUsed } : State) = { U.setFrames U.frames with heap := s₂.heap, slotsUsed := s₂.slotsUsed }
      rw [State.setFrames_self ht]
    subst hg
    refine Or.inr ⟨q, ⟨(({ U with heap := s₂.heap, slotsUsed := s₂.slotsUsed } : State).setVm s₂.vm), Ls ++ L, c0 + mc, s0 + ms⟩,
      ⟨X.admits, X.cas, X.clock, X.frames, X.room, X.hears, X.method, X.code, (X.here.setHeapUsed s₂.heap s₂.slotsUsed).setVm hW'.alike, X.tail, State.WarmedH.trans X.warmed hW', X.limits, X.bytes, X.same.trans (hsame.setVm s.vm)⟩,
      ⟨g, mk, s₂, L, E, ce, rfl, rfl, hx, hce, hcv, hcl, rfl, hL, rfl, rfl⟩, ?_⟩
    show Steps p.tables e below _ (((({ U with heap := s₂.heap, slotsUsed := s₂.slotsUsed } : State).setVm s₂.vm).setTop g).pushFrame (.throwing q))
    rw [← hs₂]
    exact hsteps
end Payer
section Calls
variable {p : Program} {l : Launch} {e : Env} {R : Room} {s : State} {m : MethodId} {args : Array Value} {below : List Frame} {meth : Method} {c : Code} {T : State} {locs : List Loc} {cells slots : Nat}
theorem vx_callV (X : Stand p l e R s m args below meth c T locs cells slots) (hexec : p.tables.exec = Jvm.exec) {own C : String} {index : Nat} {y : MethodName} {bytes : ByteArray} {maxL : Nat} {ret : Option FieldType}
    (hown : s.vm.findClass own = some m.cls) (hlink : (Cond.methodLink own index y).before args s = true) (hinst : (Cond.instanceMethod y).before args s = true) (hsel : (Cond.selects C y y).before args s = true)
    (hcode : (Cond.code y bytes maxL ret).before args s = true) (hy : y.cls ≠ "java/lang/invoke/MethodHandle" ∧ y.cls ≠ "java/lang/invoke/VarHandle")
    {W9 : Nat} {Pre : Pt → Array Value → Prop} {Post : Pt → Array Value → Option Value → Pt → Prop} {PostX : Pt → Array Value → Addr → Pt → Prop} (hK : vx_Back l R p e below s args y 3 W9 Pre Post PostX)
    {b : Addr} {cellB : Cell} (hcell : T.heap[b]? = some cellB) (hobj : cellB.vm.isStatics = false) (hcls : s.vm.findClass C = some cellB.cls)
    {g : JFrame} (hg : g.method = m) (hsize : g.locals.size = c.maxLocals) {argsL rest : List Value} (hlen : ∀ sig, parseMethodDescriptor y.desc = some sig → argsL.length = sig.parameters.length)
    (hstack : g.stack = argsL.reverse ++ .ref b :: rest) (hW : 2 * g.monitorRoom + (rest.map fun v => v.category).sum ≤ W9) (hdg : decode c.code g.pc = .ok (.invokevirtual index, 3))
    (hpre : ∀ vm₁, s.WarmedH vm₁ → Pre ⟨T.setVm vm₁, locs, cells, slots⟩ (Value.ref b :: argsL).toArray) :
    (∃ (v : Option Value) (vm₁ : Vm) (B : Pt), s.WarmedH vm₁ ∧ Stand p l e R s m args below meth c B.U B.locs B.cells B.slots ∧ Post ⟨T.setVm vm₁, locs, cells, slots⟩ (Value.ref b :: argsL).toArray v B ∧
      ∀ target, Steps p.tables e below (B.U.setTop { g with pc := g.pc + 3, stack := v.toList ++ rest }) target → Steps p.tables e below (T.setTop g) target) ∨
    (∃ (q : Addr) (vm₁ : Vm) (B : Pt), s.WarmedH vm₁ ∧ Stand p l e R s m args below meth c B.U B.locs B.cells B.slots ∧ PostX ⟨T.setVm vm₁, locs, cells, slots⟩ (Value.ref b :: argsL).toArray q B ∧
      Steps p.tables e below (T.setTop g) ((B.U.setTop { g with stack := rest }).pushFrame (.throwing q))) := by
  obtain ⟨mk, methM, hnamed, hmethM, hstM, habM⟩ := Cond.instanceMethod_spec hinst
  obtain ⟨methM', cM, hmethM', -, -, -, -, -, -, hsigM⟩ := Cond.code_spec hnamed hcode
  cases hmethM.symm.trans hmethM'
  obtain ⟨c2, r2, m2, q1, q2, q3, q4, kP, hkP, hkPi⟩ := Cond.selects_spec hsel
  cases hcls.symm.trans q1
  cases (State.methodFound?_of_named hnamed hy).symm.trans q2
  cases hnamed.symm.trans q3
  have hselP : selectMethod e.platform s.vm cellB.cls mk = .method mk := by rw [Launch.admits_selectMethod X.admits]; exact q4
  obtain ⟨vm₁, X₁, hstep₁⟩ := X.invokevirtual hexec hown hlink hnamed hmethM hstM hkP hkPi hy (a := b) (cell := cellB) hcell
    (fun z h => by rw [h] at hobj; cases hobj) hselP hmethM habM hkP hkPi (g := g) hg (argsL := argsL) (rest := rest) (hlen _ hsigM) hstack hdg
  rcases hK m meth c ⟨T.setVm vm₁, locs, cells, slots⟩ { g with stack := rest } (.invokevirtual index) mk (Value.ref b :: argsL).toArray X₁ hg hsize hdg hW (X₁.named hnamed) (hpre vm₁ X₁.warmed) with ⟨v, B, X', hpost, hsteps⟩ | ⟨q, B, X', hpost, hsteps⟩
  · exact Or.inl ⟨v, vm₁, B, X₁.warmed, X', hpost, fun target h => hstep₁ _ fun acts => by rw [doInvoke_state]; exact hsteps.trans h⟩
  · exact Or.inr ⟨q, vm₁, B, X₁.warmed, X', hpost, hstep₁ _ fun acts => by rw [doInvoke_state]; exact hsteps⟩
theorem vx_callS (X : Stand p l e R s m args below meth c T locs cells slots) (hexec : p.tables.exec = Jvm.exec) {own : String} {index : Nat} {y : MethodName} {bytes : ByteArray} {maxL : Nat} {ret : Option FieldType}
    (hown : s.vm.findClass own = some m.cls) (hlink : (Cond.methodLink own index y).before args s = true) (hstat : (Cond.static y).before args s = true) (hinit : (Cond.initialized y.cls).before args s = true)
    (hcode : (Cond.code y bytes maxL ret).before args s = true) (hy : y.cls ≠ "java/lang/invoke/MethodHandle" ∧ y.cls ≠ "java/lang/invoke/VarHandle")
    {W9 : Nat} {Pre : Pt → Array Value → Prop} {Post : Pt → Array Value → Option Value → Pt → Prop} {PostX : Pt → Array Value → Addr → Pt → Prop} (hK : vx_Back l R p e below s args y 3 W9 Pre Post PostX)
    {g : JFrame} (hg : g.method = m) (hsize : g.locals.size = c.maxLocals) {argsL rest : List Value} (hlen : ∀ sig, parseMethodDescriptor y.desc = some sig → argsL.length = sig.parameters.length)
    (hstack : g.stack = argsL.reverse ++ rest) (hW : 2 * g.monitorRoom + (rest.map fun v => v.category).sum ≤ W9) (hdg : decode c.code g.pc = .ok (.invokestatic index, 3))
    (hpre : ∀ vm₁, s.WarmedH vm₁ → Pre ⟨T.setVm vm₁, locs, cells, slots⟩ argsL.toArray) :
    (∃ (v : Option Value) (vm₁ : Vm) (B : Pt), s.WarmedH vm₁ ∧ Stand p l e R s m args below meth c B.U B.locs B.cells B.slots ∧ Post ⟨T.setVm vm₁, locs, cells, slots⟩ argsL.toArray v B ∧
      ∀ target, Steps p.tables e below (B.U.setTop { g with pc := g.pc + 3, stack := v.toList ++ rest }) target → Steps p.tables e below (T.setTop g) target) ∨
    (∃ (q : Addr) (vm₁ : Vm) (B : Pt), s.WarmedH vm₁ ∧ Stand p l e R s m args below meth c B.U B.locs B.cells B.slots ∧ PostX ⟨T.setVm vm₁, locs, cells, slots⟩ argsL.toArray q B ∧
      Steps p.tables e below (T.setTop g) ((B.U.setTop { g with stack := rest }).pushFrame (.throwing q))) := by
  obtain ⟨mk, hnamed⟩ := Cond.code_named hcode
  obtain ⟨methM, cM, hmethM, -, -, -, -, -, -, hsigM⟩ := Cond.code_spec hnamed hcode
  have hstatic : methM.isStatic = true := Cond.static_spec hnamed hmethM hstat
  obtain ⟨kP, hkP, -⟩ := className_of_methodNamed hnamed
  have hinitP : kP.init = .initialized := Cond.initialized_spec (findClass_of_methodNamed hnamed) hkP hinit
  obtain ⟨vm₁, X₁, hstep₁⟩ := X.invokestatic hexec hown hlink hnamed hmethM hstatic hkP hinitP hy (g := g) hg (argsL := argsL) (rest := rest) (hlen _ hsigM) hstack hdg
  rcases hK m meth c ⟨T.setVm vm₁, locs, cells, slots⟩ { g with stack := rest } (.invokestatic index) mk argsL.toArray X₁ hg hsize hdg hW (X₁.named hnamed) (hpre vm₁ X₁.warmed) with ⟨v, B, X', hpost, hsteps⟩ | ⟨q, B, X', hpost, hsteps⟩
  · exact Or.inl ⟨v, vm₁, B, X₁.warmed, X', hpost, fun target h => hstep₁ _ fun acts => by rw [doInvoke_state]; exact hsteps.trans h⟩
  · exact Or.inr ⟨q, vm₁, B, X₁.warmed, X', hpost, hstep₁ _ fun acts => by rw [doInvoke_state]; exact hsteps⟩
end Calls
theorem vx_cls {s : State} {T : State} {vm₁ : Vm} {E : String} {k : ClassId} (hW : s.WarmedH vm₁) (h : (T.setVm vm₁).vm.findClass E = some k) : s.vm.findClass E = some k := by
  have h1 : vm₁.findClass E = some k := h
  rw [hW.alike.findClass] at h1
  exact h1
/-- the method's frame g, with q thrown over it -/
def vx_W (p : Program) (l : Launch) (e : Env) (R : Room) (s : State) (m : MethodId) (args : Array Value) (below : List Frame) (meth : Method) (c : Code) (H : Heap) (locs : List Loc) (cells slots : Nat) (Q : State → Prop) (g : JFrame) (q : Addr) : Prop :=
  ∀ T : State, T.heap = H → Stand p l e R s m args below meth c T locs cells slots → ∃ t, Steps p.tables e below ((T.setTop g).pushFrame (.throwing q)) t ∧ Q t
def vx_Run (p : Program) (l : Launch) (e : Env) (R : Room) (s : State) (m : MethodId) (args : Array Value) (below : List Frame) (meth : Method) (c : Code) (H : Heap) (locs : List Loc) (cells slots mc ms : Nat) (g : JFrame) (rest : List Value) (Qa : State → Outcome → State → Prop) (XC : String → State → State → Prop) (free : Addr → Prop) : Prop :=
  ∀ T : State, T.heap = H → Stand p l e R s m args below meth c T locs cells slots →
    (∃ (v : Option Value) (st₀ t T' : State) (L : List Loc), st₀.heap = H ∧ Stand p l e R s m args below meth c T' (locs ++ L) (cells + mc) (slots + ms) ∧ (∀ q ∈ L, free q.base) ∧ T'.heap = t.heap ∧ T'.vm = t.vm ∧ Qa st₀ (.returned v) t ∧
      Goes p e below T g T' { g with pc := g.pc + 3, stack := v.toList ++ rest }) ∨
    (∃ (q : Addr) (st₀ t T' : State) (L : List Loc) (E : String) (ce : Cell), st₀.heap = H ∧ Stand p l e R s m args below meth c T' (locs ++ L) (cells + mc) (slots + ms) ∧ (∀ z ∈ L, free z.base) ∧ T'.heap = t.heap ∧ T'.vm = t.vm ∧ XC E st₀ t ∧ t.heap[q]? = some ce ∧ ce.vm = .none ∧ s.vm.findClass E = some ce.cls ∧
      Steps p.tables e below (T.setTop g) ((T'.setTop { g with stack := rest }).pushFrame (.throwing q)))
def vx_X {S : Type} (px : S → Prop) (B : String → S → State → Prop) (A : Nat → Prop) : String → State → State → Prop := fun E st t => ∃ u : S, px u ∧ B E u t ∧ va_F A st t
section Runs
variable {p : Program} {l : Launch} {e : Env} {R : Room} {s : State} {m : MethodId} {args : Array Value} {below : List Frame} {meth : Method} {c : Code} {H : Heap} {locs : List Loc} {cells slots : Nat}
variable {y : MethodName} {bytes cc : ByteArray} {maxL nL mc ms n index : Nat} {ret : Option FieldType} {ws : List Cond} {rm : Room} {Pc : Array Value → State → Prop} {Qc : Array Value → State → Outcome → State → Prop} {XC : String → State → State → Prop} {free : Addr → Prop} {Ts : List Cond} {own C : String} {b : Addr} {As rest : List Value} {g : JFrame}
theorem vx_callBack (cb : CallB R s args own index y bytes maxL ret ws rm mc ms n) (hM : vx_Met l y ws rm Pc Qc XC mc ms free) (hbl : FrameBlind Pc) : vx_Back l R p e below s args y 3 8 (PreOf R mc ms Pc) (PostOf Qc mc ms free) (vx_Post XC mc ms free) := by
  obtain ⟨hrc, hrs, hfr, hlo, hws, hcw, -, hini, -⟩ := cb
  exact vx_back (bytes := bytes) (maxL := maxL) (ret := ret) hM hbl hrc hrs hfr hlo hws hcw (fun a' U hW => word_at hW (Or.inl (by first | rfl | simp [Cond.onTables, Cond.keeps, Cond.steady])) hini)
theorem vx_runV (S : CallFix p m c cc nL s args Ts own) (hM : vx_Met l y ws rm Pc Qc XC mc ms free) (cw : CallW R s args own C index y bytes maxL ret ws rm mc ms n) (hp : PreV s H C b Pc As)
    (hg : g.method = m) (hn : As.length = n) (hsize : g.locals.size = nL) (hstack : g.stack = As.reverse ++ .ref b :: rest) (hW : 2 * g.monitorRoom + (rest.map fun v => v.category).sum ≤ 8) (hdg : decode cc g.pc = .ok (.invokevirtual index, 3)) (hf : cells + mc ≤ R.cells ∧ slots + ms ≤ R.slots) :
    vx_Run p l e R s m args below meth c H locs cells slots mc ms g rest (Qc (Value.ref b :: As).toArray) XC free := by
  have hK : vx_Back l R p e below s args y 3 8 (PreOf R mc ms Pc) (PostOf Qc mc ms free) (vx_Post XC mc ms free) := vx_callBack cw.1 hM hp.1
  obtain ⟨⟨-, -, -, -, -, -, hcode, -, hy, hlen, hl⟩, hin, hse⟩ := cw
  obtain ⟨hx, hb, hml, ho, -⟩ := S
  obtain ⟨-, ⟨cellB, hcB, hoB, hclB⟩, hPc⟩ := hp
  intro T hT X
  rcases vx_callV X hx (C := C) (bytes := bytes) (maxL := maxL) (ret := ret) ho hl hin hse hcode hy hK (by rw [hT]; exact hcB) hoB hclB hg (hsize.trans hml.symm) (argsL := As) (rest := rest) (fun sig h => hn.trans (hlen sig h)) hstack hW (by rw [hb]; exact hdg)
    (fun vm₁ hW₁ => ⟨hf.1, hf.2, hPc (T.setVm vm₁) hT hW₁⟩) with ⟨v, vm₁, ⟨U', l2, c2, s2⟩, hW₁, X', ⟨g', mk, t, L, e1, e2, hq, h1, hL, h2, h3⟩, st⟩ | ⟨q, vm₁, ⟨U', l2, c2, s2⟩, hW₁, X', ⟨g', mk, t, L, E, ce, e1, e2, hq, hce, hcv, hcl, h1, hL, h2, h3⟩, st⟩
  · dsimp only [Pt.U, Pt.locs, Pt.cells, Pt.slots] at X' e1 e2 h1 h2 h3 st
    subst h1; subst h2; subst h3
    exact Or.inl ⟨v, (T.setVm vm₁).calling g' mk (Value.ref b :: As).toArray, t, U', L, hT, X', hL, e1, e2, hq, st⟩
  · dsimp only [Pt.U, Pt.locs, Pt.cells, Pt.slots] at X' e1 e2 h1 h2 h3 st hcl
    subst h1; subst h2; subst h3
    exact Or.inr ⟨q, (T.setVm vm₁).calling g' mk (Value.ref b :: As).toArray, t, U', L, E, ce, hT, X', hL, e1, e2, hq, hce, hcv, vx_cls hW₁ hcl, st⟩
theorem vx_runS (S : CallFix p m c cc nL s args Ts own) (hM : vx_Met l y ws rm Pc Qc XC mc ms free) (cw : CallB R s args own index y bytes maxL ret ws rm mc ms n ∧ (Cond.static y).before args s = true) (hp : PreS s H Pc As)
    (hg : g.method = m) (hn : As.length = n) (hsize : g.locals.size = nL) (hstack : g.stack = As.reverse ++ rest) (hW : 2 * g.monitorRoom + (rest.map fun v => v.category).sum ≤ 8) (hdg : decode cc g.pc = .ok (.invokestatic index, 3)) (hf : cells + mc ≤ R.cells ∧ slots + ms ≤ R.slots) :
    vx_Run p l e R s m args below meth c H locs cells slots mc ms g rest (Qc As.toArray) XC free := by
  have hK : vx_Back l R p e below s args y 3 8 (PreOf R mc ms Pc) (PostOf Qc mc ms free) (vx_Post XC mc ms free) := vx_callBack cw.1 hM hp.1
  obtain ⟨⟨-, -, -, -, -, -, hcode, hini, hy, hlen, hl⟩, hstt⟩ := cw
  obtain ⟨hx, hb, hml, ho, -⟩ := S
  intro T hT X
  rcases vx_callS X hx (bytes := bytes) (maxL := maxL) (ret := ret) ho hl hstt hini hcode hy hK hg (hsize.trans hml.symm) (argsL := As) (rest := rest) (fun sig h => hn.trans (hlen sig h)) hstack hW (by rw [hb]; exact hdg)
    (fun vm₁ hW₁ => ⟨hf.1, hf.2, hp.2 (T.setVm vm₁) hT hW₁⟩) with ⟨v, vm₁, ⟨U', l2, c2, s2⟩, hW₁, X', ⟨g', mk, t, L, e1, e2, hq, h1, hL, h2, h3⟩, st⟩ | ⟨q, vm₁, ⟨U', l2, c2, s2⟩, hW₁, X', ⟨g', mk, t, L, E, ce, e1, e2, hq, hce, hcv, hcl, h1, hL, h2, h3⟩, st⟩
  · dsimp only [Pt.U, Pt.locs, Pt.cells, Pt.slots] at X' e1 e2 h1 h2 h3 st
    subst h1; subst h2; subst h3
    exact Or.inl ⟨v, (T.setVm vm₁).calling g' mk As.toArray, t, U', L, hT, X', hL, e1, e2, hq, st⟩
  · dsimp only [Pt.U, Pt.locs, Pt.cells, Pt.slots] at X' e1 e2 h1 h2 h3 st hcl
    subst h1; subst h2; subst h3
    exact Or.inr ⟨q, (T.setVm vm₁).calling g' mk As.toArray, t, U', L, E, ce, hT, X', hL, e1, e2, hq, hce, hcv, vx_cls hW₁ hcl, st⟩
end Runs
section Rows
variable {p : Program} {l : Launch} {e : Env} {R : Room} {s : State} {m : MethodId} {args : Array Value} {below : List Frame} {meth : Method} {c : Code} {H : Heap} {locs : List Loc} {cells slots : Nat} {Q : State → Prop}
variable {mc ms : Nat} {free : Addr → Prop} {A0 A1 : Nat → Prop} {H0 : Heap} {a : Array Value} {pc : Nat} {ls : Array Slot} {st0 rest : List Value}
theorem vx_keep {st₀ t T' : State} {L : List Loc} (h0 : st₀.heap = H) (e1 : T'.heap = t.heap) (hS : va_S A0 H0 H locs) (hA : ∀ q, q < H.size → A1 q → A0 q) (hf : ∀ q, free q → A0 q) (hL : ∀ q ∈ L, free q.base) (hF : va_F A1 st₀ t) :
    H.size ≤ T'.heap.size ∧ (∀ q : Nat, q < H.size → ¬ A1 q → T'.heap[q]? = H[q]?) ∧ va_S A0 H0 T'.heap (locs ++ L) := by
  obtain ⟨hz, hk⟩ := hF
  rw [h0] at hz hk
  exact ⟨by rw [e1]; exact hz, fun q h1 h2 => by rw [e1]; exact hk q h1 h2,
    ⟨Nat.le_trans hS.1 (by rw [e1]; exact hz), fun q h1 h2 => by rw [e1, hk q (Nat.lt_of_lt_of_le h1 hS.1) (fun z => h2 (hA q (Nat.lt_of_lt_of_le h1 hS.1) z))]; exact hS.2.1 q h1 h2, fun q hq => by
      rcases List.mem_append.mp hq with h | h
      · exact hS.2.2 q h
      · exact hf _ (hL q h)⟩⟩
theorem vx_calli {S SX : Type} {post : Int32 → S → Prop} {px : SX → Prop} {B : S → State → Prop} {BX : String → SX → State → Prop} {AX : Nat → Prop} (hr : vx_Run p l e R s m args below meth c H locs cells slots mc ms (F0 m pc ls st0) rest (va_Qi post B A1 a) (vx_X px BX AX) free) (hS : va_S A0 H0 H locs) (hA : ∀ q, q < H.size → A1 q → A0 q) (hf : ∀ q, free q → A0 q) (hAX : ∀ q, q < H.size → AX q → A0 q)
    (kx : ∀ (E : String) (ce : Cell) (q9 : Addr) (u : SX) (t : State) (H1 : Heap) (locs1 : List Loc), t.heap = H1 → s.vm.Alike t.vm → px u → BX E u t → H.size ≤ H1.size → (∀ q : Nat, q < H.size → ¬ AX q → H1[q]? = H[q]?) → va_S A0 H0 H1 locs1 → H1[q9]? = some ce → ce.vm = .none → s.vm.findClass E = some ce.cls → vx_W p l e R s m args below meth c H1 locs1 (cells + mc) (slots + ms) Q (F0 m pc ls rest) q9)
    (kk : ∀ (r : Int32) (u : S) (t : State) (H1 : Heap) (locs1 : List Loc), t.heap = H1 → s.vm.Alike t.vm → post r u → B u t → H.size ≤ H1.size → (∀ q : Nat, q < H.size → ¬ A1 q → H1[q]? = H[q]?) → va_S A0 H0 H1 locs1 → W p l e R s m args below meth c H1 locs1 (cells + mc) (slots + ms) Q (F0 m (pc + 3) ls (.int r :: rest))) : W p l e R s m args below meth c H locs cells slots Q (F0 m pc ls st0) := by
  intro T hT X
  rcases hr T hT X with ⟨v, st₀, t, T', L, h0, X', hL, e1, e2, ⟨⟨r, u, hv, hp, hb⟩, hF⟩, st⟩ | ⟨q, st₀, t, T', L, E, ce, h0, X', hL, e1, e2, ⟨u, hp, hb, hF⟩, hce, hcv, hcl, st⟩
  · cases hv
    obtain ⟨k1, k2, k3⟩ := vx_keep h0 e1 hS hA hf hL hF
    obtain ⟨t2, a1, b1⟩ := kk r u t T'.heap (locs ++ L) e1.symm (by rw [← e2]; exact X'.warmed.alike) hp hb k1 k2 k3 T' rfl X'
    exact ⟨t2, st t2 a1, b1⟩
  · obtain ⟨k1, k2, k3⟩ := vx_keep h0 e1 hS hAX hf hL hF
    obtain ⟨t2, a1, b1⟩ := kx E ce q u t T'.heap (locs ++ L) e1.symm (by rw [← e2]; exact X'.warmed.alike) hp hb k1 k2 k3 (by rw [e1]; exact hce) hcv hcl T' rfl X'
    exact ⟨t2, st.trans a1, b1⟩
theorem vx_calll {S SX : Type} {post : Int64 → S → Prop} {px : SX → Prop} {B : S → State → Prop} {BX : String → SX → State → Prop} {AX : Nat → Prop} (hr : vx_Run p l e R s m args below meth c H locs cells slots mc ms (F0 m pc ls st0) rest (va_Ql post B A1 a) (vx_X px BX AX) free) (hS : va_S A0 H0 H locs) (hA : ∀ q, q < H.size → A1 q → A0 q) (hf : ∀ q, free q → A0 q) (hAX : ∀ q, q < H.size → AX q → A0 q)
    (kx : ∀ (E : String) (ce : Cell) (q9 : Addr) (u : SX) (t : State) (H1 : Heap) (locs1 : List Loc), t.heap = H1 → s.vm.Alike t.vm → px u → BX E u t → H.size ≤ H1.size → (∀ q : Nat, q < H.size → ¬ AX q → H1[q]? = H[q]?) → va_S A0 H0 H1 locs1 → H1[q9]? = some ce → ce.vm = .none → s.vm.findClass E = some ce.cls → vx_W p l e R s m args below meth c H1 locs1 (cells + mc) (slots + ms) Q (F0 m pc ls rest) q9)
    (kk : ∀ (r : Int64) (u : S) (t : State) (H1 : Heap) (locs1 : List Loc), t.heap = H1 → s.vm.Alike t.vm → post r u → B u t → H.size ≤ H1.size → (∀ q : Nat, q < H.size → ¬ A1 q → H1[q]? = H[q]?) → va_S A0 H0 H1 locs1 → W p l e R s m args below meth c H1 locs1 (cells + mc) (slots + ms) Q (F0 m (pc + 3) ls (.long r :: rest))) : W p l e R s m args below meth c H locs cells slots Q (F0 m pc ls st0) := by
  intro T hT X
  rcases hr T hT X with ⟨v, st₀, t, T', L, h0, X', hL, e1, e2, ⟨⟨r, u, hv, hp, hb⟩, hF⟩, st⟩ | ⟨q, st₀, t, T', L, E, ce, h0, X', hL, e1, e2, ⟨u, hp, hb, hF⟩, hce, hcv, hcl, st⟩
  · cases hv
    obtain ⟨k1, k2, k3⟩ := vx_keep h0 e1 hS hA hf hL hF
    obtain ⟨t2, a1, b1⟩ := kk r u t T'.heap (locs ++ L) e1.symm (by rw [← e2]; exact X'.warmed.alike) hp hb k1 k2 k3 T' rfl X'
    exact ⟨t2, st t2 a1, b1⟩
  · obtain ⟨k1, k2, k3⟩ := vx_keep h0 e1 hS hAX hf hL hF
    obtain ⟨t2, a1, b1⟩ := kx E ce q u t T'.heap (locs ++ L) e1.symm (by rw [← e2]; exact X'.warmed.alike) hp hb k1 k2 k3 (by rw [e1]; exact hce) hcv hcl T' rfl X'
    exact ⟨t2, st.trans a1, b1⟩
theorem vx_callf {S SX : Type} {post : UInt32 → S → Prop} {px : SX → Prop} {B : S → State → Prop} {BX : String → SX → State → Prop} {AX : Nat → Prop} (hr : vx_Run p l e R s m args below meth c H locs cells slots mc ms (F0 m pc ls st0) rest (va_Qf post B A1 a) (vx_X px BX AX) free) (hS : va_S A0 H0 H locs) (hA : ∀ q, q < H.size → A1 q → A0 q) (hf : ∀ q, free q → A0 q) (hAX : ∀ q, q < H.size → AX q → A0 q)
    (kx : ∀ (E : String) (ce : Cell) (q9 : Addr) (u : SX) (t : State) (H1 : Heap) (locs1 : List Loc), t.heap = H1 → s.vm.Alike t.vm → px u → BX E u t → H.size ≤ H1.size → (∀ q : Nat, q < H.size → ¬ AX q → H1[q]? = H[q]?) → va_S A0 H0 H1 locs1 → H1[q9]? = some ce → ce.vm = .none → s.vm.findClass E = some ce.cls → vx_W p l e R s m args below meth c H1 locs1 (cells + mc) (slots + ms) Q (F0 m pc ls rest) q9)
    (kk : ∀ (r : UInt32) (u : S) (t : State) (H1 : Heap) (locs1 : List Loc), t.heap = H1 → s.vm.Alike t.vm → post r u → B u t → H.size ≤ H1.size → (∀ q : Nat, q < H.size → ¬ A1 q → H1[q]? = H[q]?) → va_S A0 H0 H1 locs1 → W p l e R s m args below meth c H1 locs1 (cells + mc) (slots + ms) Q (F0 m (pc + 3) ls (.float r :: rest))) : W p l e R s m args below meth c H locs cells slots Q (F0 m pc ls st0) := by
  intro T hT X
  rcases hr T hT X with ⟨v, st₀, t, T', L, h0, X', hL, e1, e2, ⟨⟨r, u, hv, hp, hb⟩, hF⟩, st⟩ | ⟨q, st₀, t, T', L, E, ce, h0, X', hL, e1, e2, ⟨u, hp, hb, hF⟩, hce, hcv, hcl, st⟩
  · cases hv
    obtain ⟨k1, k2, k3⟩ := vx_keep h0 e1 hS hA hf hL hF
    obtain ⟨t2, a1, b1⟩ := kk r u t T'.heap (locs ++ L) e1.symm (by rw [← e2]; exact X'.warmed.alike) hp hb k1 k2 k3 T' rfl X'
    exact ⟨t2, st t2 a1, b1⟩
  · obtain ⟨k1, k2, k3⟩ := vx_keep h0 e1 hS hAX hf hL hF
    obtain ⟨t2, a1, b1⟩ := kx E ce q u t T'.heap (locs ++ L) e1.symm (by rw [← e2]; exact X'.warmed.alike) hp hb k1 k2 k3 (by rw [e1]; exact hce) hcv hcl T' rfl X'
    exact ⟨t2, st.trans a1, b1⟩
theorem vx_calld {S SX : Type} {post : UInt64 → S → Prop} {px : SX → Prop} {B : S → State → Prop} {BX : String → SX → State → Prop} {AX : Nat → Prop} (hr : vx_Run p l e R s m args below meth c H locs cells slots mc ms (F0 m pc ls st0) rest (va_Qd post B A1 a) (vx_X px BX AX) free) (hS : va_S A0 H0 H locs) (hA : ∀ q, q < H.size → A1 q → A0 q) (hf : ∀ q, free q → A0 q) (hAX : ∀ q, q < H.size → AX q → A0 q)
    (kx : ∀ (E : String) (ce : Cell) (q9 : Addr) (u : SX) (t : State) (H1 : Heap) (locs1 : List Loc), t.heap = H1 → s.vm.Alike t.vm → px u → BX E u t → H.size ≤ H1.size → (∀ q : Nat, q < H.size → ¬ AX q → H1[q]? = H[q]?) → va_S A0 H0 H1 locs1 → H1[q9]? = some ce → ce.vm = .none → s.vm.findClass E = some ce.cls → vx_W p l e R s m args below meth c H1 locs1 (cells + mc) (slots + ms) Q (F0 m pc ls rest) q9)
    (kk : ∀ (r : UInt64) (u : S) (t : State) (H1 : Heap) (locs1 : List Loc), t.heap = H1 → s.vm.Alike t.vm → post r u → B u t → H.size ≤ H1.size → (∀ q : Nat, q < H.size → ¬ A1 q → H1[q]? = H[q]?) → va_S A0 H0 H1 locs1 → W p l e R s m args below meth c H1 locs1 (cells + mc) (slots + ms) Q (F0 m (pc + 3) ls (.double r :: rest))) : W p l e R s m args below meth c H locs cells slots Q (F0 m pc ls st0) := by
  intro T hT X
  rcases hr T hT X with ⟨v, st₀, t, T', L, h0, X', hL, e1, e2, ⟨⟨r, u, hv, hp, hb⟩, hF⟩, st⟩ | ⟨q, st₀, t, T', L, E, ce, h0, X', hL, e1, e2, ⟨u, hp, hb, hF⟩, hce, hcv, hcl, st⟩
  · cases hv
    obtain ⟨k1, k2, k3⟩ := vx_keep h0 e1 hS hA hf hL hF
    obtain ⟨t2, a1, b1⟩ := kk r u t T'.heap (locs ++ L) e1.symm (by rw [← e2]; exact X'.warmed.alike) hp hb k1 k2 k3 T' rfl X'
    exact ⟨t2, st t2 a1, b1⟩
  · obtain ⟨k1, k2, k3⟩ := vx_keep h0 e1 hS hAX hf hL hF
    obtain ⟨t2, a1, b1⟩ := kx E ce q u t T'.heap (locs ++ L) e1.symm (by rw [← e2]; exact X'.warmed.alike) hp hb k1 k2 k3 (by rw [e1]; exact hce) hcv hcl T' rfl X'
    exact ⟨t2, st.trans a1, b1⟩
theorem vx_callv {S SX : Type} {post : S → Prop} {px : SX → Prop} {B : S → State → Prop} {BX : String → SX → State → Prop} {AX : Nat → Prop} (hr : vx_Run p l e R s m args below meth c H locs cells slots mc ms (F0 m pc ls st0) rest (va_Qv post B A1 a) (vx_X px BX AX) free) (hS : va_S A0 H0 H locs) (hA : ∀ q, q < H.size → A1 q → A0 q) (hf : ∀ q, free q → A0 q) (hAX : ∀ q, q < H.size → AX q → A0 q)
    (kx : ∀ (E : String) (ce : Cell) (q9 : Addr) (u : SX) (t : State) (H1 : Heap) (locs1 : List Loc), t.heap = H1 → s.vm.Alike t.vm → px u → BX E u t → H.size ≤ H1.size → (∀ q : Nat, q < H.size → ¬ AX q → H1[q]? = H[q]?) → va_S A0 H0 H1 locs1 → H1[q9]? = some ce → ce.vm = .none → s.vm.findClass E = some ce.cls → vx_W p l e R s m args below meth c H1 locs1 (cells + mc) (slots + ms) Q (F0 m pc ls rest) q9)
    (kk : ∀ (u : S) (t : State) (H1 : Heap) (locs1 : List Loc), t.heap = H1 → s.vm.Alike t.vm → post u → B u t → H.size ≤ H1.size → (∀ q : Nat, q < H.size → ¬ A1 q → H1[q]? = H[q]?) → va_S A0 H0 H1 locs1 → W p l e R s m args below meth c H1 locs1 (cells + mc) (slots + ms) Q (F0 m (pc + 3) ls (rest))) : W p l e R s m args below meth c H locs cells slots Q (F0 m pc ls st0) := by
  intro T hT X
  rcases hr T hT X with ⟨v, st₀, t, T', L, h0, X', hL, e1, e2, ⟨⟨u, hv, hp, hb⟩, hF⟩, st⟩ | ⟨q, st₀, t, T', L, E, ce, h0, X', hL, e1, e2, ⟨u, hp, hb, hF⟩, hce, hcv, hcl, st⟩
  · cases hv
    obtain ⟨k1, k2, k3⟩ := vx_keep h0 e1 hS hA hf hL hF
    obtain ⟨t2, a1, b1⟩ := kk u t T'.heap (locs ++ L) e1.symm (by rw [← e2]; exact X'.warmed.alike) hp hb k1 k2 k3 T' rfl X'
    exact ⟨t2, st t2 a1, b1⟩
  · obtain ⟨k1, k2, k3⟩ := vx_keep h0 e1 hS hAX hf hL hF
    obtain ⟨t2, a1, b1⟩ := kx E ce q u t T'.heap (locs ++ L) e1.symm (by rw [← e2]; exact X'.warmed.alike) hp hb k1 k2 k3 (by rw [e1]; exact hce) hcv hcl T' rfl X'
    exact ⟨t2, st.trans a1, b1⟩
/-- caught by the row x of this method's table; the rows ahead don't take it -/
theorem vx_catch {own name : String} {E : String} {ce : Cell} {q : Addr} (hown : s.vm.findClass own = some m.cls) (pre : List ExceptionTableEntry) (x : ExceptionTableEntry) (suf : List ExceptionTableEntry) (hsplit : c.exceptionTable.toList = pre ++ x :: suf)
    (hpass : ∀ z ∈ pre, covers z pc = false ∨ (z.catchType ≠ 0 ∧ ∃ nm : String, (Cond.classLink own z.catchType nm).before args s = true ∧ va_Nc E nm s)) (hx : covers x pc = true) (h0 : x.catchType ≠ 0)
    (hlink : (Cond.classLink own x.catchType name).before args s = true) (hcast : (Cond.castable E name).before args s = true) (hcell : H[q]? = some ce) (hv : ce.vm = .none) (hcl : s.vm.findClass E = some ce.cls)
    (kk : W p l e R s m args below meth c H locs cells slots Q (F0 m x.handlerPc ls [.ref q])) : vx_W p l e R s m args below meth c H locs cells slots Q (F0 m pc ls rest) q := by
  intro T hT X
  have hpl : e.platform.magicAccessors = ({} : Platform).magicAccessors := by rw [X.admits.platform]
  obtain ⟨c3, c4, hc3, hc4, hasg⟩ := Cond.castable_spec hcast
  cases Option.some.inj (hc3.symm.trans hcl)
  obtain ⟨c5, hc5, hcl5⟩ := Cond.classLink_spec hown hlink e.platform hpl
  cases Option.some.inj (hc4.symm.trans hc5)
  obtain ⟨vm', X', st⟩ := X.thenCaughtThrough q (g := F0 m pc ls rest) rfl (Steps.refl _) (by rw [hT]; exact hcell) (by rw [hv]; rfl) (by obtain ⟨k9, h9, -⟩ := Vm.findClass_spec hcl; exact ⟨k9, h9⟩) pre x suf hsplit
    (fun z hz => by
      rcases hpass z hz with h | ⟨hz0, nm, hl1, hn1⟩
      · exact Or.inl h
      · obtain ⟨c6, hc6, hcl6⟩ := Cond.classLink_spec hown hl1 e.platform hpl
        obtain ⟨a8, b8, h1, h2, h3⟩ := hn1
        cases Option.some.inj (h1.symm.trans hcl)
        cases Option.some.inj (h2.symm.trans hc6)
        exact Or.inr ⟨hz0, _, hcl6, h3⟩) hx (Or.inr ⟨h0, c4, hcl5, hasg⟩)
  obtain ⟨t, a1, b1⟩ := kk (T.setVm vm') hT X'
  exact ⟨t, st.trans a1, b1⟩
end Rows
section Ends
variable {p : Program} {l : Launch} {e : Env} {R : Room} {s : State} {m : MethodId} {args : Array Value} {below : List Frame} {meth : Method} {c : Code} {H : Heap} {locs : List Loc} {cells slots : Nat} {Q : State → Prop}
variable {mc ms : Nat} {free : Addr → Prop} {A0 A1 : Nat → Prop} {H0 : Heap} {a : Array Value} {ls : Array Slot} {st0 rest : List Value}
variable {Qc : Array Value → State → Outcome → State → Prop} {XC : String → State → State → Prop}
/-- what a body that may throw owes at its end -/
def vx_MQ (below : List Frame) (Qc : Array Value → State → Outcome → State → Prop) (XC : String → State → State → Prop) (a : Array Value) (s : State) (mc ms : Nat) (free : Addr → Prop) : State → Prop := fun t =>
  ∃ o, t.status = .running ∧ Ended t below o ∧ vx_Q Qc XC mc ms free a s o t
theorem vx_ret {g : JFrame} {mc ms : Nat} (k : W p l e R s m args below meth c H locs cells slots (MQ below Qc args s mc ms free) g) : W p l e R s m args below meth c H locs cells slots (vx_MQ below Qc XC args s mc ms free) g := by
  intro T hT X
  obtain ⟨t, a1, o, b1, b2, b3, b4⟩ := k T hT X
  exact ⟨t, a1, o, b1, b2, Or.inl ⟨b3, b4⟩⟩
/-- not caught here: it goes on to the caller -/
theorem vx_widen {g : JFrame} {q : Addr} {k n : Nat} (h1 : cells ≤ k) (h2 : slots ≤ n) (kk : vx_W p l e R s m args below meth c H locs k n Q g q) : vx_W p l e R s m args below meth c H locs cells slots Q g q := fun T hT X => kk T hT (stand_widen X h1 h2)
theorem vx_out {pc : Nat} {E : String} {ce : Cell} {q : Addr} {mc ms : Nat} (hout : ∀ x ∈ c.exceptionTable.toList, covers x pc = false) (hlocks : meth.locks = false) (hcell : H[q]? = some ce) (hv : ce.vm = .none) (hcl : s.vm.findClass E = some ce.cls)
    (hx : ∀ t : State, t.heap = H → s.vm.Alike t.vm → XC E s t) (hf : ∀ z ∈ locs, free z.base) (hc : cells ≤ mc) (hs : slots ≤ ms) :
    vx_W p l e R s m args below meth c H locs cells slots (vx_MQ below Qc XC args s mc ms free) (F0 m pc ls rest) q := by
  intro T hT X
  obtain ⟨st1, hrun, hend, hW, hsm⟩ := X.leaveThrown q (g := F0 m pc ls rest) rfl rfl rfl hout hlocks
  have hcell9 : (T.setFrames (.throwing q :: below)).heap[q]? = some ce := by
    show T.heap[q]? = some ce
    rw [hT]; exact hcell
  exact ⟨_, st1, .threw q, hrun, hend, Or.inr ⟨q, rfl, E, ce, locs, hx _ hT hW.alike, hcell9, hv, hcl, hW, hsm.mono hc hs, hf⟩⟩
theorem vx_frame {U : State} {k n : Nat} (h : s.sameButNew ({ U with vm := s.vm } : State) locs k n) : s.heap.size ≤ U.heap.size ∧ ∀ q : Nat, q < s.heap.size → (∀ z ∈ locs, z.base ≠ q) → U.heap[q]? = s.heap[q]? := by
  obtain ⟨-, h2, -, -, -, h6⟩ := h
  refine ⟨h2, fun q hq hz => ?_⟩
  obtain ⟨c9, e1, e2, e3, e4⟩ := h6 q _ (Array.getElem?_eq_getElem hq)
  have hs : c9.slots = (s.heap[q]).slots := Array.ext_getElem? fun i => e4 i fun hm => hz _ hm rfl
  have h9 : c9 = s.heap[q] := by
    rw [hs] at e2
    exact e2
  have e5 : U.heap[q]? = some c9 := e1
  rw [e5, h9, Array.getElem?_eq_getElem hq]
/-- the words of a throw but the four that speak of the heap -/
def vx_no (w : Cond) : Bool := decide (w ≠ .isRef (.static Bundle.tN "UNASSIGNED_STACK" Bundle.steD)) && decide (w ≠ .isRef (.static Bundle.tN "SUPPRESSED_SENTINEL" Bundle.listD)) && decide (w ≠ .laysStatic Bundle.tN "UNASSIGNED_STACK" Bundle.steD) && decide (w ≠ .laysStatic Bundle.tN "SUPPRESSED_SENTINEL" Bundle.listD)
def vx_at0 (own : String) (ic : Nat) (X : String) (names : List String) : List Cond := (Bundle.ownAtoms0 own ic X names).filter vx_no
def vx_atS (own : String) (ic : Nat) (X : String) (names : List String) : List Cond := (Bundle.ownAtoms own ic X names).filter vx_no
/-- a word that the tables alone decide, or a good one -/
def vx_ot (w : Cond) : Bool := w.onTables || goodWord w
theorem vx_ot_at {args a' : Array Value} {s U : State} {w : Cond} (hW : s.WarmedH U.vm) (hvm : s.vm = U.vm) (hg : vx_ot w = true) (h : w.before args s = true) : w.before a' U = true := by
  simp only [vx_ot, Bool.or_eq_true] at hg
  rcases hg with hg | hg
  · exact va_tabs hg hvm h
  · exact word_at hW (good_of_word hg) h
/-- a list's words: the good ones out of the method's own list, the others by premises of their own -/
theorem vx_hat {args : Array Value} {s : State} {L B : List Cond} (h1 : ∀ w ∈ L.filter goodWord, w.before args s = true) (h2 : ∀ w ∈ L.filter (fun w => !goodWord w), w ∈ B) (h3 : ∀ w ∈ B, w.before args s = true) : ∀ w ∈ L, w.before args s = true := by
  intro w hw
  by_cases g : goodWord w = true
  · exact h1 w (List.mem_filter.mpr ⟨hw, g⟩)
  · refine h3 w (h2 w (List.mem_filter.mpr ⟨hw, ?_⟩))
    show (!goodWord w) = true
    cases hgw : goodWord w
    · rfl
    · exact absurd hgw g
theorem vx_c {args : Array Value} {s : State} {w : Cond} {B : List Cond} (h : w.before args s = true) (t : ∀ w ∈ B, w.before args s = true) : ∀ w' ∈ w :: B, w'.before args s = true := fun w' h' => (List.mem_cons.mp h').elim (fun e => by rw [e]; exact h) (t w')
theorem vx_n {args : Array Value} {s : State} : ∀ w ∈ ([] : List Cond), w.before args s = true := fun _ h => nomatch h
theorem vx_own {args : Array Value} {s : State} {L : List Cond} (h1 : ∀ w ∈ L.filter vx_no, w.before args s = true)
    (hU : (Cond.isRef (.static Bundle.tN "UNASSIGNED_STACK" Bundle.steD)).before args s = true) (hN : (Cond.isRef (.static Bundle.tN "SUPPRESSED_SENTINEL" Bundle.listD)).before args s = true)
    (lU : (Cond.laysStatic Bundle.tN "UNASSIGNED_STACK" Bundle.steD).before args s = true) (lN : (Cond.laysStatic Bundle.tN "SUPPRESSED_SENTINEL" Bundle.listD).before args s = true) : ∀ w ∈ L, w.before args s = true := by
  intro w hw
  by_cases e1 : w = .isRef (.static Bundle.tN "UNASSIGNED_STACK" Bundle.steD)
  · rw [e1]; exact hU
  · by_cases e2 : w = .isRef (.static Bundle.tN "SUPPRESSED_SENTINEL" Bundle.listD)
    · rw [e2]; exact hN
    · by_cases e3 : w = .laysStatic Bundle.tN "UNASSIGNED_STACK" Bundle.steD
      · rw [e3]; exact lU
      · by_cases e4 : w = .laysStatic Bundle.tN "SUPPRESSED_SENTINEL" Bundle.listD
        · rw [e4]; exact lN
        · exact h1 w (List.mem_filter.mpr ⟨hw, by unfold vx_no; rw [decide_eq_true e1, decide_eq_true e2, decide_eq_true e3, decide_eq_true e4]; rfl⟩)
/-- where a static field lies, its class's statics cell in H -/
def vx_L (C n d : String) (A : Nat → Prop) (U : State) (H : Heap) : Prop := ∃ (c : ClassId) (k : Class) (i : Nat) (f : Field) (a : Nat) (cell : Cell), U.vm.findClass C = some c ∧ U.fieldFound? C n d = some (c, k, i, f) ∧ f.isStatic = true ∧ k.statics = some a ∧ H[a]? = some cell ∧ cell.vm.isStatics = true ∧ cell.cls = c ∧ f.slot < cell.slots.size ∧ k.staticTypes[f.slot]? = some f.type ∧ ¬ A a
theorem vx_L.moved {C n d : String} {A : Nat → Prop} {u U : State} {H : Heap} (hvm : u.vm.Alike U.vm) (h : vx_L C n d A u H) : vx_L C n d A U H := by
  obtain ⟨c, k, i, f, a, cell, h1, h2, h3, h4, h5, h6, h7, h8, h9, h10⟩ := h
  obtain ⟨k', hi', he⟩ := State.fieldFound?_setVm hvm h2
  exact ⟨c, k', i, f, a, cell, by rw [hvm.findClass]; exact h1, hi', h3, by rw [he]; exact h4, h5, h6, h7, h8, by rw [he]; exact h9, h10⟩
theorem vx_L.kept {C n d : String} {A : Nat → Prop} {U : State} {H H1 : Heap} (h : vx_L C n d A U H) (hq : ∀ a : Nat, a < H.size → ¬ A a → H1[a]? = H[a]?) : vx_L C n d A U H1 := by
  obtain ⟨c, k, i, f, a, cell, h1, h2, h3, h4, h5, h6, h7, h8, h9, h10⟩ := h
  exact ⟨c, k, i, f, a, cell, h1, h2, h3, h4, by rw [hq a (Array.getElem?_eq_some_iff.mp h5).1 h10]; exact h5, h6, h7, h8, h9, h10⟩
theorem vx_L.narrow {C n d : String} {A B : Nat → Prop} {U : State} {H : Heap} (h : vx_L C n d A U H) (hAB : ∀ q, B q → A q) : vx_L C n d B U H := by
  obtain ⟨c, k, i, f, a, cell, h1, h2, h3, h4, h5, h6, h7, h8, h9, h10⟩ := h
  exact ⟨c, k, i, f, a, cell, h1, h2, h3, h4, h5, h6, h7, h8, h9, fun z => h10 (hAB _ z)⟩
theorem vx_L.word {C n d : String} {A : Nat → Prop} {s : State} {args : Array Value} (h : vx_L C n d A s s.heap) : (Cond.laysStatic C n d).before args s = true := by
  obtain ⟨c, k, i, f, a, cell, h1, h2, h3, h4, h5, h6, h7, h8, h9, -⟩ := h
  show (Cond.laysStatic C n d).holds args s none s [] = true
  exact Cond.laysStatic_of h1 h2 h3 h4 h5 h6 h7 h8 h9
/-- .. and what it holds: null or some reference -/
def vx_Zq (C n d : String) (A : Nat → Prop) (U : State) (H : Heap) : Prop := va_Zq C n d A U H ∧ vx_L C n d A U H
theorem vx_Zq.moved {C n d : String} {A : Nat → Prop} {u U : State} {H : Heap} (hvm : u.vm.Alike U.vm) (h : vx_Zq C n d A u H) : vx_Zq C n d A U H := ⟨va_Zq.moved hvm h.1, vx_L.moved hvm h.2⟩
theorem vx_Zq.kept {C n d : String} {A : Nat → Prop} {U : State} {H H1 : Heap} (h : vx_Zq C n d A U H) (hq : ∀ a : Nat, a < H.size → ¬ A a → H1[a]? = H[a]?) : vx_Zq C n d A U H1 := ⟨va_Zq.kept h.1 hq, vx_L.kept h.2 hq⟩
theorem vx_Zq.narrow {C n d : String} {A B : Nat → Prop} {U : State} {H : Heap} (h : vx_Zq C n d A U H) (hAB : ∀ q, B q → A q) : vx_Zq C n d B U H := ⟨va_Zq.narrow h.1 hAB, vx_L.narrow h.2 hAB⟩
theorem vx_Zqof {args : Array Value} {s : State} {C n d : String} {A : Nat → Prop} (hl : (Cond.laysStatic C n d).before args s = true) (hini : (Cond.initialized C).before args s = true) (h : (Cond.isRef (.static C n d)).before args s = true) (hA : ∀ a : Nat, a < s.heap.size → ¬ A a) : vx_Zq C n d A s s.heap := by
  refine ⟨va_Zqof hl hini h hA, ?_⟩
  obtain ⟨c, k, i, f, a, cell, h1, h2, h3, h4, h5, h6, h7, h8, h9⟩ := Cond.laysStatic_spec hl
  exact ⟨c, k, i, f, a, cell, h1, h2, h3, h4, h5, h6, h7, h8, h9, hA a (Array.getElem?_eq_some_iff.mp h5).1⟩
theorem vx_isRef {C n d : String} {v : Value} {A : Nat → Prop} {s : State} {args : Array Value} (h : va_Z C n d v A s s.heap) (hv : v.isRef = true) : (Cond.isRef (.static C n d)).before args s = true := by
  obtain ⟨cf, kf, fi, f, a, cell, h1, h2, h3, h4, h5, h6, h7, -⟩ := h
  have he : (Term.static C n d).eval args s none [] s = some v := by
    simp [Term.eval, State.fieldNamed?, h1, h2, h4, h5, h6, h7]
  simp only [Cond.before, Cond.holds, Cond.value, he]
  cases v <;> simp_all [Value.isRef]
theorem vx_isRefq {C n d : String} {A : Nat → Prop} {s : State} {args : Array Value} (h : va_Zq C n d A s s.heap) : (Cond.isRef (.static C n d)).before args s = true := by
  rcases h with h | ⟨t, h⟩
  · exact vx_isRef h rfl
  · exact vx_isRef h rfl
/-- the same frame, seen from here: as if the method were called anew in this heap -/
theorem vx_rebase {T : State} (X : Stand p l e R s m args below meth c T locs cells slots) {R' : Room} (hf : R'.frames ≤ R.frames) (hl : R'.locals ≤ R.locals) (hc : cells + R'.cells ≤ R.cells) (hs : slots + R'.slots ≤ R.slots) :
    Stand p l e R' ((T.setVm s.vm).setFrames (.invoking m args :: below)) m args below meth c T [] 0 0 := by
  have htop : (T.setVm s.vm).topJava?.isSome := X.here.top
  have hF : ((T.setVm s.vm).setFrames (.invoking m args :: below)).frames = .invoking m args :: below := State.frames_setFrames _ (State.cur_lt_of_top htop)
  obtain ⟨g₀, hg0⟩ := Option.isSome_iff_exists.mp htop
  obtain ⟨r, hr⟩ := State.topJava?_eq_some.mp hg0
  have hl9 : e.platform.stackLimits (T.setVm s.vm).me = e.platform.stackLimits s.me := X.limits
  have hb9 : (T.setVm s.vm).me.stackBytes = s.me.stackBytes := X.bytes
  refine ⟨X.admits, X.cas, X.clock, hF, ?_, X.hears, X.method, X.code, X.here, X.tail, X.warmed, ?_, ?_, ?_⟩
  · have h := X.room
    have hU : ((T.setVm s.vm).setFrames (.invoking m args :: below)).localsInUse = s.localsInUse := by
      rw [State.localsInUse_invoking hF (meth := meth) (c := c) X.method X.code, State.localsInUse_invoking X.frames X.method X.code]
    simp only [State.hasRoom, Bool.and_eq_true, decide_eq_true_eq] at h ⊢
    obtain ⟨⟨⟨⟨h1, h2, h3, h4, h5, h6⟩, h7⟩, h8⟩, h9⟩ := h
    rw [X.frames, List.length_cons] at h2 h3
    have q1 := X.heapSize
    have q2 := X.used
    simp only [hF, hU, List.length_cons, State.stackLimits_setFrames, State.stackBytes_setFrames, hl9, hb9]
    refine ⟨⟨⟨⟨by omega, by omega, by omega, by omega, by omega, h6⟩, ?_⟩, ?_⟩, X.book⟩
    · show T.heap.size + R'.cells ≤ e.platform.maxCells
      omega
    · show T.slotsUsed + R'.slots ≤ e.platform.maxSlots
      omega
  · rw [State.stackLimits_setFrames]; rfl
  · rw [State.stackBytes_setFrames]; rfl
  · refine ⟨?_, Nat.le_refl _, Nat.le_refl _, ?_, ?_, fun a c9 h9 => ⟨c9, h9, rfl, rfl, fun _ _ => rfl⟩⟩
    · obtain ⟨t, ht, -⟩ := State.frames_cons hr
      show T.setVm s.vm = { ((T.setVm s.vm).setFrames (.invoking m args :: below)).setFrames (T.setVm s.vm).frames with heap := T.heap, slotsUsed := T.slotsUsed }
      rw [State.setFrames_setFrames, State.setFrames_self ht]
      rfl
    · show T.slotsUsed = T.slotsUsed + ((T.heap.toList.drop T.heap.size).map (·.slots.size)).sum
      rw [List.drop_eq_nil_of_le (Nat.le_of_eq Array.length_toList)]
      rfl
    · show ((T.heap.toList.drop T.heap.size).map (·.slots.size)).sum ≤ 0
      rw [List.drop_eq_nil_of_le (Nat.le_of_eq Array.length_toList)]
      exact Nat.le_refl _
/-- 'throw new E()': new; dup; invokespecial; athrow -/
theorem vx_throw0 {cc : ByteArray} {pc : Nat} (hexec : p.tables.exec = Jvm.exec) (hb : c.code = cc) (hl : l.stackTraces = false) {own cls : String} {names : List String} {ik ic mc ms : Nat} {A : Nat → Prop}
    (hown : s.vm.findClass own = some m.cls) (hcls : Bundle.fit cls = true) (hnames : ∀ n ∈ names, Bundle.fit n = true)
    (hk : (Cond.classLink own ik cls).before args s = true) (hini : (Cond.initialized cls).before args s = true) (hat : ∀ w ∈ vx_at0 own ic cls names, w.before args s = true)
    (hgood : ∀ w ∈ Cond.classLink own ik cls :: Cond.initialized cls :: vx_at0 own ic cls names, vx_ot w = true)
    (hU : vx_Zq Bundle.tN "UNASSIGNED_STACK" Bundle.steD A s s.heap) (hN : vx_Zq Bundle.tN "SUPPRESSED_SENTINEL" Bundle.listD A s s.heap) (hS : va_S A s.heap H locs) (hsize : ls.size = c.maxLocals)
    (d0 : decode cc pc = .ok (.new ik, 3)) (d3 : decode cc (pc + 3) = .ok (.dup, 1)) (d4 : decode cc (pc + 4) = .ok (.invokespecial ic, 3)) (d7 : decode cc (pc + 7) = .ok (.athrow, 1))
    (hout : ∀ x ∈ c.exceptionTable.toList, covers x (pc + 7) = false)
    (hRframes : names.length + 3 < R.frames) (hRlocals : (rest.map fun v => v.category).sum + (13 * (names.length + 1) + 42) ≤ R.locals) (hRcells : cells + 1 ≤ R.cells) (hRslots : slots + 6 ≤ R.slots) (hlocks : meth.locks = false)
    (hx : ∀ t : State, s.vm.Alike t.vm → H.size ≤ t.heap.size → (∀ q : Nat, q < H.size → t.heap[q]? = H[q]?) → XC cls s t)
    (hf : ∀ z ∈ locs, free z.base) (hc : cells + 1 ≤ mc) (hs : slots + 6 ≤ ms) :
    W p l e R s m args below meth c H locs cells slots (vx_MQ below Qc XC args s mc ms free) (F0 m pc ls rest) := by
  intro T hT X
  have htr : e.platform.stackTraces = false := (show e.platform.stackTraces = l.stackTraces by rw [X.admits.platform]).trans hl
  have Y := vx_rebase X (R' := { frames := R.frames, locals := R.locals, cells := 1, slots := 6 }) (Nat.le_refl _) (Nat.le_refl _) hRcells hRslots
  obtain ⟨s', hA⟩ : ∃ z, z = (T.setVm s.vm).setFrames (.invoking m args :: below) := ⟨_, rfl⟩
  rw [← hA] at Y
  have hvm : s'.vm = s.vm := by rw [hA]; rfl
  have hhp : s'.heap = H := by rw [hA]; exact hT
  have hW0 : s.WarmedH s'.vm := by rw [hvm]; exact State.WarmedH.refl s
  have hat' : ∀ w ∈ vx_at0 own ic cls names, w.before args s' = true := fun w hw => vx_ot_at hW0 hvm.symm (hgood w (List.mem_cons_of_mem _ (List.mem_cons_of_mem _ hw))) (hat w hw)
  have hk' : (Cond.classLink own ik cls).before args s' = true := vx_ot_at hW0 hvm.symm (hgood _ List.mem_cons_self) hk
  have hini' : (Cond.initialized cls).before args s' = true := vx_ot_at hW0 hvm.symm (hgood _ (List.mem_cons_of_mem _ List.mem_cons_self)) hini
  have hU' : vx_Zq Bundle.tN "UNASSIGNED_STACK" Bundle.steD A s' s'.heap := by rw [hhp]; exact vx_Zq.moved hW0.alike (hU.kept hS.2.1)
  have hN' : vx_Zq Bundle.tN "SUPPRESSED_SENTINEL" Bundle.listD A s' s'.heap := by rw [hhp]; exact vx_Zq.moved hW0.alike (hN.kept hS.2.1)
  have h : ∀ w ∈ Bundle.ownAtoms0 own ic cls names, w.before args s' = true := vx_own hat' (vx_isRefq hU'.1) (vx_isRefq hN'.1) hU'.2.word hN'.2.word
  have hown' : s'.vm.findClass own = some m.cls := by rw [hvm]; exact hown
  have hins : (Cond.instantiable cls 6).before args s' = true := h _ (by simp [Bundle.ownAtoms0])
  obtain ⟨vm₁, cX, kX, hfX, hkX, -, -, X₁, st1⟩ := Y.newCold hexec (own := own) (C := cls) (index := ik) (n := 6) hown' hk' hins hini'
    (g := F0 m pc ls rest) rfl (by rw [hb]; exact d0) (Nat.le_refl _) (Nat.le_refl _)
  generalize hT1 : (T.setVm vm₁).pushCell { cls := cX, slots := kX.instanceTypes.map defaultValue, vm := .none } = T1 at X₁ st1
  have hcat : (Value.ref T.heap.size).category = 1 := rfl
  have hcellA : T1.heap[T.heap.size]? = some (freshCell cX kX) := by rw [← hT1]; exact State.heap_pushCell_size _ _
  have d3' : decode c.code (pc + 3) = .ok (.dup, 1) := by rw [hb]; exact d3
  obtain ⟨U, hsteps, hrun, hend, hW, hsame, ce, hce, hO⟩ := X₁.ctorThrow0 hexec htr (own := own) (cls := cls) (names := names) (ic := ic) hown' hcls hnames h (fun x hx => nomatch hx) hfX hkX hcellA (by rw [hhp, hT]; exact Nat.le_refl _)
    (g := { method := m, pc := pc + 4, locals := ls, stack := .ref T.heap.size :: .ref T.heap.size :: rest, locked := none }) rfl hsize rfl rfl (rest := rest) rfl
    (by rw [hb]; exact d4) (by rw [hb]; exact d7) hout hRframes (by simp only [List.map_cons, List.sum_cons, hcat]; omega) hlocks
  obtain ⟨f1, f2⟩ := vx_frame hsame
  rw [hhp] at f1 f2
  have hWs : s.WarmedH U.vm := State.WarmedH.trans hW0 hW
  have hcl : s.vm.findClass cls = some ce.cls := by
    have h9 := hO.cls
    rw [hvm] at h9
    exact h9
  have hall : s.sameButNew ({ U with vm := s.vm } : State) locs mc ms := by
    subst hA
    obtain ⟨e1, e2⟩ := hsame
    rw [State.setFrames_setFrames] at e1
    have h2 : (T.setVm s.vm).sameButNew ({ U with vm := s.vm } : State) [] (0 + 1) (0 + 6) := ⟨e1, e2⟩
    have h3 := X.same.trans h2
    rw [List.append_nil] at h3
    exact h3.mono hc hs
  refine ⟨U, ?_, .threw T.heap.size, hrun, hend, Or.inr ⟨T.heap.size, rfl, cls, ce, locs, hx U hWs.alike f1 (fun q hq => f2 q hq (fun z hz => nomatch hz)), hce, hO.vm, hcl, hWs, hall, hf⟩⟩
  refine st1 _ ?_
  show Steps p.tables e below (T1.setTop { method := m, pc := pc + 3, locals := ls, stack := .ref T.heap.size :: rest, locked := none }) _
  jvm_step X₁.here [X₁.here.top, hexec, d3', Value.category]
  exact hsteps
/-- 'throw new E("text")': new; dup; ldc; invokespecial; athrow -/
theorem vx_throwS {cc : ByteArray} {pc : Nat} (hexec : p.tables.exec = Jvm.exec) (hb : c.code = cc) (hl : l.stackTraces = false) {own cls text : String} {names : List String} {ik is ic mc ms sa : Nat} {A : Nat → Prop}
    (hown : s.vm.findClass own = some m.cls) (hcls : Bundle.fit cls = true) (hnames : ∀ n ∈ names, Bundle.fit n = true)
    (hk : (Cond.classLink own ik cls).before args s = true) (hini : (Cond.initialized cls).before args s = true) (hstr : vk_R own is text sa s) (hat : ∀ w ∈ vx_atS own ic cls names, w.before args s = true)
    (hgood : ∀ w ∈ Cond.classLink own ik cls :: Cond.initialized cls :: vx_atS own ic cls names, vx_ot w = true)
    (hU : vx_Zq Bundle.tN "UNASSIGNED_STACK" Bundle.steD A s s.heap) (hN : vx_Zq Bundle.tN "SUPPRESSED_SENTINEL" Bundle.listD A s s.heap) (hS : va_S A s.heap H locs) (hsize : ls.size = c.maxLocals)
    (d0 : decode cc pc = .ok (.new ik, 3)) (d3 : decode cc (pc + 3) = .ok (.dup, 1)) (d4 : decode cc (pc + 4) = .ok (.ldc is, 2)) (d6 : decode cc (pc + 6) = .ok (.invokespecial ic, 3)) (d9 : decode cc (pc + 9) = .ok (.athrow, 1))
    (hout : ∀ x ∈ c.exceptionTable.toList, covers x (pc + 9) = false)
    (hRframes : names.length + 3 < R.frames) (hRlocals : (rest.map fun v => v.category).sum + (13 * (names.length + 1) + 43) ≤ R.locals) (hRcells : cells + 1 ≤ R.cells) (hRslots : slots + 6 ≤ R.slots) (hlocks : meth.locks = false)
    (hx : ∀ t : State, s.vm.Alike t.vm → H.size ≤ t.heap.size → (∀ q : Nat, q < H.size → t.heap[q]? = H[q]?) → XC cls s t)
    (hf : ∀ z ∈ locs, free z.base) (hc : cells + 1 ≤ mc) (hs : slots + 6 ≤ ms) :
    W p l e R s m args below meth c H locs cells slots (vx_MQ below Qc XC args s mc ms free) (F0 m pc ls rest) := by
  intro T hT X
  have htr : e.platform.stackTraces = false := (show e.platform.stackTraces = l.stackTraces by rw [X.admits.platform]).trans hl
  have Y := vx_rebase X (R' := { frames := R.frames, locals := R.locals, cells := 1, slots := 6 }) (Nat.le_refl _) (Nat.le_refl _) hRcells hRslots
  obtain ⟨s', hA⟩ : ∃ z, z = (T.setVm s.vm).setFrames (.invoking m args :: below) := ⟨_, rfl⟩
  rw [← hA] at Y
  have hvm : s'.vm = s.vm := by rw [hA]; rfl
  have hhp : s'.heap = H := by rw [hA]; exact hT
  have hW0 : s.WarmedH s'.vm := by rw [hvm]; exact State.WarmedH.refl s
  have hat' : ∀ w ∈ vx_atS own ic cls names, w.before args s' = true := fun w hw => vx_ot_at hW0 hvm.symm (hgood w (List.mem_cons_of_mem _ (List.mem_cons_of_mem _ hw))) (hat w hw)
  have hk' : (Cond.classLink own ik cls).before args s' = true := vx_ot_at hW0 hvm.symm (hgood _ List.mem_cons_self) hk
  have hini' : (Cond.initialized cls).before args s' = true := vx_ot_at hW0 hvm.symm (hgood _ (List.mem_cons_of_mem _ List.mem_cons_self)) hini
  have hU' : vx_Zq Bundle.tN "UNASSIGNED_STACK" Bundle.steD A s' s'.heap := by rw [hhp]; exact vx_Zq.moved hW0.alike (hU.kept hS.2.1)
  have hN' : vx_Zq Bundle.tN "SUPPRESSED_SENTINEL" Bundle.listD A s' s'.heap := by rw [hhp]; exact vx_Zq.moved hW0.alike (hN.kept hS.2.1)
  have h : ∀ w ∈ Bundle.ownAtoms own ic cls names, w.before args s' = true := vx_own hat' (vx_isRefq hU'.1) (vx_isRefq hN'.1) hU'.2.word hN'.2.word
  have hown' : s'.vm.findClass own = some m.cls := by rw [hvm]; exact hown
  have hins : (Cond.instantiable cls 6).before args s' = true := h _ (by simp [Bundle.ownAtoms])
  obtain ⟨vm₁, cX, kX, hfX, hkX, -, -, X₁, st1⟩ := Y.newCold hexec (own := own) (C := cls) (index := ik) (n := 6) hown' hk' hins hini'
    (g := F0 m pc ls rest) rfl (by rw [hb]; exact d0) (Nat.le_refl _) (Nat.le_refl _)
  generalize hT1 : (T.setVm vm₁).pushCell { cls := cX, slots := kX.instanceTypes.map defaultValue, vm := .none } = T1 at X₁ st1
  have hcat : (Value.ref T.heap.size).category = 1 := rfl
  have hcellA : T1.heap[T.heap.size]? = some (freshCell cX kX) := by rw [← hT1]; exact State.heap_pushCell_size _ _
  have d3' : decode c.code (pc + 3) = .ok (.dup, 1) := by rw [hb]; exact d3
  have d4' : decode c.code (pc + 4) = .ok (.ldc is, 2) := by rw [hb]; exact d4
  have hstr' : vk_R own is text sa s' := vk_R.warm hW0 hstr
  obtain ⟨U, hsteps, hrun, hend, hW, hsame, ce, hce, hO⟩ := X₁.ctorThrowS hexec htr (own := own) (cls := cls) (names := names) (ic := ic) hown' hcls hnames h (fun x hx => nomatch hx) hfX hkX hcellA (by rw [hhp, hT]; exact Nat.le_refl _) (msg := .ref sa) rfl
    (g := { method := m, pc := pc + 6, locals := ls, stack := .ref sa :: .ref T.heap.size :: .ref T.heap.size :: rest, locked := none }) rfl hsize rfl rfl (rest := rest) rfl
    (by rw [hb]; exact d6) (by rw [hb]; exact d9) hout hRframes (by simp only [List.map_cons, List.sum_cons, hcat]; omega) hlocks
  obtain ⟨f1, f2⟩ := vx_frame hsame
  rw [hhp] at f1 f2
  have hWs : s.WarmedH U.vm := State.WarmedH.trans hW0 hW
  have hcl : s.vm.findClass cls = some ce.cls := by
    have h9 := hO.cls
    rw [hvm] at h9
    exact h9
  have hall : s.sameButNew ({ U with vm := s.vm } : State) locs mc ms := by
    subst hA
    obtain ⟨e1, e2⟩ := hsame
    rw [State.setFrames_setFrames] at e1
    have h2 : (T.setVm s.vm).sameButNew ({ U with vm := s.vm } : State) [] (0 + 1) (0 + 6) := ⟨e1, e2⟩
    have h3 := X.same.trans h2
    rw [List.append_nil] at h3
    exact h3.mono hc hs
  refine ⟨U, ?_, .threw T.heap.size, hrun, hend, Or.inr ⟨T.heap.size, rfl, cls, ce, locs, hx U hWs.alike f1 (fun q hq => f2 q hq (fun z hz => nomatch hz)), hce, hO.vm, hcl, hWs, hall, hf⟩⟩
  refine st1 _ ?_
  show Steps p.tables e below (T1.setTop { method := m, pc := pc + 3, locals := ls, stack := .ref T.heap.size :: rest, locked := none }) _
  jvm_step X₁.here [X₁.here.top, hexec, d3', Value.category]
  exact X₁.ldcString hexec (own := own) (text := text) (index := is) (a := sa) hown' hstr'.1 hstr'.2
    (g := { method := m, pc := pc + 4, locals := ls, stack := .ref T.heap.size :: .ref T.heap.size :: rest, locked := none }) rfl d4' _ hsteps
/-- 'throw new E("text")', the text by a wide index -/
theorem vx_throwSW {cc : ByteArray} {pc : Nat} (hexec : p.tables.exec = Jvm.exec) (hb : c.code = cc) (hl : l.stackTraces = false) {own cls text : String} {names : List String} {ik is ic mc ms sa : Nat} {A : Nat → Prop}
    (hown : s.vm.findClass own = some m.cls) (hcls : Bundle.fit cls = true) (hnames : ∀ n ∈ names, Bundle.fit n = true)
    (hk : (Cond.classLink own ik cls).before args s = true) (hini : (Cond.initialized cls).before args s = true) (hstr : vk_R own is text sa s) (hat : ∀ w ∈ vx_atS own ic cls names, w.before args s = true)
    (hgood : ∀ w ∈ Cond.classLink own ik cls :: Cond.initialized cls :: vx_atS own ic cls names, vx_ot w = true)
    (hU : vx_Zq Bundle.tN "UNASSIGNED_STACK" Bundle.steD A s s.heap) (hN : vx_Zq Bundle.tN "SUPPRESSED_SENTINEL" Bundle.listD A s s.heap) (hS : va_S A s.heap H locs) (hsize : ls.size = c.maxLocals)
    (d0 : decode cc pc = .ok (.new ik, 3)) (d3 : decode cc (pc + 3) = .ok (.dup, 1)) (d4 : decode cc (pc + 4) = .ok (.ldc_w is, 3)) (d7 : decode cc (pc + 7) = .ok (.invokespecial ic, 3)) (d10 : decode cc (pc + 10) = .ok (.athrow, 1))
    (hout : ∀ x ∈ c.exceptionTable.toList, covers x (pc + 10) = false)
    (hRframes : names.length + 3 < R.frames) (hRlocals : (rest.map fun v => v.category).sum + (13 * (names.length + 1) + 43) ≤ R.locals) (hRcells : cells + 1 ≤ R.cells) (hRslots : slots + 6 ≤ R.slots) (hlocks : meth.locks = false)
    (hx : ∀ t : State, s.vm.Alike t.vm → H.size ≤ t.heap.size → (∀ q : Nat, q < H.size → t.heap[q]? = H[q]?) → XC cls s t)
    (hf : ∀ z ∈ locs, free z.base) (hc : cells + 1 ≤ mc) (hs : slots + 6 ≤ ms) :
    W p l e R s m args below meth c H locs cells slots (vx_MQ below Qc XC args s mc ms free) (F0 m pc ls rest) := by
  intro T hT X
  have htr : e.platform.stackTraces = false := (show e.platform.stackTraces = l.stackTraces by rw [X.admits.platform]).trans hl
  have Y := vx_rebase X (R' := { frames := R.frames, locals := R.locals, cells := 1, slots := 6 }) (Nat.le_refl _) (Nat.le_refl _) hRcells hRslots
  obtain ⟨s', hA⟩ : ∃ z, z = (T.setVm s.vm).setFrames (.invoking m args :: below) := ⟨_, rfl⟩
  rw [← hA] at Y
  have hvm : s'.vm = s.vm := by rw [hA]; rfl
  have hhp : s'.heap = H := by rw [hA]; exact hT
  have hW0 : s.WarmedH s'.vm := by rw [hvm]; exact State.WarmedH.refl s
  have hat' : ∀ w ∈ vx_atS own ic cls names, w.before args s' = true := fun w hw => vx_ot_at hW0 hvm.symm (hgood w (List.mem_cons_of_mem _ (List.mem_cons_of_mem _ hw))) (hat w hw)
  have hk' : (Cond.classLink own ik cls).before args s' = true := vx_ot_at hW0 hvm.symm (hgood _ List.mem_cons_self) hk
  have hini' : (Cond.initialized cls).before args s' = true := vx_ot_at hW0 hvm.symm (hgood _ (List.mem_cons_of_mem _ List.mem_cons_self)) hini
  have hU' : vx_Zq Bundle.tN "UNASSIGNED_STACK" Bundle.steD A s' s'.heap := by rw [hhp]; exact vx_Zq.moved hW0.alike (hU.kept hS.2.1)
  have hN' : vx_Zq Bundle.tN "SUPPRESSED_SENTINEL" Bundle.listD A s' s'.heap := by rw [hhp]; exact vx_Zq.moved hW0.alike (hN.kept hS.2.1)
  have h : ∀ w ∈ Bundle.ownAtoms own ic cls names, w.before args s' = true := vx_own hat' (vx_isRefq hU'.1) (vx_isRefq hN'.1) hU'.2.word hN'.2.word
  have hown' : s'.vm.findClass own = some m.cls := by rw [hvm]; exact hown
  have hins : (Cond.instantiable cls 6).before args s' = true := h _ (by simp [Bundle.ownAtoms])
  obtain ⟨vm₁, cX, kX, hfX, hkX, -, -, X₁, st1⟩ := Y.newCold hexec (own := own) (C := cls) (index := ik) (n := 6) hown' hk' hins hini'
    (g := F0 m pc ls rest) rfl (by rw [hb]; exact d0) (Nat.le_refl _) (Nat.le_refl _)
  generalize hT1 : (T.setVm vm₁).pushCell { cls := cX, slots := kX.instanceTypes.map defaultValue, vm := .none } = T1 at X₁ st1
  have hcat : (Value.ref T.heap.size).category = 1 := rfl
  have hcellA : T1.heap[T.heap.size]? = some (freshCell cX kX) := by rw [← hT1]; exact State.heap_pushCell_size _ _
  have d3' : decode c.code (pc + 3) = .ok (.dup, 1) := by rw [hb]; exact d3
  have d4' : decode c.code (pc + 4) = .ok (.ldc_w is, 3) := by rw [hb]; exact d4
  have hstr' : vk_R own is text sa s' := vk_R.warm hW0 hstr
  obtain ⟨U, hsteps, hrun, hend, hW, hsame, ce, hce, hO⟩ := X₁.ctorThrowS hexec htr (own := own) (cls := cls) (names := names) (ic := ic) hown' hcls hnames h (fun x hx => nomatch hx) hfX hkX hcellA (by rw [hhp, hT]; exact Nat.le_refl _) (msg := .ref sa) rfl
    (g := { method := m, pc := pc + 7, locals := ls, stack := .ref sa :: .ref T.heap.size :: .ref T.heap.size :: rest, locked := none }) rfl hsize rfl rfl (rest := rest) rfl
    (by rw [hb]; exact d7) (by rw [hb]; exact d10) hout hRframes (by simp only [List.map_cons, List.sum_cons, hcat]; omega) hlocks
  obtain ⟨f1, f2⟩ := vx_frame hsame
  rw [hhp] at f1 f2
  have hWs : s.WarmedH U.vm := State.WarmedH.trans hW0 hW
  have hcl : s.vm.findClass cls = some ce.cls := by
    have h9 := hO.cls
    rw [hvm] at h9
    exact h9
  have hall : s.sameButNew ({ U with vm := s.vm } : State) locs mc ms := by
    subst hA
    obtain ⟨e1, e2⟩ := hsame
    rw [State.setFrames_setFrames] at e1
    have h2 : (T.setVm s.vm).sameButNew ({ U with vm := s.vm } : State) [] (0 + 1) (0 + 6) := ⟨e1, e2⟩
    have h3 := X.same.trans h2
    rw [List.append_nil] at h3
    exact h3.mono hc hs
  refine ⟨U, ?_, .threw T.heap.size, hrun, hend, Or.inr ⟨T.heap.size, rfl, cls, ce, locs, hx U hWs.alike f1 (fun q hq => f2 q hq (fun z hz => nomatch hz)), hce, hO.vm, hcl, hWs, hall, hf⟩⟩
  refine st1 _ ?_
  show Steps p.tables e below (T1.setTop { method := m, pc := pc + 3, locals := ls, stack := .ref T.heap.size :: rest, locked := none }) _
  jvm_step X₁.here [X₁.here.top, hexec, d3', Value.category]
  exact X₁.ldcStringW hexec (own := own) (text := text) (index := is) (a := sa) hown' hstr'.1 hstr'.2
    (g := { method := m, pc := pc + 4, locals := ls, stack := .ref T.heap.size :: .ref T.heap.size :: rest, locked := none }) rfl d4' _ hsteps
end Ends
section Bodies
variable {l : Launch}
theorem vx_ofW {y : MethodName} {ws ws' : List Cond} {rm : Room} {Pc : Array Value → State → Prop} {Qc : Array Value → State → Outcome → State → Prop} {XC : String → State → State → Prop} {mc ms : Nat} {free : Addr → Prop} {cc : ByteArray} {maxL : Nat} {ret : Option FieldType}
    (hy : plainName y.cls = true) (hw : ws = Cond.code y cc maxL ret :: ws')
    (body : ∀ p e s m args below meth c s₁, BodyLoose p l y (headSpec ws rm) cc maxL ret e s m args below meth c s₁ → c.maxLocals = maxL → (∀ x ∈ c.exceptionTable.toList, False) → Pc args s →
      W p l e (headSpec ws rm).room s m args below meth c s.heap [] 0 0 (vx_MQ below Qc XC args s mc ms free) (entryFrame m args maxL)) : vx_Met l y ws rm Pc Qc XC mc ms free := by
  refine MetFree.of_bodyS (code := cc) (maxLocals := maxL) (ret := ret) hy ?_ ?_
  · intro args s m h hn
    obtain ⟨meth, c, h1, h2, h3, h4, h5, h6, -, -⟩ := Cond.code_spec hn (atoms_spec (ws := ws) h _ (by rw [hw]; exact List.mem_cons_self))
    exact ⟨meth, c, h1, h2, h3, h4, h5, h6⟩
  · intro p e s m args below meth c s₁ B hml hP _
    have hh0 : s₁.heap = s.heap := by rw [B.state]; rfl
    have ht : ∀ x ∈ c.exceptionTable.toList, False := by
      obtain ⟨meth9, c9, h1, h2, -, -, -, -, h7, -⟩ := Cond.code_spec B.named (atoms_spec (ws := ws) B.pre _ (by rw [hw]; exact List.mem_cons_self))
      cases Option.some.inj (h1.symm.trans B.method)
      cases Option.some.inj (h2.symm.trans (Stand.of_body B).code)
      intro x hx
      rw [Array.isEmpty_iff.mp h7] at hx
      cases hx
    obtain ⟨t, a1, o, b1, b2, b3⟩ := body p e s m args below meth c s₁ B hml ht hP s₁ hh0 (Stand.of_body B)
    exact ⟨t, o, a1, b1, b2, b3⟩
/-- the table of a body with handlers -/
theorem vx_table {p : Program} {x y : MethodName} {S : Spec} {cc bytes : ByteArray} {maxL maxL' : Nat} {ret ret' : Option FieldType} {e : Env} {s s₁ : State} {m : MethodId} {args : Array Value} {below : List Frame} {meth : Method} {c : Code} {hh : List (Nat × Nat × Nat × Nat)}
    (B : BodyLoose p l y S cc maxL ret e s m args below meth c s₁) (h : (Cond.codeWith y bytes maxL' ret' hh).before args s = true) : c.exceptionTable.toList = tableOf hh := by
  obtain ⟨m9, meth9, c9, hn9, h1, h2, -, -, h6, -⟩ := Cond.codeWith_spec h
  cases Option.some.inj (hn9.symm.trans B.named)
  cases Option.some.inj (h1.symm.trans B.method)
  cases Option.some.inj (h2.symm.trans (Stand.of_body B).code)
  rw [← h6, table_eq]
end Bodies
end VXA
/-! ===== END ===== -/
/-! ===== BEGIN a static call of a method with an exception table ===== -/
section VXS
variable {p : Program} {l : Launch} {e : Env} {R : Room} {s : State} {m : MethodId} {args : Array Value} {below : List Frame} {meth : Method} {c : Code} {T : State} {H : Heap} {locs : List Loc} {cells slots : Nat}
abbrev vx_CSW (R : Room) (s : State) (args : Array Value) (own : String) (index : Nat) (y : MethodName) (bytes : ByteArray) (maxL : Nat) (ret : Option FieldType) (hh : List (Nat × Nat × Nat × Nat)) (ws : List Cond) (rm : Room) (mc ms n : Nat) : Prop :=
  (rm.cells = mc ∧ rm.slots = ms ∧ rm.frames + 1 ≤ R.frames ∧ 8 + (maxL + 11) + rm.locals ≤ R.locals ∧ (∀ w ∈ ws, ∀ (a' : Array Value) (U : State), s.WarmedH U.vm → w.before a' U = true) ∧ Cond.codeWith y bytes maxL ret hh ∈ ws) ∧
  (Cond.codeWith y bytes maxL ret hh).before args s = true ∧ (Cond.initialized y.cls).before args s = true ∧ (y.cls ≠ "java/lang/invoke/MethodHandle" ∧ y.cls ≠ "java/lang/invoke/VarHandle") ∧
  (∀ sig, parseMethodDescriptor y.desc = some sig → n = sig.parameters.length) ∧ (Cond.methodLink own index y).before args s = true ∧ (Cond.static y).before args s = true
theorem vx_cwSW {own : String} {index maxL mc ms : Nat} {y : MethodName} {bytes : ByteArray} {ret : Option FieldType} {hh : List (Nat × Nat × Nat × Nat)} {Ts ws ws' : List Cond} {rm : Room} (n : Nat) (ht : ∀ w ∈ Ts, w.before args s = true) (hT : GoodIn Ts (va_wsS own index y ws)) (hw : ws = Cond.codeWith y bytes maxL ret hh :: ws') (hrc : rm.cells = mc) (hrs : rm.slots = ms)
    (hd : y.cls ≠ "java/lang/invoke/MethodHandle" ∧ y.cls ≠ "java/lang/invoke/VarHandle" ∧ (parseMethodDescriptor y.desc).map (fun d => d.parameters.length) = some n) (hR : rm.frames + 1 ≤ R.frames ∧ 8 + (maxL + 11) + rm.locals ≤ R.locals) :
    vx_CSW R s args own index y bytes maxL ret hh ws rm mc ms n := by
  have ok : ∀ w ∈ va_wsS own index y ws, w.before args s = true := fun w h => ht w (hT w h).1
  have hG : GoodIn Ts ws := fun w h => hT w (by unfold va_wsS; exact List.mem_append_right _ h)
  have hc : Cond.codeWith y bytes maxL ret hh ∈ ws := by rw [hw]; exact List.mem_cons_self
  refine ⟨⟨hrc, hrs, hR.1, hR.2, pay_in ht hG, hc⟩, ht _ (hG _ hc).1, ok _ (by simp [va_wsS]), ⟨hd.1, hd.2.1⟩, fun sig h => ?_, ok _ (by simp [va_wsS]), ok _ (by simp [va_wsS])⟩
  have h2 := hd.2.2
  rw [h] at h2
  exact (Option.some.inj h2).symm
theorem vx_callSW (X : Stand p l e R s m args below meth c T locs cells slots) (hexec : p.tables.exec = Jvm.exec) {own : String} {index : Nat} {y : MethodName} {bytes : ByteArray} {maxL : Nat} {ret : Option FieldType} {hh : List (Nat × Nat × Nat × Nat)}
    (hown : s.vm.findClass own = some m.cls) (hlink : (Cond.methodLink own index y).before args s = true) (hstat : (Cond.static y).before args s = true) (hinit : (Cond.initialized y.cls).before args s = true)
    (hcode : (Cond.codeWith y bytes maxL ret hh).before args s = true) (hy : y.cls ≠ "java/lang/invoke/MethodHandle" ∧ y.cls ≠ "java/lang/invoke/VarHandle")
    {W9 : Nat} {Pre : Pt → Array Value → Prop} {Post : Pt → Array Value → Option Value → Pt → Prop} (hK : Back l R p e below s args y 3 W9 Pre Post)
    {g : JFrame} (hg : g.method = m) (hsize : g.locals.size = c.maxLocals) {argsL rest : List Value} (hlen : ∀ sig, parseMethodDescriptor y.desc = some sig → argsL.length = sig.parameters.length)
    (hstack : g.stack = argsL.reverse ++ rest) (hW : 2 * g.monitorRoom + (rest.map fun v => v.category).sum ≤ W9) (hdg : decode c.code g.pc = .ok (.invokestatic index, 3))
    (hpre : ∀ vm₁, s.WarmedH vm₁ → Pre ⟨T.setVm vm₁, locs, cells, slots⟩ argsL.toArray) :
    ∃ (v : Option Value) (vm₁ : Vm) (B : Pt), s.WarmedH vm₁ ∧ Stand p l e R s m args below meth c B.U B.locs B.cells B.slots ∧ Post ⟨T.setVm vm₁, locs, cells, slots⟩ argsL.toArray v B ∧
      ∀ target, Steps p.tables e below (B.U.setTop { g with pc := g.pc + 3, stack := v.toList ++ rest }) target → Steps p.tables e below (T.setTop g) target := by
  obtain ⟨mk, methM, cM, hnamed, hmethM, -, -, -, -, -, -, hsigM⟩ := Cond.codeWith_spec hcode
  have hstatic : methM.isStatic = true := Cond.static_spec hnamed hmethM hstat
  obtain ⟨kP, hkP, -⟩ := className_of_methodNamed hnamed
  have hinitP : kP.init = .initialized := Cond.initialized_spec (findClass_of_methodNamed hnamed) hkP hinit
  obtain ⟨vm₁, X₁, hstep₁⟩ := X.invokestatic hexec hown hlink hnamed hmethM hstatic hkP hinitP hy (g := g) hg (argsL := argsL) (rest := rest) (hlen _ hsigM) hstack hdg
  obtain ⟨v, B, X', hpost, hsteps⟩ := hK m meth c ⟨T.setVm vm₁, locs, cells, slots⟩ { g with stack := rest } (.invokestatic index) mk argsL.toArray X₁ hg hsize hdg hW (X₁.named hnamed) (hpre vm₁ X₁.warmed)
  exact ⟨v, vm₁, B, X₁.warmed, X', hpost, fun target h => hstep₁ _ fun acts => by rw [doInvoke_state]; exact hsteps.trans h⟩
theorem vx_runSW {y : MethodName} {bytes cc : ByteArray} {maxL nL mc ms n index : Nat} {ret : Option FieldType} {hh : List (Nat × Nat × Nat × Nat)} {ws : List Cond} {rm : Room} {Pc : Array Value → State → Prop} {Qc : Array Value → State → Outcome → State → Prop} {free : Addr → Prop} {Ts : List Cond} {own : String} {As rest : List Value} {g : JFrame}
    (S : CallFix p m c cc nL s args Ts own) (hM : Met l y ws rm Pc Qc mc ms free) (cw : vx_CSW R s args own index y bytes maxL ret hh ws rm mc ms n) (hp : PreS s H Pc As)
    (hg : g.method = m) (hn : As.length = n) (hsize : g.locals.size = nL) (hstack : g.stack = As.reverse ++ rest) (hW : 2 * g.monitorRoom + (rest.map fun v => v.category).sum ≤ 8) (hdg : decode cc g.pc = .ok (.invokestatic index, 3)) (hf : cells + mc ≤ R.cells ∧ slots + ms ≤ R.slots) :
    va_Run p l e R s m args below meth c H locs cells slots mc ms g rest (Qc As.toArray) (free) := by
  obtain ⟨⟨hrc, hrs, hfr, hlo, hws, hcw⟩, hcode, hini, hy, hlen, hl, hstt⟩ := cw
  have hK : Back l R p e below s args y 3 8 (PreOf R mc ms Pc) (PostOf Qc mc ms free) := va_backW (hh := hh) (bytes := bytes) (maxL := maxL) (ret := ret) hM hp.1 hrc hrs hfr hlo hws hcw (fun a' U hW => word_at hW (Or.inl (by first | rfl | simp [Cond.onTables, Cond.keeps, Cond.steady])) hini)
  obtain ⟨hx, hb, hml, ho, -⟩ := S
  intro T hT X
  obtain ⟨v, vm₁, ⟨U', l2, c2, s2⟩, hW₁, X', ⟨g', mk, t, L, e1, e2, hq, h1, hL, h2, h3⟩, st⟩ := vx_callSW X hx (hh := hh) (bytes := bytes) (maxL := maxL) (ret := ret) ho hl hstt hini hcode hy hK hg (hsize.trans hml.symm) (argsL := As) (rest := rest) (fun sig h => hn.trans (hlen sig h)) hstack hW (by rw [hb]; exact hdg)
    (fun vm₁ hW₁ => ⟨hf.1, hf.2, hp.2 (T.setVm vm₁) hT hW₁⟩)
  dsimp only [Pt.U, Pt.locs, Pt.cells, Pt.slots] at X' e1 e2 h1 h2 h3 st
  subst h1; subst h2; subst h3
  exact ⟨v, (T.setVm vm₁).calling g' mk As.toArray, t, U', L, hT, X', hL, e1, e2, hq, st⟩
/-- not caught here, past rows that name other classes: it goes on to the caller -/
theorem vx_outP {p : Program} {l : Launch} {e : Env} {R : Room} {s : State} {m : MethodId} {args : Array Value} {below : List Frame} {meth : Method} {c : Code} {H : Heap} {locs : List Loc} {cells slots : Nat} {free : Addr → Prop} {ls : Array Slot} {rest : List Value} {Qc : Array Value → State → Outcome → State → Prop} {XC : String → State → State → Prop}
    {pc : Nat} {own E : String} {ce : Cell} {q : Addr} {mc ms : Nat} (hown : s.vm.findClass own = some m.cls) (hlocks : meth.locks = false)
    (hpass : ∀ z ∈ c.exceptionTable.toList, covers z pc = false ∨ (z.catchType ≠ 0 ∧ ∃ nm : String, (Cond.classLink own z.catchType nm).before args s = true ∧ va_Nc E nm s)) (hcell : H[q]? = some ce) (hv : ce.vm = .none) (hcl : s.vm.findClass E = some ce.cls)
    (hx : ∀ t : State, t.heap = H → s.vm.Alike t.vm → XC E s t) (hf : ∀ z ∈ locs, free z.base) (hc : cells ≤ mc) (hs : slots ≤ ms) :
    vx_W p l e R s m args below meth c H locs cells slots (vx_MQ below Qc XC args s mc ms free) (F0 m pc ls rest) q := by
  intro T hT X
  have hpl : e.platform.magicAccessors = ({} : Platform).magicAccessors := by rw [X.admits.platform]
  obtain ⟨vm', hW', X', st⟩ := X.outThrough hlocks q (g := F0 m pc ls rest) rfl rfl rfl (cell := ce) (by rw [hT]; exact hcell) (by rw [hv]; rfl)
    (by obtain ⟨k9, h9, -⟩ := Vm.findClass_spec hcl; exact ⟨k9, h9⟩) (fun z hz => by
      rcases hpass z hz with h | ⟨hz0, nm, hl1, hn1⟩
      · exact Or.inl h
      · obtain ⟨c6, hc6, hcl6⟩ := Cond.classLink_spec hown hl1 e.platform hpl
        obtain ⟨a8, b8, h1, h2, h3⟩ := hn1
        cases Option.some.inj (h1.symm.trans hcl)
        cases Option.some.inj (h2.symm.trans hc6)
        exact Or.inr ⟨hz0, _, hcl6, h3⟩)
  obtain ⟨g₀, hfr⟩ := X'.frames_eq
  have hcell9 : ((T.setVm vm').setFrames (.throwing q :: below)).heap[q]? = some ce := by
    show T.heap[q]? = some ce
    rw [hT]; exact hcell
  have hend : Ended ((T.setVm vm').setFrames (.throwing q :: below)) below (.threw q) := State.frames_setFrames _ (State.cur_lt_of_frames hfr)
  refine ⟨(T.setVm vm').setFrames (.throwing q :: below), ?_, .threw q, X'.here.running, hend, Or.inr ⟨q, rfl, E, ce, locs, hx _ hT (X'.ends _).1.alike, hcell9, hv, hcl, (X'.ends _).1, (X'.ends _).2.mono hc hs, hf⟩⟩
  rw [X.pushThrowing_eq]
  exact st
/-- a thing of a world lies in the heap -/
theorem vx_lt {D : va_G} {cl : List vw_C} {ws : va_W} {H1 : Heap} (h : va_P D cl ws H1) {k : Nat} {q : Nat × va_E} (hk : ws[k]? = some q) : q.1 < H1.size := (h k q hk).lt
end VXS
/-! ===== END ===== -/
/-! ===== BEGIN methods with a table of their own: called by a name, returning or throwing ===== -/
section VXH
/-! vx_backW, vx_callVX, vx_callSX, vx_callVW, vx_runVW, vx_runVX, vx_runSX, vx_ofWH follow the same proofs as their sisters above (Free/Laws.lean, Shelf42/LK1.lean); vx_outP calls Shelf42/NT130.lean (outThrough). -/
section
variable {l : Launch} {R : Room} {p : Program} {e : Env} {below : List Frame} {s : State} {sargs : Array Value} {y : MethodName} {len W9 : Nat}
theorem vx_backW {ws : List Cond} {rm : Room} {Pc : Array Value → State → Prop} {Qc : Array Value → State → Outcome → State → Prop} {XC : String → State → State → Prop} {mc ms : Nat} {free : Addr → Prop} {bytes : ByteArray} {maxL : Nat} {ret : Option FieldType} {hh : List (Nat × Nat × Nat × Nat)}
    (hM : vx_Met l y ws rm Pc Qc XC mc ms free) (hblind : FrameBlind Pc) (hrc : rm.cells = mc) (hrs : rm.slots = ms)
    (hframes : rm.frames + 1 ≤ R.frames) (hlocals : W9 + (maxL + 11) + rm.locals ≤ R.locals)
    (hws : ∀ w ∈ ws, ∀ a' U, s.WarmedH U.vm → w.before a' U = true) (hcode : Cond.codeWith y bytes maxL ret hh ∈ ws) (hinit : ∀ a' U, s.WarmedH U.vm → (Cond.initialized y.cls).before a' U = true) :
    vx_Back l R p e below s sargs y len W9 (PreOf R mc ms Pc) (PostOf Qc mc ms free) (vx_Post XC mc ms free) := by
  intro m meth c A g ig mk a X hg hsize hdg hW hn hp
  have h1 : (headSpec ws rm).pre.before a A.U = true := atoms_intro fun w hw => hws w hw _ _ X.warmed
  have h2 : (Cond.codeWith y bytes maxL ret hh).before a A.U = true := hws _ hcode _ _ X.warmed
  have h3 : (Cond.initialized y.cls).before a A.U = true := hinit _ _ X.warmed
  have h4 : A.cells + (headSpec ws rm).room.cells ≤ R.cells := by rw [show (headSpec ws rm).room.cells = mc from hrc]; exact hp.1
  have h5 : A.slots + (headSpec ws rm).room.slots ≤ R.slots := by rw [show (headSpec ws rm).room.slots = ms from hrs]; exact hp.2.1
  have hPc : Pc a (A.U.calling g mk a) := hblind _ _ _ _ hp.2.2
  obtain ⟨U, Ls, c0, s0⟩ := A
  dsimp only [Pt.U, Pt.locs, Pt.cells, Pt.slots] at h1 h2 h3 h4 h5 X hn hPc ⊢
  obtain ⟨m9, methY, cY, hn9, hmY, hcY, -, hlY, -⟩ := Cond.codeWith_spec h2
  cases Option.some.inj (hn9.symm.trans hn)
  obtain ⟨kY, hkY, -⟩ := className_of_methodNamed hn
  have hinitY : kY.init = .initialized := Cond.initialized_spec (findClass_of_methodNamed hn) hkY h3
  have h : At U g.method c below := by rw [hg]; exact X.here
  have hlocals9 : W9 + (maxL + 11) + (headSpec ws rm).room.locals ≤ R.locals := hlocals
  have happ : (headSpec ws rm).appliesLoose y e.platform (U.calling g mk a) = true :=
    Spec.appliesLoose_calling (g := g) h hdg hn hkY hinitY
      (X.room_calling (g := g) (R' := (headSpec ws rm).room) hsize hmY hcY hframes (by rw [hlY]; omega) h4 h5) h1
  obtain ⟨mid, hmid⟩ := h.above
  have hfr : (U.setTop g).frames = (.java g :: mid) ++ below := by rw [State.frames_setTop' g h.top, hmid]; rfl
  obtain ⟨o, s₂, hsteps, -, hend, hq⟩ := Steps.callFree hM p X.admits X.cas X.clock (acts := []) hfr happ hPc trivial
  have hq' : vx_Q Qc XC mc ms free a (U.calling g mk a) o s₂ := hq
  rw [State.frames_setTop' g h.top] at hend
  obtain ⟨g₀, hg0⟩ := Option.isSome_iff_exists.mp h.top
  obtain ⟨r, hr⟩ := State.topJava?_eq_some.mp hg0
  have hr' : (({ U with heap := s₂.heap, slotsUsed := s₂.slotsUsed } : State).setVm s₂.vm).frames = .java g₀ :: r := hr
  rcases hq' with ⟨hqc, L, hfe, hL⟩ | ⟨q, rfl, E, ce, L, hx, hce, hcv, hcl, hW₂, hsm, hL⟩
  · obtain ⟨⟨v, rfl⟩, hW₂, e2, q2, q3, q4, q5, q6⟩ := id hfe
    have e3 : s₂ = ({ (U.calling g mk a).setFrames s₂.frames with heap := s₂.heap, slotsUsed := s₂.slotsUsed } : State).setVm s₂.vm := by
      have : s₂ = ({ s₂ with vm := (U.calling g mk a).vm } : State).setVm s₂.vm := rfl
      rw [e2] at this
      exact this
    obtain ⟨c₂, i₂, len₂, hc₂, hd₂, hf₂⟩ := hend
    have hW' : U.WarmedH s₂.vm := hW₂
    have hcc : c₂ = c := by
      have h1 : s₂.code? g.method = U.code? g.method := by
        rw [State.code?_eq, State.code?_eq, hW'.alike.method?]
      exact Option.some.inj (hc₂.symm.trans (h1.trans h.code))
    subst hcc
    have hlen : len₂ = len := by rw [hdg] at hd₂; cases hd₂; rfl
    subst hlen
    have hs₂ : s₂ = (({ U with heap := s₂.heap, slotsUsed := s₂.slotsUsed } : State).setVm s₂.vm).setTop { g with pc := g.pc + len₂, stack := v.toList ++ g.stack } := by
      refine e3.trans ?_
      rw [hf₂, State.calling_eq h.top, State.setFrames_setFrames, State.setTop_of_frames _ hr', hr]
      rfl
    have hsame : U.sameButNew ({ U with heap := s₂.heap, slotsUsed := s₂.slotsUsed } : State) L mc ms := by
      refine ⟨?_, q2, q3, q4, q5, q6⟩
      obtain ⟨t, ht, -⟩ := State.frames_cons hr
      show ({ U with heap := s₂.heap, slotsUsed := s₂.slotsUsed } : State) = { U.setFrames U.frames with heap := s₂.heap, slotsUsed := s₂.slotsUsed }
      rw [State.setFrames_self ht]
    subst hg
    refine Or.inl ⟨v, ⟨(({ U with heap := s₂.heap, slotsUsed := s₂.slotsUsed } : State).setVm s₂.vm), Ls ++ L, c0 + mc, s0 + ms⟩,
      ⟨X.admits, X.cas, X.clock, X.frames, X.room, X.hears, X.method, X.code, (X.here.setHeapUsed s₂.heap s₂.slotsUsed).setVm hW'.alike, X.tail, State.WarmedH.trans X.warmed hW', X.limits, X.bytes, X.same.trans (hsame.setVm s.vm)⟩,
      ⟨g, mk, s₂, L, rfl, rfl, hqc, rfl, hL, rfl, rfl⟩, ?_⟩
    show Steps p.tables e below _ ((({ U with heap := s₂.heap, slotsUsed := s₂.slotsUsed } : State).setVm s₂.vm).setTop { g with pc := g.pc + len₂, stack := v.toList ++ g.stack })
    rw [← hs₂]
    exact hsteps
  · obtain ⟨e2, q2, q3, q4, q5, q6⟩ := id hsm
    have e3 : s₂ = ({ (U.calling g mk a).setFrames s₂.frames with heap := s₂.heap, slotsUsed := s₂.slotsUsed } : State).setVm s₂.vm := by
      have : s₂ = ({ s₂ with vm := (U.calling g mk a).vm } : State).setVm s₂.vm := rfl
      rw [e2] at this
      exact this
    have hf₂ : s₂.frames = .throwing q :: .java g :: U.frames.tail := hend
    have hW' : U.WarmedH s₂.vm := hW₂
    have hs₂ : s₂ = ((({ U with heap := s₂.heap, slotsUsed := s₂.slotsUsed } : State).setVm s₂.vm).setTop g).pushFrame (.throwing q) := by
      refine e3.trans ?_
      rw [hf₂, State.calling_eq h.top, State.setFrames_setFrames, State.pushFrame, State.frames_setTop _ hr', State.setTop_of_frames _ hr', State.setFrames_setFrames, hr]
      rfl
    have hsame : U.sameButNew ({ U with heap := s₂.heap, slotsUsed := s₂.slotsUsed } : State) L mc ms := by
      refine ⟨?_, q2, q3, q4, q5, q6⟩
      obtain ⟨t, ht, -⟩ := State.frames_cons hr
      show ({ U with heap := s₂.heap, slotsUsed := s₂.slotsUsed } : State) = { U.setFrames U.frames with heap := s₂.heap, slotsUsed := s₂.slotsUsed }
      rw [State.setFrames_self ht]
    subst hg
    refine Or.inr ⟨q, ⟨(({ U with heap := s₂.heap, slotsUsed := s₂.slotsUsed } : State).setVm s₂.vm), Ls ++ L, c0 + mc, s0 + ms⟩,
      ⟨X.admits, X.cas, X.clock, X.frames, X.room, X.hears, X.method, X.code, (X.here.setHeapUsed s₂.heap s₂.slotsUsed).setVm hW'.alike, X.tail, State.WarmedH.trans X.warmed hW', X.limits, X.bytes, X.same.trans (hsame.setVm s.vm)⟩,
      ⟨g, mk, s₂, L, E, ce, rfl, rfl, hx, hce, hcv, hcl, rfl, hL, rfl, rfl⟩, ?_⟩
    show Steps p.tables e below _ (((({ U with heap := s₂.heap, slotsUsed := s₂.slotsUsed } : State).setVm s₂.vm).setTop g).pushFrame (.throwing q))
    rw [← hs₂]
    exact hsteps
end
variable {p : Program} {l : Launch} {e : Env} {R : Room} {s : State} {m : MethodId} {args : Array Value} {below : List Frame} {meth : Method} {c : Code} {T : State} {H : Heap} {locs : List Loc} {cells slots : Nat}
theorem vx_callVX (X : Stand p l e R s m args below meth c T locs cells slots) (hexec : p.tables.exec = Jvm.exec) {own C : String} {index : Nat} {y : MethodName} {bytes : ByteArray} {maxL : Nat} {ret : Option FieldType} {hh : List (Nat × Nat × Nat × Nat)}
    (hown : s.vm.findClass own = some m.cls) (hlink : (Cond.methodLink own index y).before args s = true) (hinst : (Cond.instanceMethod y).before args s = true) (hsel : (Cond.selects C y y).before args s = true)
    (hcode : (Cond.codeWith y bytes maxL ret hh).before args s = true) (hy : y.cls ≠ "java/lang/invoke/MethodHandle" ∧ y.cls ≠ "java/lang/invoke/VarHandle")
    {W9 : Nat} {Pre : Pt → Array Value → Prop} {Post : Pt → Array Value → Option Value → Pt → Prop} {PostX : Pt → Array Value → Addr → Pt → Prop} (hK : vx_Back l R p e below s args y 3 W9 Pre Post PostX)
    {b : Addr} {cellB : Cell} (hcell : T.heap[b]? = some cellB) (hobj : cellB.vm.isStatics = false) (hcls : s.vm.findClass C = some cellB.cls)
    {g : JFrame} (hg : g.method = m) (hsize : g.locals.size = c.maxLocals) {argsL rest : List Value} (hlen : ∀ sig, parseMethodDescriptor y.desc = some sig → argsL.length = sig.parameters.length)
    (hstack : g.stack = argsL.reverse ++ .ref b :: rest) (hW : 2 * g.monitorRoom + (rest.map fun v => v.category).sum ≤ W9) (hdg : decode c.code g.pc = .ok (.invokevirtual index, 3))
    (hpre : ∀ vm₁, s.WarmedH vm₁ → Pre ⟨T.setVm vm₁, locs, cells, slots⟩ (Value.ref b :: argsL).toArray) :
    (∃ (v : Option Value) (vm₁ : Vm) (B : Pt), s.WarmedH vm₁ ∧ Stand p l e R s m args below meth c B.U B.locs B.cells B.slots ∧ Post ⟨T.setVm vm₁, locs, cells, slots⟩ (Value.ref b :: argsL).toArray v B ∧
      ∀ target, Steps p.tables e below (B.U.setTop { g with pc := g.pc + 3, stack := v.toList ++ rest }) target → Steps p.tables e below (T.setTop g) target) ∨
    (∃ (q : Addr) (vm₁ : Vm) (B : Pt), s.WarmedH vm₁ ∧ Stand p l e R s m args below meth c B.U B.locs B.cells B.slots ∧ PostX ⟨T.setVm vm₁, locs, cells, slots⟩ (Value.ref b :: argsL).toArray q B ∧
      Steps p.tables e below (T.setTop g) ((B.U.setTop { g with stack := rest }).pushFrame (.throwing q))) := by
  obtain ⟨mk, methM, hnamed, hmethM, hstM, habM⟩ := Cond.instanceMethod_spec hinst
  obtain ⟨m8, methM', cM, hn8, hmethM', -, -, -, -, -, -, hsigM⟩ := Cond.codeWith_spec hcode
  cases Option.some.inj (hn8.symm.trans hnamed)
  cases hmethM.symm.trans hmethM'
  obtain ⟨c2, r2, m2, q1, q2, q3, q4, kP, hkP, hkPi⟩ := Cond.selects_spec hsel
  cases hcls.symm.trans q1
  cases (State.methodFound?_of_named hnamed hy).symm.trans q2
  cases hnamed.symm.trans q3
  have hselP : selectMethod e.platform s.vm cellB.cls mk = .method mk := by rw [Launch.admits_selectMethod X.admits]; exact q4
  obtain ⟨vm₁, X₁, hstep₁⟩ := X.invokevirtual hexec hown hlink hnamed hmethM hstM hkP hkPi hy (a := b) (cell := cellB) hcell
    (fun z h => by rw [h] at hobj; cases hobj) hselP hmethM habM hkP hkPi (g := g) hg (argsL := argsL) (rest := rest) (hlen _ hsigM) hstack hdg
  rcases hK m meth c ⟨T.setVm vm₁, locs, cells, slots⟩ { g with stack := rest } (.invokevirtual index) mk (Value.ref b :: argsL).toArray X₁ hg hsize hdg hW (X₁.named hnamed) (hpre vm₁ X₁.warmed) with ⟨v, B, X', hpost, hsteps⟩ | ⟨q, B, X', hpost, hsteps⟩
  · exact Or.inl ⟨v, vm₁, B, X₁.warmed, X', hpost, fun target h => hstep₁ _ fun acts => by rw [doInvoke_state]; exact hsteps.trans h⟩
  · exact Or.inr ⟨q, vm₁, B, X₁.warmed, X', hpost, hstep₁ _ fun acts => by rw [doInvoke_state]; exact hsteps⟩
theorem vx_callSX (X : Stand p l e R s m args below meth c T locs cells slots) (hexec : p.tables.exec = Jvm.exec) {own : String} {index : Nat} {y : MethodName} {bytes : ByteArray} {maxL : Nat} {ret : Option FieldType} {hh : List (Nat × Nat × Nat × Nat)}
    (hown : s.vm.findClass own = some m.cls) (hlink : (Cond.methodLink own index y).before args s = true) (hstat : (Cond.static y).before args s = true) (hinit : (Cond.initialized y.cls).before args s = true)
    (hcode : (Cond.codeWith y bytes maxL ret hh).before args s = true) (hy : y.cls ≠ "java/lang/invoke/MethodHandle" ∧ y.cls ≠ "java/lang/invoke/VarHandle")
    {W9 : Nat} {Pre : Pt → Array Value → Prop} {Post : Pt → Array Value → Option Value → Pt → Prop} {PostX : Pt → Array Value → Addr → Pt → Prop} (hK : vx_Back l R p e below s args y 3 W9 Pre Post PostX)
    {g : JFrame} (hg : g.method = m) (hsize : g.locals.size = c.maxLocals) {argsL rest : List Value} (hlen : ∀ sig, parseMethodDescriptor y.desc = some sig → argsL.length = sig.parameters.length)
    (hstack : g.stack = argsL.reverse ++ rest) (hW : 2 * g.monitorRoom + (rest.map fun v => v.category).sum ≤ W9) (hdg : decode c.code g.pc = .ok (.invokestatic index, 3))
    (hpre : ∀ vm₁, s.WarmedH vm₁ → Pre ⟨T.setVm vm₁, locs, cells, slots⟩ argsL.toArray) :
    (∃ (v : Option Value) (vm₁ : Vm) (B : Pt), s.WarmedH vm₁ ∧ Stand p l e R s m args below meth c B.U B.locs B.cells B.slots ∧ Post ⟨T.setVm vm₁, locs, cells, slots⟩ argsL.toArray v B ∧
      ∀ target, Steps p.tables e below (B.U.setTop { g with pc := g.pc + 3, stack := v.toList ++ rest }) target → Steps p.tables e below (T.setTop g) target) ∨
    (∃ (q : Addr) (vm₁ : Vm) (B : Pt), s.WarmedH vm₁ ∧ Stand p l e R s m args below meth c B.U B.locs B.cells B.slots ∧ PostX ⟨T.setVm vm₁, locs, cells, slots⟩ argsL.toArray q B ∧
      Steps p.tables e below (T.setTop g) ((B.U.setTop { g with stack := rest }).pushFrame (.throwing q))) := by
  obtain ⟨mk, methM, cM, hnamed, hmethM, -, -, -, -, -, -, hsigM⟩ := Cond.codeWith_spec hcode
  have hstatic : methM.isStatic = true := Cond.static_spec hnamed hmethM hstat
  obtain ⟨kP, hkP, -⟩ := className_of_methodNamed hnamed
  have hinitP : kP.init = .initialized := Cond.initialized_spec (findClass_of_methodNamed hnamed) hkP hinit
  obtain ⟨vm₁, X₁, hstep₁⟩ := X.invokestatic hexec hown hlink hnamed hmethM hstatic hkP hinitP hy (g := g) hg (argsL := argsL) (rest := rest) (hlen _ hsigM) hstack hdg
  rcases hK m meth c ⟨T.setVm vm₁, locs, cells, slots⟩ { g with stack := rest } (.invokestatic index) mk argsL.toArray X₁ hg hsize hdg hW (X₁.named hnamed) (hpre vm₁ X₁.warmed) with ⟨v, B, X', hpost, hsteps⟩ | ⟨q, B, X', hpost, hsteps⟩
  · exact Or.inl ⟨v, vm₁, B, X₁.warmed, X', hpost, fun target h => hstep₁ _ fun acts => by rw [doInvoke_state]; exact hsteps.trans h⟩
  · exact Or.inr ⟨q, vm₁, B, X₁.warmed, X', hpost, hstep₁ _ fun acts => by rw [doInvoke_state]; exact hsteps⟩
theorem vx_callVW (X : Stand p l e R s m args below meth c T locs cells slots) (hexec : p.tables.exec = Jvm.exec) {own C : String} {index : Nat} {y : MethodName} {bytes : ByteArray} {maxL : Nat} {ret : Option FieldType} {hh : List (Nat × Nat × Nat × Nat)}
    (hown : s.vm.findClass own = some m.cls) (hlink : (Cond.methodLink own index y).before args s = true) (hinst : (Cond.instanceMethod y).before args s = true) (hsel : (Cond.selects C y y).before args s = true)
    (hcode : (Cond.codeWith y bytes maxL ret hh).before args s = true) (hy : y.cls ≠ "java/lang/invoke/MethodHandle" ∧ y.cls ≠ "java/lang/invoke/VarHandle")
    {W9 : Nat} {Pre : Pt → Array Value → Prop} {Post : Pt → Array Value → Option Value → Pt → Prop} (hK : Back l R p e below s args y 3 W9 Pre Post)
    {b : Addr} {cellB : Cell} (hcell : T.heap[b]? = some cellB) (hobj : cellB.vm.isStatics = false) (hcls : s.vm.findClass C = some cellB.cls)
    {g : JFrame} (hg : g.method = m) (hsize : g.locals.size = c.maxLocals) {argsL rest : List Value} (hlen : ∀ sig, parseMethodDescriptor y.desc = some sig → argsL.length = sig.parameters.length)
    (hstack : g.stack = argsL.reverse ++ .ref b :: rest) (hW : 2 * g.monitorRoom + (rest.map fun v => v.category).sum ≤ W9) (hdg : decode c.code g.pc = .ok (.invokevirtual index, 3))
    (hpre : ∀ vm₁, s.WarmedH vm₁ → Pre ⟨T.setVm vm₁, locs, cells, slots⟩ (Value.ref b :: argsL).toArray) :
    ∃ (v : Option Value) (vm₁ : Vm) (B : Pt), s.WarmedH vm₁ ∧ Stand p l e R s m args below meth c B.U B.locs B.cells B.slots ∧ Post ⟨T.setVm vm₁, locs, cells, slots⟩ (Value.ref b :: argsL).toArray v B ∧
      ∀ target, Steps p.tables e below (B.U.setTop { g with pc := g.pc + 3, stack := v.toList ++ rest }) target → Steps p.tables e below (T.setTop g) target := by
  obtain ⟨mk, methM, hnamed, hmethM, hstM, habM⟩ := Cond.instanceMethod_spec hinst
  obtain ⟨m8, methM', cM, hn8, hmethM', -, -, -, -, -, -, hsigM⟩ := Cond.codeWith_spec hcode
  cases Option.some.inj (hn8.symm.trans hnamed)
  cases hmethM.symm.trans hmethM'
  obtain ⟨c2, r2, m2, q1, q2, q3, q4, kP, hkP, hkPi⟩ := Cond.selects_spec hsel
  cases hcls.symm.trans q1
  cases (State.methodFound?_of_named hnamed hy).symm.trans q2
  cases hnamed.symm.trans q3
  have hselP : selectMethod e.platform s.vm cellB.cls mk = .method mk := by rw [Launch.admits_selectMethod X.admits]; exact q4
  obtain ⟨vm₁, X₁, hstep₁⟩ := X.invokevirtual hexec hown hlink hnamed hmethM hstM hkP hkPi hy (a := b) (cell := cellB) hcell
    (fun z h => by rw [h] at hobj; cases hobj) hselP hmethM habM hkP hkPi (g := g) hg (argsL := argsL) (rest := rest) (hlen _ hsigM) hstack hdg
  obtain ⟨v, B, X', hpost, hsteps⟩ := hK m meth c ⟨T.setVm vm₁, locs, cells, slots⟩ { g with stack := rest } (.invokevirtual index) mk (Value.ref b :: argsL).toArray X₁ hg hsize hdg hW (X₁.named hnamed) (hpre vm₁ X₁.warmed)
  exact ⟨v, vm₁, B, X₁.warmed, X', hpost, fun target h => hstep₁ _ fun acts => by rw [doInvoke_state]; exact hsteps.trans h⟩
abbrev vx_CVW (R : Room) (s : State) (args : Array Value) (own C : String) (index : Nat) (y : MethodName) (bytes : ByteArray) (maxL : Nat) (ret : Option FieldType) (hh : List (Nat × Nat × Nat × Nat)) (ws : List Cond) (rm : Room) (mc ms n : Nat) : Prop :=
  (rm.cells = mc ∧ rm.slots = ms ∧ rm.frames + 1 ≤ R.frames ∧ 8 + (maxL + 11) + rm.locals ≤ R.locals ∧ (∀ w ∈ ws, ∀ (a' : Array Value) (U : State), s.WarmedH U.vm → w.before a' U = true) ∧ Cond.codeWith y bytes maxL ret hh ∈ ws) ∧
  (Cond.codeWith y bytes maxL ret hh).before args s = true ∧ (Cond.initialized y.cls).before args s = true ∧ (y.cls ≠ "java/lang/invoke/MethodHandle" ∧ y.cls ≠ "java/lang/invoke/VarHandle") ∧
  (∀ sig, parseMethodDescriptor y.desc = some sig → n = sig.parameters.length) ∧ (Cond.methodLink own index y).before args s = true ∧ (Cond.instanceMethod y).before args s = true ∧ (Cond.selects C y y).before args s = true
theorem vx_cwVW {own C : String} {index maxL mc ms : Nat} {y : MethodName} {bytes : ByteArray} {ret : Option FieldType} {hh : List (Nat × Nat × Nat × Nat)} {Ts ws ws' : List Cond} {rm : Room} (n : Nat) (ht : ∀ w ∈ Ts, w.before args s = true) (hT : GoodIn Ts (wsV own index C y ws)) (hw : ws = Cond.codeWith y bytes maxL ret hh :: ws') (hrc : rm.cells = mc) (hrs : rm.slots = ms)
    (hd : y.cls = C ∧ y.cls ≠ "java/lang/invoke/MethodHandle" ∧ y.cls ≠ "java/lang/invoke/VarHandle" ∧ (parseMethodDescriptor y.desc).map (fun d => d.parameters.length) = some n) (hR : rm.frames + 1 ≤ R.frames ∧ 8 + (maxL + 11) + rm.locals ≤ R.locals) :
    vx_CVW R s args own C index y bytes maxL ret hh ws rm mc ms n := by
  obtain ⟨hC, hd⟩ := hd
  subst hC
  have ok : ∀ w ∈ wsV own index y.cls y ws, w.before args s = true := fun w h => ht w (hT w h).1
  have hG : GoodIn Ts ws := fun w h => hT w (by unfold wsV; exact List.mem_append_right _ h)
  have hc : Cond.codeWith y bytes maxL ret hh ∈ ws := by rw [hw]; exact List.mem_cons_self
  refine ⟨⟨hrc, hrs, hR.1, hR.2, pay_in ht hG, hc⟩, ht _ (hG _ hc).1, ok _ (by simp [wsV]), ⟨hd.1, hd.2.1⟩, fun sig h => ?_, ok _ (by simp [wsV]), ok _ (by simp [wsV]), ok _ (by simp [wsV])⟩
  have h2 := hd.2.2
  rw [h] at h2
  exact (Option.some.inj h2).symm
theorem vx_runVW {y : MethodName} {bytes cc : ByteArray} {maxL nL mc ms n index : Nat} {ret : Option FieldType} {hh : List (Nat × Nat × Nat × Nat)} {ws : List Cond} {rm : Room} {Pc : Array Value → State → Prop} {Qc : Array Value → State → Outcome → State → Prop} {free : Addr → Prop} {Ts : List Cond} {own C : String} {b : Addr} {As rest : List Value} {g : JFrame}
    (S : CallFix p m c cc nL s args Ts own) (hM : Met l y ws rm Pc Qc mc ms free) (cw : vx_CVW R s args own C index y bytes maxL ret hh ws rm mc ms n) (hp : PreV s H C b Pc As)
    (hg : g.method = m) (hn : As.length = n) (hsize : g.locals.size = nL) (hstack : g.stack = As.reverse ++ .ref b :: rest) (hW : 2 * g.monitorRoom + (rest.map fun v => v.category).sum ≤ 8) (hdg : decode cc g.pc = .ok (.invokevirtual index, 3)) (hf : cells + mc ≤ R.cells ∧ slots + ms ≤ R.slots) :
    va_Run p l e R s m args below meth c H locs cells slots mc ms g rest (Qc (Value.ref b :: As).toArray) free := by
  obtain ⟨⟨hrc, hrs, hfr, hlo, hws, hcw⟩, hcode, hini, hy, hlen, hl, hin, hse⟩ := cw
  have hK : Back l R p e below s args y 3 8 (PreOf R mc ms Pc) (PostOf Qc mc ms free) := va_backW (hh := hh) (bytes := bytes) (maxL := maxL) (ret := ret) hM hp.1 hrc hrs hfr hlo hws hcw (fun a' U hW => word_at hW (Or.inl (by first | rfl | simp [Cond.onTables, Cond.keeps, Cond.steady])) hini)
  obtain ⟨hx, hb, hml, ho, -⟩ := S
  obtain ⟨-, ⟨cellB, hcB, hoB, hclB⟩, hPc⟩ := hp
  intro T hT X
  obtain ⟨v, vm₁, ⟨U', l2, c2, s2⟩, hW₁, X', ⟨g', mk, t, L, e1, e2, hq, h1, hL, h2, h3⟩, st⟩ := vx_callVW X hx (C := C) (hh := hh) (bytes := bytes) (maxL := maxL) (ret := ret) ho hl hin hse hcode hy hK (by rw [hT]; exact hcB) hoB hclB hg (hsize.trans hml.symm) (argsL := As) (rest := rest) (fun sig h => hn.trans (hlen sig h)) hstack hW (by rw [hb]; exact hdg)
    (fun vm₁ hW₁ => ⟨hf.1, hf.2, hPc (T.setVm vm₁) hT hW₁⟩)
  dsimp only [Pt.U, Pt.locs, Pt.cells, Pt.slots] at X' e1 e2 h1 h2 h3 st
  subst h1; subst h2; subst h3
  exact ⟨v, (T.setVm vm₁).calling g' mk (Value.ref b :: As).toArray, t, U', L, hT, X', hL, e1, e2, hq, st⟩
section
variable {y : MethodName} {bytes cc : ByteArray} {maxL nL mc ms n index : Nat} {ret : Option FieldType} {ws : List Cond} {rm : Room} {Pc : Array Value → State → Prop} {Qc : Array Value → State → Outcome → State → Prop} {XC : String → State → State → Prop} {free : Addr → Prop} {Ts : List Cond} {own C : String} {b : Addr} {As rest : List Value} {g : JFrame}
theorem vx_runVX {hh : List (Nat × Nat × Nat × Nat)} (S : CallFix p m c cc nL s args Ts own) (hM : vx_Met l y ws rm Pc Qc XC mc ms free) (cw : vx_CVW R s args own C index y bytes maxL ret hh ws rm mc ms n) (hp : PreV s H C b Pc As)
    (hg : g.method = m) (hn : As.length = n) (hsize : g.locals.size = nL) (hstack : g.stack = As.reverse ++ .ref b :: rest) (hW : 2 * g.monitorRoom + (rest.map fun v => v.category).sum ≤ 8) (hdg : decode cc g.pc = .ok (.invokevirtual index, 3)) (hf : cells + mc ≤ R.cells ∧ slots + ms ≤ R.slots) :
    vx_Run p l e R s m args below meth c H locs cells slots mc ms g rest (Qc (Value.ref b :: As).toArray) XC free := by
  obtain ⟨⟨hrc, hrs, hfr, hlo, hws, hcw⟩, hcode, hini, hy, hlen, hl, hin, hse⟩ := cw
  have hK : vx_Back l R p e below s args y 3 8 (PreOf R mc ms Pc) (PostOf Qc mc ms free) (vx_Post XC mc ms free) := vx_backW (hh := hh) (bytes := bytes) (maxL := maxL) (ret := ret) hM hp.1 hrc hrs hfr hlo hws hcw (fun a' U hW => word_at hW (Or.inl (by first | rfl | simp [Cond.onTables, Cond.keeps, Cond.steady])) hini)
  obtain ⟨hx, hb, hml, ho, -⟩ := S
  obtain ⟨-, ⟨cellB, hcB, hoB, hclB⟩, hPc⟩ := hp
  intro T hT X
  rcases vx_callVX X hx (C := C) (hh := hh) (bytes := bytes) (maxL := maxL) (ret := ret) ho hl hin hse hcode hy hK (by rw [hT]; exact hcB) hoB hclB hg (hsize.trans hml.symm) (argsL := As) (rest := rest) (fun sig h => hn.trans (hlen sig h)) hstack hW (by rw [hb]; exact hdg)
    (fun vm₁ hW₁ => ⟨hf.1, hf.2, hPc (T.setVm vm₁) hT hW₁⟩) with ⟨v, vm₁, ⟨U', l2, c2, s2⟩, hW₁, X', ⟨g', mk, t, L, e1, e2, hq, h1, hL, h2, h3⟩, st⟩ | ⟨q, vm₁, ⟨U', l2, c2, s2⟩, hW₁, X', ⟨g', mk, t, L, E, ce, e1, e2, hq, hce, hcv, hcl, h1, hL, h2, h3⟩, st⟩
  · dsimp only [Pt.U, Pt.locs, Pt.cells, Pt.slots] at X' e1 e2 h1 h2 h3 st
    subst h1; subst h2; subst h3
    exact Or.inl ⟨v, (T.setVm vm₁).calling g' mk (Value.ref b :: As).toArray, t, U', L, hT, X', hL, e1, e2, hq, st⟩
  · dsimp only [Pt.U, Pt.locs, Pt.cells, Pt.slots] at X' e1 e2 h1 h2 h3 st hcl
    subst h1; subst h2; subst h3
    exact Or.inr ⟨q, (T.setVm vm₁).calling g' mk (Value.ref b :: As).toArray, t, U', L, E, ce, hT, X', hL, e1, e2, hq, hce, hcv, vx_cls hW₁ hcl, st⟩
theorem vx_runSX {hh : List (Nat × Nat × Nat × Nat)} (S : CallFix p m c cc nL s args Ts own) (hM : vx_Met l y ws rm Pc Qc XC mc ms free) (cw : vx_CSW R s args own index y bytes maxL ret hh ws rm mc ms n) (hp : PreS s H Pc As)
    (hg : g.method = m) (hn : As.length = n) (hsize : g.locals.size = nL) (hstack : g.stack = As.reverse ++ rest) (hW : 2 * g.monitorRoom + (rest.map fun v => v.category).sum ≤ 8) (hdg : decode cc g.pc = .ok (.invokestatic index, 3)) (hf : cells + mc ≤ R.cells ∧ slots + ms ≤ R.slots) :
    vx_Run p l e R s m args below meth c H locs cells slots mc ms g rest (Qc As.toArray) XC free := by
  obtain ⟨⟨hrc, hrs, hfr, hlo, hws, hcw⟩, hcode, hini, hy, hlen, hl, hstt⟩ := cw
  have hK : vx_Back l R p e below s args y 3 8 (PreOf R mc ms Pc) (PostOf Qc mc ms free) (vx_Post XC mc ms free) := vx_backW (hh := hh) (bytes := bytes) (maxL := maxL) (ret := ret) hM hp.1 hrc hrs hfr hlo hws hcw (fun a' U hW => word_at hW (Or.inl (by first | rfl | simp [Cond.onTables, Cond.keeps, Cond.steady])) hini)
  obtain ⟨hx, hb, hml, ho, -⟩ := S
  intro T hT X
  rcases vx_callSX X hx (hh := hh) (bytes := bytes) (maxL := maxL) (ret := ret) ho hl hstt hini hcode hy hK hg (hsize.trans hml.symm) (argsL := As) (rest := rest) (fun sig h => hn.trans (hlen sig h)) hstack hW (by rw [hb]; exact hdg)
    (fun vm₁ hW₁ => ⟨hf.1, hf.2, hp.2 (T.setVm vm₁) hT hW₁⟩) with ⟨v, vm₁, ⟨U', l2, c2, s2⟩, hW₁, X', ⟨g', mk, t, L, e1, e2, hq, h1, hL, h2, h3⟩, st⟩ | ⟨q, vm₁, ⟨U', l2, c2, s2⟩, hW₁, X', ⟨g', mk, t, L, E, ce, e1, e2, hq, hce, hcv, hcl, h1, hL, h2, h3⟩, st⟩
  · dsimp only [Pt.U, Pt.locs, Pt.cells, Pt.slots] at X' e1 e2 h1 h2 h3 st
    subst h1; subst h2; subst h3
    exact Or.inl ⟨v, (T.setVm vm₁).calling g' mk As.toArray, t, U', L, hT, X', hL, e1, e2, hq, st⟩
  · dsimp only [Pt.U, Pt.locs, Pt.cells, Pt.slots] at X' e1 e2 h1 h2 h3 st hcl
    subst h1; subst h2; subst h3
    exact Or.inr ⟨q, (T.setVm vm₁).calling g' mk As.toArray, t, U', L, E, ce, hT, X', hL, e1, e2, hq, hce, hcv, vx_cls hW₁ hcl, st⟩
end
end VXH
theorem vx_ofWH {l : Launch} {y : MethodName} {ws ws' : List Cond} {rm : Room} {Pc : Array Value → State → Prop} {Qc : Array Value → State → Outcome → State → Prop} {XC : String → State → State → Prop} {mc ms : Nat} {free : Addr → Prop} {cc : ByteArray} {maxL : Nat} {ret : Option FieldType} {hh : List (Nat × Nat × Nat × Nat)}
    (hy : plainName y.cls = true) (hw : ws = Cond.codeWith y cc maxL ret hh :: ws')
    (body : ∀ p e s m args below meth c s₁, BodyLoose p l y (headSpec ws rm) cc maxL ret e s m args below meth c s₁ → c.maxLocals = maxL → Pc args s →
      W p l e (headSpec ws rm).room s m args below meth c s.heap [] 0 0 (vx_MQ below Qc XC args s mc ms free) (entryFrame m args maxL)) : vx_Met l y ws rm Pc Qc XC mc ms free := by
  refine MetFree.of_bodyS (code := cc) (maxLocals := maxL) (ret := ret) hy ?_ ?_
  · intro args s m h hn
    obtain ⟨m9, meth, c, hn9, h1, h2, h3, h4, -, h5, h6, -⟩ := Cond.codeWith_spec (atoms_spec (ws := ws) h _ (by rw [hw]; exact List.mem_cons_self))
    cases hn.symm.trans hn9
    exact ⟨meth, c, h1, h2, h3, h4, h5, h6⟩
  · intro p e s m args below meth c s₁ B hml hP _
    have hh0 : s₁.heap = s.heap := by rw [B.state]; rfl
    obtain ⟨t, a1, o, b1, b2, b3⟩ := body p e s m args below meth c s₁ B hml hP s₁ hh0 (Stand.of_body B)
    exact ⟨t, o, a1, b1, b2, b3⟩
/-! ===== END ===== -/

/-! ===== BEGIN printed: names, fields, word lists, decode rows ===== -/
end
section
/-! NAMES of this class, its reference and the law: written by program (wip/whole/gen/names.py) out of the listing and the tables -/
def xAll : List Cond := lw_tbl.filter goodWord
theorem xa_t (i : Nat) {w : Cond} (h : tables_1[i]? = some w) (hg : goodWord w = true) : w ∈ xAll := List.mem_filter.mpr ⟨List.mem_append_right _ (List.mem_of_getElem? h), hg⟩
theorem xa_s (i : Nat) {w : Cond} (h : (k2_sels lw_privs)[i]? = some w) (hg : goodWord w = true) : w ∈ xAll := List.mem_filter.mpr ⟨List.mem_append_left _ (List.mem_of_getElem? h), hg⟩
theorem xAll_good : ∀ w ∈ xAll, (w.onTables && w.keeps) = true ∨ ∃ ty, w = .arrayClass ty := fun w h => good_of_word (List.mem_filter.mp h).2
theorem xAll_tbl : ∀ w ∈ xAll, w ∈ lw_tbl := fun w h => (List.mem_filter.mp h).1
/-- links to private members of nest mates -/
def xIsN : Cond → Bool
  | .fieldLinkNest .. => true
  | .methodLinkNest .. => true
  | _ => false
def xNw : List Cond := tables_1.filter xIsN
theorem xn_t (i : Nat) {w : Cond} (h : tables_1[i]? = some w) (hg : xIsN w = true) : w ∈ xNw := List.mem_filter.mpr ⟨List.mem_of_getElem? h, hg⟩
theorem xNw_tbl : ∀ w ∈ xNw, w ∈ lw_tbl := fun w h => List.mem_append_right _ (List.mem_filter.mp h).1
theorem xNw_tabs (w : Cond) (h : w ∈ xNw) : w.onTables = true := by
  have h2 := (List.mem_filter.mp h).2
  cases w <;> first | rfl | cases h2
theorem xNw_warm (w : Cond) (h : w ∈ xNw) {s U : State} (hW : s.WarmedH U.vm) (hZ : va_Nw w s) : va_Nw w U := by
  have h2 := (List.mem_filter.mp h).2
  cases w <;> first | exact va_Nw.warmF hW hZ | exact va_Nw.warmM hW hZ | cases h2
def R_Ho : String := "CareTours$House"
def R_Li : String := "CareTours$Lift"
def R_Pt : String := "CareTours$Part"
def R_Pe : String := "CareTours$Person"
def R_Pl : String := "CareTours$Place"
def R_Pn : String := "CareTours$Planner"
def R_To : String := "CareTours$Tour"
def R_Ct : String := "CareTours"
def R_Mo : String := "CareToursModel"
def R_La : String := "CareToursLaw"
def F_Ho : u_T := fun k => match k with
  | 0 => ("CareTours$House", "places", "[LCareTours$Place;", true)
  | 1 => ("CareTours$House", "lifts", "[LCareTours$Lift;", true)
  | 2 => ("CareTours$House", "placeCount", "I", false)
  | _ => ("CareTours$House", "liftCount", "I", false)
def t_Ho : Nat → FieldType := fun k => match k with
  | 0 => (.array (.object "CareTours$Place"))
  | 1 => (.array (.object "CareTours$Lift"))
  | 2 => .int
  | _ => .int
theorem n_Ho : ∀ a, a < 4 → ∀ b, b < 4 → a ≠ b → (F_Ho a).2.1 ≠ (F_Ho b).2.1 := by decide +kernel
theorem tk_Ho : ∀ k, k < 4 → parseFieldDescriptor (F_Ho k).2.2.1 = some (t_Ho k) := by decide +kernel
theorem in_Ho : ∀ w ∈ u_ws R_Ho F_Ho 4, w ∈ xAll := by decide +kernel
def F_Li : u_T := fun k => match k with
  | 0 => ("CareTours$Lift", "x", "I", true)
  | 1 => ("CareTours$Lift", "y", "I", true)
  | 2 => ("CareTours$Lift", "least", "I", true)
  | 3 => ("CareTours$Lift", "greatest", "I", true)
  | 4 => ("CareTours$Lift", "wait", "I", true)
  | _ => ("CareTours$Lift", "speed", "I", true)
def t_Li : Nat → FieldType := fun k => match k with
  | 0 => .int
  | 1 => .int
  | 2 => .int
  | 3 => .int
  | 4 => .int
  | _ => .int
theorem n_Li : ∀ a, a < 6 → ∀ b, b < 6 → a ≠ b → (F_Li a).2.1 ≠ (F_Li b).2.1 := by decide +kernel
theorem tk_Li : ∀ k, k < 6 → parseFieldDescriptor (F_Li k).2.2.1 = some (t_Li k) := by decide +kernel
theorem in_Li : ∀ w ∈ u_ws R_Li F_Li 6, w ∈ xAll := by decide +kernel
def F_Pt : u_T := fun k => match k with
  | 0 => ("CareTours$Part", "number", "I", true)
  | 1 => ("CareTours$Part", "place", "LCareTours$Place;", true)
  | 2 => ("CareTours$Part", "skill", "I", true)
  | 3 => ("CareTours$Part", "kind", "I", true)
  | 4 => ("CareTours$Part", "every", "I", true)
  | 5 => ("CareTours$Part", "hours", "I", true)
  | 6 => ("CareTours$Part", "work", "I", true)
  | 7 => ("CareTours$Part", "testedDay", "I", false)
  | 8 => ("CareTours$Part", "usedHours", "I", false)
  | 9 => ("CareTours$Part", "lastTold", "I", false)
  | _ => ("CareTours$Part", "wornDay", "I", false)
def t_Pt : Nat → FieldType := fun k => match k with
  | 0 => .int
  | 1 => (.object "CareTours$Place")
  | 2 => .int
  | 3 => .int
  | 4 => .int
  | 5 => .int
  | 6 => .int
  | 7 => .int
  | 8 => .int
  | 9 => .int
  | _ => .int
theorem n_Pt : ∀ a, a < 11 → ∀ b, b < 11 → a ≠ b → (F_Pt a).2.1 ≠ (F_Pt b).2.1 := by decide +kernel
theorem tk_Pt : ∀ k, k < 11 → parseFieldDescriptor (F_Pt k).2.2.1 = some (t_Pt k) := by decide +kernel
theorem in_Pt : ∀ w ∈ u_ws R_Pt F_Pt 11, w ∈ xAll := by decide +kernel
def F_Pe : u_T := fun k => match k with
  | 0 => ("CareTours$Person", "number", "I", true)
  | 1 => ("CareTours$Person", "skills", "I", true)
  | 2 => ("CareTours$Person", "home", "LCareTours$Place;", true)
  | _ => ("CareTours$Person", "seconds", "I", true)
def t_Pe : Nat → FieldType := fun k => match k with
  | 0 => .int
  | 1 => .int
  | 2 => (.object "CareTours$Place")
  | _ => .int
theorem n_Pe : ∀ a, a < 4 → ∀ b, b < 4 → a ≠ b → (F_Pe a).2.1 ≠ (F_Pe b).2.1 := by decide +kernel
theorem tk_Pe : ∀ k, k < 4 → parseFieldDescriptor (F_Pe k).2.2.1 = some (t_Pe k) := by decide +kernel
theorem in_Pe : ∀ w ∈ u_ws R_Pe F_Pe 4, w ∈ xAll := by decide +kernel
def F_Pl : u_T := fun k => match k with
  | 0 => ("CareTours$Place", "floor", "I", true)
  | 1 => ("CareTours$Place", "x", "I", true)
  | _ => ("CareTours$Place", "y", "I", true)
def t_Pl : Nat → FieldType := fun k => match k with
  | 0 => .int
  | 1 => .int
  | _ => .int
theorem n_Pl : ∀ a, a < 3 → ∀ b, b < 3 → a ≠ b → (F_Pl a).2.1 ≠ (F_Pl b).2.1 := by decide +kernel
theorem tk_Pl : ∀ k, k < 3 → parseFieldDescriptor (F_Pl k).2.2.1 = some (t_Pl k) := by decide +kernel
theorem in_Pl : ∀ w ∈ u_ws R_Pl F_Pl 3, w ∈ xAll := by decide +kernel
def F_Pn : u_T := fun k => match k with
  | 0 => ("CareTours$Planner", "chosen", "[LCareTours$Part;", true)
  | 1 => ("CareTours$Planner", "legs", "[I", true)
  | 2 => ("CareTours$Planner", "rest", "[I", true)
  | _ => ("CareTours$Planner", "count", "I", false)
def t_Pn : Nat → FieldType := fun k => match k with
  | 0 => (.array (.object "CareTours$Part"))
  | 1 => (.array .int)
  | 2 => (.array .int)
  | _ => .int
theorem n_Pn : ∀ a, a < 4 → ∀ b, b < 4 → a ≠ b → (F_Pn a).2.1 ≠ (F_Pn b).2.1 := by decide +kernel
theorem tk_Pn : ∀ k, k < 4 → parseFieldDescriptor (F_Pn k).2.2.1 = some (t_Pn k) := by decide +kernel
theorem in_Pn : ∀ w ∈ u_ws R_Pn F_Pn 4, w ∈ xAll := by decide +kernel
def F_To : u_T := fun k => match k with
  | 0 => ("CareTours$Tour", "stops", "[LCareTours$Part;", true)
  | 1 => ("CareTours$Tour", "goer", "LCareTours$Person;", false)
  | 2 => ("CareTours$Tour", "day", "I", false)
  | 3 => ("CareTours$Tour", "count", "I", false)
  | 4 => ("CareTours$Tour", "doneCount", "I", false)
  | 5 => ("CareTours$Tour", "walks", "I", false)
  | _ => ("CareTours$Tour", "work", "I", false)
def t_To : Nat → FieldType := fun k => match k with
  | 0 => (.array (.object "CareTours$Part"))
  | 1 => (.object "CareTours$Person")
  | 2 => .int
  | 3 => .int
  | 4 => .int
  | 5 => .int
  | _ => .int
theorem n_To : ∀ a, a < 7 → ∀ b, b < 7 → a ≠ b → (F_To a).2.1 ≠ (F_To b).2.1 := by decide +kernel
theorem tk_To : ∀ k, k < 7 → parseFieldDescriptor (F_To k).2.2.1 = some (t_To k) := by decide +kernel
theorem in_To : ∀ w ∈ u_ws R_To F_To 7, w ∈ xAll := by decide +kernel
def F_Ct : u_T := fun k => match k with
  | 0 => ("CareTours", "rate", "I", true)
  | 1 => ("CareTours", "house", "LCareTours$House;", true)
  | 2 => ("CareTours", "parts", "[LCareTours$Part;", true)
  | 3 => ("CareTours", "ranked", "[LCareTours$Part;", true)
  | 4 => ("CareTours", "persons", "[LCareTours$Person;", true)
  | 5 => ("CareTours", "spares", "[I", true)
  | 6 => ("CareTours", "planner", "LCareTours$Planner;", true)
  | 7 => ("CareTours", "current", "LCareTours$Tour;", true)
  | 8 => ("CareTours", "partCount", "I", false)
  | _ => ("CareTours", "personCount", "I", false)
def t_Ct : Nat → FieldType := fun k => match k with
  | 0 => .int
  | 1 => (.object "CareTours$House")
  | 2 => (.array (.object "CareTours$Part"))
  | 3 => (.array (.object "CareTours$Part"))
  | 4 => (.array (.object "CareTours$Person"))
  | 5 => (.array .int)
  | 6 => (.object "CareTours$Planner")
  | 7 => (.object "CareTours$Tour")
  | 8 => .int
  | _ => .int
theorem n_Ct : ∀ a, a < 10 → ∀ b, b < 10 → a ≠ b → (F_Ct a).2.1 ≠ (F_Ct b).2.1 := by decide +kernel
theorem tk_Ct : ∀ k, k < 10 → parseFieldDescriptor (F_Ct k).2.2.1 = some (t_Ct k) := by decide +kernel
theorem in_Ct : ∀ w ∈ u_ws R_Ct F_Ct 10, w ∈ xAll := by decide +kernel
def F_Mo : u_T := fun k => match k with
  | 0 => ("CareToursModel", "thrown", "I", false)
  | 1 => ("CareToursModel", "rate", "I", true)
  | 2 => ("CareToursModel", "places", "I", false)
  | 3 => ("CareToursModel", "floor", "[I", true)
  | 4 => ("CareToursModel", "px", "[I", true)
  | 5 => ("CareToursModel", "py", "[I", true)
  | 6 => ("CareToursModel", "lifts", "I", false)
  | 7 => ("CareToursModel", "lx", "[I", true)
  | 8 => ("CareToursModel", "ly", "[I", true)
  | 9 => ("CareToursModel", "least", "[I", true)
  | 10 => ("CareToursModel", "greatest", "[I", true)
  | 11 => ("CareToursModel", "waits", "[I", true)
  | 12 => ("CareToursModel", "speeds", "[I", true)
  | 13 => ("CareToursModel", "parts", "I", false)
  | 14 => ("CareToursModel", "at", "[I", true)
  | 15 => ("CareToursModel", "skill", "[I", true)
  | 16 => ("CareToursModel", "kind", "[I", true)
  | 17 => ("CareToursModel", "every", "[I", true)
  | 18 => ("CareToursModel", "most", "[I", true)
  | 19 => ("CareToursModel", "work", "[I", true)
  | 20 => ("CareToursModel", "tested", "[I", true)
  | 21 => ("CareToursModel", "hours", "[I", true)
  | 22 => ("CareToursModel", "lastTold", "[I", true)
  | 23 => ("CareToursModel", "worn", "[I", true)
  | 24 => ("CareToursModel", "persons", "I", false)
  | 25 => ("CareToursModel", "skills", "[I", true)
  | 26 => ("CareToursModel", "home", "[I", true)
  | 27 => ("CareToursModel", "seconds", "[I", true)
  | 28 => ("CareToursModel", "stock", "[I", true)
  | 29 => ("CareToursModel", "who", "I", false)
  | 30 => ("CareToursModel", "dayOf", "I", false)
  | 31 => ("CareToursModel", "stops", "I", false)
  | 32 => ("CareToursModel", "dones", "I", false)
  | 33 => ("CareToursModel", "stop", "[I", true)
  | 34 => ("CareToursModel", "some", "[I", true)
  | 35 => ("CareToursModel", "order", "[I", true)
  | _ => ("CareToursModel", "best", "[I", true)
def t_Mo : Nat → FieldType := fun k => match k with
  | 0 => .int
  | 1 => .int
  | 2 => .int
  | 3 => (.array .int)
  | 4 => (.array .int)
  | 5 => (.array .int)
  | 6 => .int
  | 7 => (.array .int)
  | 8 => (.array .int)
  | 9 => (.array .int)
  | 10 => (.array .int)
  | 11 => (.array .int)
  | 12 => (.array .int)
  | 13 => .int
  | 14 => (.array .int)
  | 15 => (.array .int)
  | 16 => (.array .int)
  | 17 => (.array .int)
  | 18 => (.array .int)
  | 19 => (.array .int)
  | 20 => (.array .int)
  | 21 => (.array .int)
  | 22 => (.array .int)
  | 23 => (.array .int)
  | 24 => .int
  | 25 => (.array .int)
  | 26 => (.array .int)
  | 27 => (.array .int)
  | 28 => (.array .int)
  | 29 => .int
  | 30 => .int
  | 31 => .int
  | 32 => .int
  | 33 => (.array .int)
  | 34 => (.array .int)
  | 35 => (.array .int)
  | _ => (.array .int)
theorem n_Mo : ∀ a, a < 37 → ∀ b, b < 37 → a ≠ b → (F_Mo a).2.1 ≠ (F_Mo b).2.1 := by decide +kernel
theorem tk_Mo : ∀ k, k < 37 → parseFieldDescriptor (F_Mo k).2.2.1 = some (t_Mo k) := by decide +kernel
theorem in_Mo : ∀ w ∈ u_ws R_Mo F_Mo 37, w ∈ xAll := by decide +kernel
abbrev xCl : List vw_C := [(R_Ho, F_Ho, 4), (R_Li, F_Li, 6), (R_Pt, F_Pt, 11), (R_Pe, F_Pe, 4), (R_Pl, F_Pl, 3), (R_Pn, F_Pn, 4), (R_To, F_To, 7), (R_Ct, F_Ct, 10), (R_Mo, F_Mo, 37)]
abbrev b_Ct_init : ByteArray := prog_1_method_1_code
def y_Ct_init : MethodName := ⟨R_Ct, "<init>", "(I)V"⟩
abbrev b_Ct_place : ByteArray := prog_1_method_2_code
def y_Ct_place : MethodName := ⟨R_Ct, "place", "(III)I"⟩
abbrev b_Ct_lift : ByteArray := prog_1_method_3_code
def y_Ct_lift : MethodName := ⟨R_Ct, "lift", "(IIIIII)I"⟩
abbrev b_Ct_part : ByteArray := prog_1_method_4_code
def y_Ct_part : MethodName := ⟨R_Ct, "part", "(IIIIII)I"⟩
abbrev b_Ct_person : ByteArray := prog_1_method_5_code
def y_Ct_person : MethodName := ⟨R_Ct, "person", "(III)I"⟩
abbrev b_Ct_used : ByteArray := prog_1_method_6_code
def y_Ct_used : MethodName := ⟨R_Ct, "used", "(III)I"⟩
abbrev b_Ct_stock : ByteArray := prog_1_method_7_code
def y_Ct_stock : MethodName := ⟨R_Ct, "stock", "(II)I"⟩
abbrev b_Ct_walk : ByteArray := prog_1_method_8_code
def y_Ct_walk : MethodName := ⟨R_Ct, "walk", "(II)I"⟩
abbrev b_Ct_tour : ByteArray := prog_1_method_9_code
def y_Ct_tour : MethodName := ⟨R_Ct, "tour", "(II)I"⟩
abbrev b_Ct_stop : ByteArray := prog_1_method_10_code
def y_Ct_stop : MethodName := ⟨R_Ct, "stop", "(I)I"⟩
abbrev b_Ct_told : ByteArray := prog_1_method_11_code
def y_Ct_told : MethodName := ⟨R_Ct, "told", "(I)I"⟩
abbrev b_Ct_put : ByteArray := prog_1_method_12_code
def y_Ct_put : MethodName := ⟨R_Ct, "put", "(I)I"⟩
abbrev b_Ct_done : ByteArray := prog_1_method_13_code
def y_Ct_done : MethodName := ⟨R_Ct, "done", "()I"⟩
abbrev b_Ct_due : ByteArray := prog_1_method_14_code
def y_Ct_due : MethodName := ⟨R_Ct, "due", "(I)I"⟩
abbrev b_Ct_late : ByteArray := prog_1_method_15_code
def y_Ct_late : MethodName := ⟨R_Ct, "late", "(I)I"⟩
abbrev b_Ct_fine : ByteArray := prog_1_method_16_code
def y_Ct_fine : MethodName := ⟨R_Ct, "fine", "(II)I"⟩
abbrev b_Ct_wanted : ByteArray := prog_1_method_17_code
def y_Ct_wanted : MethodName := ⟨R_Ct, "wanted", "(II)I"⟩
abbrev b_Ct_within : ByteArray := prog_1_method_18_code
def y_Ct_within : MethodName := ⟨R_Ct, "within", "(III)Z"⟩
abbrev b_Ct_isSpot : ByteArray := prog_1_method_19_code
def y_Ct_isSpot : MethodName := ⟨R_Ct, "isSpot", "(II)Z"⟩
abbrev b_Ct_isDay : ByteArray := prog_1_method_20_code
def y_Ct_isDay : MethodName := ⟨R_Ct, "isDay", "(I)Z"⟩
abbrev b_Ct_isKind : ByteArray := prog_1_method_21_code
def y_Ct_isKind : MethodName := ⟨R_Ct, "isKind", "(I)Z"⟩
abbrev b_Ct_isPart : ByteArray := prog_1_method_22_code
def y_Ct_isPart : MethodName := ⟨R_Ct, "isPart", "(I)Z"⟩
abbrev b_Ct_choose : ByteArray := prog_1_method_23_code
def y_Ct_choose : MethodName := ⟨R_Ct, "choose", "(LCareTours$Person;I)V"⟩
abbrev b_Ct_rankByDueDays : ByteArray := prog_1_method_24_code
def y_Ct_rankByDueDays : MethodName := ⟨R_Ct, "rankByDueDays", "()V"⟩
abbrev b_Mo_init : ByteArray := prog_10_method_1_code
def y_Mo_init : MethodName := ⟨R_Mo, "<init>", "(I)V"⟩
abbrev b_Mo_thrown : ByteArray := prog_10_method_2_code
def y_Mo_thrown : MethodName := ⟨R_Mo, "thrown", "()I"⟩
abbrev b_Mo_in : ByteArray := prog_10_method_3_code
def y_Mo_in : MethodName := ⟨R_Mo, "in", "(III)Z"⟩
abbrev b_Mo_place : ByteArray := prog_10_method_4_code
def y_Mo_place : MethodName := ⟨R_Mo, "place", "(III)I"⟩
abbrev b_Mo_lift : ByteArray := prog_10_method_5_code
def y_Mo_lift : MethodName := ⟨R_Mo, "lift", "(IIIIII)I"⟩
abbrev b_Mo_part : ByteArray := prog_10_method_6_code
def y_Mo_part : MethodName := ⟨R_Mo, "part", "(IIIIII)I"⟩
abbrev b_Mo_person : ByteArray := prog_10_method_7_code
def y_Mo_person : MethodName := ⟨R_Mo, "person", "(III)I"⟩
abbrev b_Mo_isPart : ByteArray := prog_10_method_8_code
def y_Mo_isPart : MethodName := ⟨R_Mo, "isPart", "(I)Z"⟩
abbrev b_Mo_used : ByteArray := prog_10_method_9_code
def y_Mo_used : MethodName := ⟨R_Mo, "used", "(III)I"⟩
abbrev b_Mo_stock : ByteArray := prog_10_method_10_code
def y_Mo_stock : MethodName := ⟨R_Mo, "stock", "(II)I"⟩
abbrev b_Mo_apart : ByteArray := prog_10_method_11_code
def y_Mo_apart : MethodName := ⟨R_Mo, "apart", "(II)I"⟩
abbrev b_Mo_way : ByteArray := prog_10_method_12_code
def y_Mo_way : MethodName := ⟨R_Mo, "way", "(II)I"⟩
abbrev b_Mo_walk : ByteArray := prog_10_method_13_code
def y_Mo_walk : MethodName := ⟨R_Mo, "walk", "(II)I"⟩
abbrev b_Mo_dueDay : ByteArray := prog_10_method_14_code
def y_Mo_dueDay : MethodName := ⟨R_Mo, "dueDay", "(I)I"⟩
abbrev b_Mo_isBefore : ByteArray := prog_10_method_15_code
def y_Mo_isBefore : MethodName := ⟨R_Mo, "isBefore", "(II)Z"⟩
abbrev b_Mo_walksOf : ByteArray := prog_10_method_16_code
def y_Mo_walksOf : MethodName := ⟨R_Mo, "walksOf", "([III)I"⟩
abbrev b_Mo_next : ByteArray := prog_10_method_17_code
def y_Mo_next : MethodName := ⟨R_Mo, "next", "(I)Z"⟩
abbrev b_Mo_swap : ByteArray := prog_10_method_18_code
def y_Mo_swap : MethodName := ⟨R_Mo, "swap", "(II)V"⟩
abbrev b_Mo_tour : ByteArray := prog_10_method_19_code
def y_Mo_tour : MethodName := ⟨R_Mo, "tour", "(II)I"⟩
abbrev b_Mo_isTour : ByteArray := prog_10_method_20_code
def y_Mo_isTour : MethodName := ⟨R_Mo, "isTour", "(II)Z"⟩
abbrev b_Mo_stop : ByteArray := prog_10_method_21_code
def y_Mo_stop : MethodName := ⟨R_Mo, "stop", "(I)I"⟩
abbrev b_Mo_told : ByteArray := prog_10_method_22_code
def y_Mo_told : MethodName := ⟨R_Mo, "told", "(I)I"⟩
abbrev b_Mo_put : ByteArray := prog_10_method_23_code
def y_Mo_put : MethodName := ⟨R_Mo, "put", "(I)I"⟩
abbrev b_Mo_done : ByteArray := prog_10_method_24_code
def y_Mo_done : MethodName := ⟨R_Mo, "done", "()I"⟩
abbrev b_Mo_due : ByteArray := prog_10_method_25_code
def y_Mo_due : MethodName := ⟨R_Mo, "due", "(I)I"⟩
abbrev b_Mo_late : ByteArray := prog_10_method_26_code
def y_Mo_late : MethodName := ⟨R_Mo, "late", "(I)I"⟩
abbrev b_Mo_fine : ByteArray := prog_10_method_27_code
def y_Mo_fine : MethodName := ⟨R_Mo, "fine", "(II)I"⟩
abbrev b_Mo_wanted : ByteArray := prog_10_method_28_code
def y_Mo_wanted : MethodName := ⟨R_Mo, "wanted", "(II)I"⟩
abbrev b_Ho_init : ByteArray := prog_2_method_1_code
def y_Ho_init : MethodName := ⟨R_Ho, "<init>", "()V"⟩
abbrev b_Ho_hasPlace : ByteArray := prog_2_method_2_code
def y_Ho_hasPlace : MethodName := ⟨R_Ho, "hasPlace", "(I)Z"⟩
abbrev b_Ho_addPlace : ByteArray := prog_2_method_3_code
def y_Ho_addPlace : MethodName := ⟨R_Ho, "addPlace", "(LCareTours$Place;)I"⟩
abbrev b_Ho_addLift : ByteArray := prog_2_method_4_code
def y_Ho_addLift : MethodName := ⟨R_Ho, "addLift", "(LCareTours$Lift;)I"⟩
abbrev b_Ho_secondsBetween : ByteArray := prog_2_method_5_code
def y_Ho_secondsBetween : MethodName := ⟨R_Ho, "secondsBetween", "(LCareTours$Place;LCareTours$Place;)I"⟩
abbrev b_Li_init : ByteArray := prog_3_method_1_code
def y_Li_init : MethodName := ⟨R_Li, "<init>", "(IIIIII)V"⟩
abbrev b_Li_comesTo : ByteArray := prog_3_method_2_code
def y_Li_comesTo : MethodName := ⟨R_Li, "comesTo", "(LCareTours$Place;)Z"⟩
abbrev b_Li_secondsBetween : ByteArray := prog_3_method_3_code
def y_Li_secondsBetween : MethodName := ⟨R_Li, "secondsBetween", "(LCareTours$Place;LCareTours$Place;)I"⟩
abbrev b_Pt_init : ByteArray := prog_4_method_1_code
def y_Pt_init : MethodName := ⟨R_Pt, "<init>", "(ILCareTours$Place;IIIII)V"⟩
abbrev b_Pt_dueDay : ByteArray := prog_4_method_2_code
def y_Pt_dueDay : MethodName := ⟨R_Pt, "dueDay", "()I"⟩
abbrev b_Pt_addUse : ByteArray := prog_4_method_3_code
def y_Pt_addUse : MethodName := ⟨R_Pt, "addUse", "(II)V"⟩
abbrev b_Pt_renew : ByteArray := prog_4_method_4_code
def y_Pt_renew : MethodName := ⟨R_Pt, "renew", "(I)V"⟩
abbrev b_Pe_init : ByteArray := prog_5_method_1_code
def y_Pe_init : MethodName := ⟨R_Pe, "<init>", "(IILCareTours$Place;I)V"⟩
abbrev b_Pe_has : ByteArray := prog_5_method_2_code
def y_Pe_has : MethodName := ⟨R_Pe, "has", "(I)Z"⟩
abbrev b_Pl_init : ByteArray := prog_6_method_1_code
def y_Pl_init : MethodName := ⟨R_Pl, "<init>", "(III)V"⟩
abbrev b_Pl_secondsTo : ByteArray := prog_6_method_2_code
def y_Pl_secondsTo : MethodName := ⟨R_Pl, "secondsTo", "(II)I"⟩
abbrev b_Pn_init : ByteArray := prog_7_method_1_code
def y_Pn_init : MethodName := ⟨R_Pn, "<init>", "()V"⟩
abbrev b_Pn_clear : ByteArray := prog_7_method_2_code
def y_Pn_clear : MethodName := ⟨R_Pn, "clear", "()V"⟩
abbrev b_Pn_isFull : ByteArray := prog_7_method_3_code
def y_Pn_isFull : MethodName := ⟨R_Pn, "isFull", "()Z"⟩
abbrev b_Pn_add : ByteArray := prog_7_method_4_code
def y_Pn_add : MethodName := ⟨R_Pn, "add", "(LCareTours$Part;)V"⟩
abbrev b_Pn_measure : ByteArray := prog_7_method_5_code
def y_Pn_measure : MethodName := ⟨R_Pn, "measure", "(LCareTours$House;LCareTours$Place;)V"⟩
abbrev b_Pn_legOf : ByteArray := prog_7_method_6_code
def y_Pn_legOf : MethodName := ⟨R_Pn, "legOf", "(LCareTours$House;LCareTours$Place;LCareTours$Place;)I"⟩
abbrev b_Pn_plan : ByteArray := prog_7_method_7_code
def y_Pn_plan : MethodName := ⟨R_Pn, "plan", "()V"⟩
abbrev b_Pn_leastRest : ByteArray := prog_7_method_8_code
def y_Pn_leastRest : MethodName := ⟨R_Pn, "leastRest", "(II)I"⟩
abbrev b_Pn_restBy : ByteArray := prog_7_method_9_code
def y_Pn_restBy : MethodName := ⟨R_Pn, "restBy", "(III)I"⟩
abbrev b_Pn_isIn : ByteArray := prog_7_method_10_code
def y_Pn_isIn : MethodName := ⟨R_Pn, "isIn", "(II)Z"⟩
abbrev b_Pn_firstOnes : ByteArray := prog_7_method_11_code
def y_Pn_firstOnes : MethodName := ⟨R_Pn, "firstOnes", "(I)I"⟩
abbrev b_Pn_leastWalks : ByteArray := prog_7_method_12_code
def y_Pn_leastWalks : MethodName := ⟨R_Pn, "leastWalks", "(I)I"⟩
abbrev b_Pn_stopsWithin : ByteArray := prog_7_method_13_code
def y_Pn_stopsWithin : MethodName := ⟨R_Pn, "stopsWithin", "(I)I"⟩
abbrev b_Pn_fill : ByteArray := prog_7_method_14_code
def y_Pn_fill : MethodName := ⟨R_Pn, "fill", "(LCareTours$Tour;I)V"⟩
abbrev b_Pn_nextNode : ByteArray := prog_7_method_15_code
def y_Pn_nextNode : MethodName := ⟨R_Pn, "nextNode", "(II)I"⟩
abbrev b_To_init : ByteArray := prog_8_method_1_code
def y_To_init : MethodName := ⟨R_To, "<init>", "()V"⟩
abbrev b_To_begin : ByteArray := prog_8_method_2_code
def y_To_begin : MethodName := ⟨R_To, "begin", "(LCareTours$Person;I)V"⟩
abbrev b_To_end : ByteArray := prog_8_method_3_code
def y_To_end : MethodName := ⟨R_To, "end", "()V"⟩
abbrev b_To_isStop : ByteArray := prog_8_method_4_code
def y_To_isStop : MethodName := ⟨R_To, "isStop", "(LCareTours$Part;)Z"⟩
abbrev b_To_insert : ByteArray := prog_8_method_5_code
def y_To_insert : MethodName := ⟨R_To, "insert", "(LCareTours$Part;II)V"⟩
abbrev b_To_shortestGap : ByteArray := prog_8_method_6_code
def y_To_shortestGap : MethodName := ⟨R_To, "shortestGap", "(LCareTours$House;LCareTours$Place;)I"⟩
abbrev b_To_canReach : ByteArray := prog_8_method_7_code
def y_To_canReach : MethodName := ⟨R_To, "canReach", "(LCareTours$House;LCareTours$Place;I)Z"⟩
abbrev b_To_detour : ByteArray := prog_8_method_8_code
def y_To_detour : MethodName := ⟨R_To, "detour", "(LCareTours$House;LCareTours$Place;I)I"⟩
abbrev b_To_placeBefore : ByteArray := prog_8_method_9_code
def y_To_placeBefore : MethodName := ⟨R_To, "placeBefore", "(I)LCareTours$Place;"⟩
abbrev b_To_placeBehind : ByteArray := prog_8_method_10_code
def y_To_placeBehind : MethodName := ⟨R_To, "placeBehind", "(I)LCareTours$Place;"⟩
abbrev b_La_cell : ByteArray := method_2_code
def y_La_cell : MethodName := ⟨R_La, "cell", "([II)I"⟩
abbrev b_La_place : ByteArray := method_3_code
def y_La_place : MethodName := ⟨R_La, "place", "(LCareTours;III[J)I"⟩
abbrev b_La_lift : ByteArray := method_4_code
def y_La_lift : MethodName := ⟨R_La, "lift", "(LCareTours;IIIIII[J)I"⟩
abbrev b_La_part : ByteArray := method_5_code
def y_La_part : MethodName := ⟨R_La, "part", "(LCareTours;IIIIII[J)I"⟩
abbrev b_La_person : ByteArray := method_6_code
def y_La_person : MethodName := ⟨R_La, "person", "(LCareTours;III[J)I"⟩
abbrev b_La_used : ByteArray := method_7_code
def y_La_used : MethodName := ⟨R_La, "used", "(LCareTours;III[J)I"⟩
abbrev b_La_stock : ByteArray := method_8_code
def y_La_stock : MethodName := ⟨R_La, "stock", "(LCareTours;II[J)I"⟩
abbrev b_La_walk : ByteArray := method_9_code
def y_La_walk : MethodName := ⟨R_La, "walk", "(LCareTours;II[J)I"⟩
abbrev b_La_tour : ByteArray := method_10_code
def y_La_tour : MethodName := ⟨R_La, "tour", "(LCareTours;II[J)I"⟩
abbrev b_La_stop : ByteArray := method_11_code
def y_La_stop : MethodName := ⟨R_La, "stop", "(LCareTours;I[J)I"⟩
abbrev b_La_told : ByteArray := method_12_code
def y_La_told : MethodName := ⟨R_La, "told", "(LCareTours;I[J)I"⟩
abbrev b_La_put : ByteArray := method_13_code
def y_La_put : MethodName := ⟨R_La, "put", "(LCareTours;I[J)I"⟩
abbrev b_La_done : ByteArray := method_14_code
def y_La_done : MethodName := ⟨R_La, "done", "(LCareTours;[J)I"⟩
abbrev b_La_due : ByteArray := method_15_code
def y_La_due : MethodName := ⟨R_La, "due", "(LCareTours;I[J)I"⟩
abbrev b_La_late : ByteArray := method_16_code
def y_La_late : MethodName := ⟨R_La, "late", "(LCareTours;I[J)I"⟩
abbrev b_La_fine : ByteArray := method_17_code
def y_La_fine : MethodName := ⟨R_La, "fine", "(LCareTours;II[J)I"⟩
abbrev b_La_wanted : ByteArray := method_18_code
def y_La_wanted : MethodName := ⟨R_La, "wanted", "(LCareTours;II[J)I"⟩
abbrev b_La_law : ByteArray := code
def y_La_law : MethodName := ⟨R_La, "law", "([I)Z"⟩
end
section
/-! INTS BY THEIR NUMBERS: iI z for every z; sums, differences and products need no bound, comparisons do. -/
def iI (z : Int) : Int32 := Int32.ofInt z
theorem iI_of (x : Int32) : iI x.toInt = x := Int32.ofInt_toInt x
theorem iI_toInt {z : Int} (h : -2147483648 ≤ z ∧ z < 2147483648) : (iI z).toInt = z := Int32.toInt_ofInt_of_le (by omega) (by omega)
theorem iI_rng (x : Int32) : -2147483648 ≤ x.toInt ∧ x.toInt < 2147483648 := by
  have h1 := x.le_toInt
  have h2 := x.toInt_lt
  omega
theorem iI_ex (x : Int32) : ∃ z : Int, (-2147483648 ≤ z ∧ z < 2147483648) ∧ x = iI z := ⟨x.toInt, iI_rng x, (iI_of x).symm⟩
theorem iI_add (a b : Int) : iI a + iI b = iI (a + b) := (Int32.ofInt_add a b).symm
theorem iI_sub (a b : Int) : iI a - iI b = iI (a - b) := (Int32.ofInt_sub a b).symm
theorem iI_mul (a b : Int) : iI a * iI b = iI (a * b) := (Int32.ofInt_mul a b).symm
theorem iI_neg (a : Int) : -iI a = iI (-a) := (Int32.ofInt_neg a).symm
theorem iI_nat (n : Nat) : iI (n : Int) = nI n := Int32.ofInt_eq_ofNat
theorem iI_clamp {z : Int} (h : -2147483648 ≤ z ∧ z < 2147483648) : (iI z).toNatClampNeg = z.toNat := Int32.toNatClampNeg_ofInt_of_le (by omega) (by omega)
theorem iI_eq {a b : Int} (ha : -2147483648 ≤ a ∧ a < 2147483648) (hb : -2147483648 ≤ b ∧ b < 2147483648) : iI a = iI b ↔ a = b := by
  constructor
  · intro h
    have := congrArg Int32.toInt h
    rwa [iI_toInt ha, iI_toInt hb] at this
  · intro h
    rw [h]
theorem iI_lt {a b : Int} (ha : -2147483648 ≤ a ∧ a < 2147483648) (hb : -2147483648 ≤ b ∧ b < 2147483648) : iI a < iI b ↔ a < b := by
  rw [Int32.lt_iff_toInt_lt, iI_toInt ha, iI_toInt hb]
theorem iI_le {a b : Int} (ha : -2147483648 ≤ a ∧ a < 2147483648) (hb : -2147483648 ≤ b ∧ b < 2147483648) : iI a ≤ iI b ↔ a ≤ b := by
  rw [Int32.le_iff_toInt_le, iI_toInt ha, iI_toInt hb]
theorem iI_0 : iI 0 = 0 := rfl
theorem iI_in {z : Int} {n : Nat} (h : 0 ≤ z ∧ z < n) (hn : n < 2147483648) : vp_in (iI z) n := by
  rw [vp_in_iff, iI_toInt (by omega)]
  exact h
theorem iI_inj {a b : Int} (h : iI a = iI b) (ha : -2147483648 ≤ a ∧ a < 2147483648) (hb : -2147483648 ≤ b ∧ b < 2147483648) : a = b := (iI_eq ha hb).mp h
end
section
/-! WORLDS BY ADDRESS: what is known of the cells is a function from addresses; a write is an update of it. -/
abbrev Wm : Type := Nat → Option va_E
/-- the heap holds all that M says, and all of it lies in A -/
def wd_ok (D : va_G) (cl : List vw_C) (A : Nat → Prop) (M : Wm) (H : Heap) : Prop := ∀ (q : Nat) (x : va_E), M q = some x → va_at D cl (q, x) H ∧ A q
def wd_ls (M : Wm) (n : Nat) : va_W := (List.range n).filterMap (fun q => (M q).map (fun x => (q, x)))
theorem wd_ls_mem {M : Wm} {n q : Nat} {x : va_E} : (q, x) ∈ wd_ls M n ↔ q < n ∧ M q = some x := by
  unfold wd_ls
  rw [List.mem_filterMap]
  constructor
  · rintro ⟨a, ha, h⟩
    rw [List.mem_range] at ha
    cases hm : M a with
    | none => rw [hm] at h; cases h
    | some z => rw [hm] at h; cases h; exact ⟨ha, hm⟩
  · rintro ⟨h1, h2⟩
    exact ⟨q, List.mem_range.mpr h1, by rw [h2]; rfl⟩
theorem wd_ls_pw (M : Wm) (n : Nat) : (wd_ls M n).Pairwise (fun a b => a.1 < b.1) := by
  unfold wd_ls
  rw [List.pairwise_filterMap]
  refine List.pairwise_lt_range.imp ?_
  intro a b hab x hx y hy
  cases ha : M a with
  | none => rw [ha] at hx; cases hx
  | some u =>
    cases hb : M b with
    | none => rw [hb] at hy; cases hy
    | some v => rw [ha] at hx; rw [hb] at hy; cases hx; cases hy; exact hab
theorem wd_ls_inj {M : Wm} {n : Nat} (i j : Nat) (a b : Nat × va_E) (hi : (wd_ls M n)[i]? = some a) (hj : (wd_ls M n)[j]? = some b) (h : a.1 = b.1) : i = j := by
  have hp := List.pairwise_iff_getElem.mp (wd_ls_pw M n)
  obtain ⟨li, ei⟩ := List.getElem?_eq_some_iff.mp hi
  obtain ⟨lj, ej⟩ := List.getElem?_eq_some_iff.mp hj
  rcases Nat.lt_trichotomy i j with q | q | q
  · have := hp i j li lj q
    rw [ei, ej] at this
    omega
  · exact q
  · have := hp j i lj li q
    rw [ei, ej] at this
    omega
theorem wd_ls_P {D : va_G} {cl : List vw_C} {A : Nat → Prop} {M : Wm} {H : Heap} (h : wd_ok D cl A M H) (n : Nat) : va_P D cl (wd_ls M n) H := by
  intro k q hq
  obtain ⟨a, x⟩ := q
  exact (h a x (wd_ls_mem.mp (List.mem_of_getElem? hq)).2).1
theorem wd_ls_D {D : va_G} {cl : List vw_C} {A : Nat → Prop} {M : Wm} {H : Heap} (h : wd_ok D cl A M H) (n : Nat) : va_D A (wd_ls M n) := by
  refine ⟨wd_ls_inj, ?_⟩
  intro k q hq
  obtain ⟨a, x⟩ := q
  exact (h a x (wd_ls_mem.mp (List.mem_of_getElem? hq)).2).2
theorem wd_ls_at {D : va_G} {cl : List vw_C} {A : Nat → Prop} {M : Wm} {H : Heap} (h : wd_ok D cl A M H) {a : Nat} {x : va_E} (ha : M a = some x) : ∃ k : Nat, (wd_ls M H.size)[k]? = some (a, x) := by
  have h1 : (a, x) ∈ wd_ls M H.size := wd_ls_mem.mpr ⟨(h a x ha).1.lt, ha⟩
  exact List.mem_iff_getElem?.mp h1
theorem wd_one {D : va_G} {cl : List vw_C} {A : Nat → Prop} {M : Wm} {H : Heap} (h : wd_ok D cl A M H) {a : Nat} {x : va_E} (ha : M a = some x) : va_P D cl [(a, x)] H := by
  intro k q hq
  cases k with
  | zero => cases hq; exact (h a x ha).1
  | succ k => simp at hq
theorem wd_set {D : va_G} {cl : List vw_C} {A : Nat → Prop} {M : Wm} {H H1 : Heap} (h : wd_ok D cl A M H) {a k : Nat} {x y : va_E} (ha : (wd_ls M H.size)[k]? = some (a, x)) (h1 : va_P D cl ((wd_ls M H.size).set k (a, y)) H1) : wd_ok D cl A (va_up M a (some y)) H1 := by
  have hk : k < (wd_ls M H.size).length := (List.getElem?_eq_some_iff.mp ha).1
  intro q z hz
  unfold va_up at hz
  by_cases e : q = a
  · rw [if_pos e] at hz
    cases hz
    subst e
    exact ⟨h1 k _ (by rw [List.getElem?_set_self hk]), (h q x (wd_ls_mem.mp (List.mem_of_getElem? ha)).2).2⟩
  · rw [if_neg e] at hz
    obtain ⟨j, hj⟩ := wd_ls_at h hz
    have hne : k ≠ j := by
      intro e2
      subst e2
      rw [ha] at hj
      cases hj
      exact e rfl
    exact ⟨h1 j _ (by rw [List.getElem?_set_ne hne]; exact hj), (h q z hz).2⟩
theorem wd_push {D : va_G} {cl : List vw_C} {A : Nat → Prop} {M : Wm} {H H1 : Heap} (h : wd_ok D cl A M H) {a : Nat} {y : va_E} (h1 : va_P D cl (wd_ls M H.size ++ [(a, y)]) H1) (h2 : va_D A (wd_ls M H.size ++ [(a, y)])) : wd_ok D cl A (va_up M a (some y)) H1 ∧ M a = none := by
  have hl : (wd_ls M H.size ++ [(a, y)])[(wd_ls M H.size).length]? = some (a, y) := by simp
  refine ⟨?_, ?_⟩
  · intro q z hz
    unfold va_up at hz
    by_cases e : q = a
    · rw [if_pos e] at hz
      cases hz
      subst e
      exact ⟨h1 _ _ hl, h2.2 _ _ hl⟩
    · rw [if_neg e] at hz
      obtain ⟨j, hj⟩ := wd_ls_at h hz
      have hlt : j < (wd_ls M H.size).length := (List.getElem?_eq_some_iff.mp hj).1
      exact ⟨h1 j _ (by rw [List.getElem?_append_left hlt]; exact hj), (h q z hz).2⟩
  · cases hm : M a with
    | none => rfl
    | some z =>
      obtain ⟨j, hj⟩ := wd_ls_at h hm
      have hlt : j < (wd_ls M H.size).length := (List.getElem?_eq_some_iff.mp hj).1
      have := h2.1 j _ (a, z) _ (by rw [List.getElem?_append_left hlt]; exact hj) hl rfl
      omega
/-- a world of which less is known -/
theorem wd_ok.less {D : va_G} {cl : List vw_C} {A : Nat → Prop} {M M' : Wm} {H : Heap} (h : wd_ok D cl A M H) (hl : ∀ q x, M' q = some x → M q = some x) : wd_ok D cl A M' H := fun q x hx => h q x (hl q x hx)
theorem wd_up_s {M : Wm} {a : Nat} {x : Option va_E} : va_up M a x a = x := by unfold va_up; exact if_pos rfl
theorem wd_up_n {M : Wm} {a b : Nat} {x : Option va_E} (h : b ≠ a) : va_up M a x b = M b := by unfold va_up; exact if_neg h
end
section
/-! ROWS OF THE WALK, over worlds by address. A goal 'gW .. pc lv st M': from pc, with the locals lv, the stack st and the world M, the machine comes to Q. -/
abbrev xK : Type := List (ClassId × FieldType)
def cX (p : Program) (m : MethodId) (meth : Method) (c : Code) (cc : ByteArray) (nL : Nat) (s : State) (args : Array Value) (own : String) (D : va_G) (tys : xK) (A : Nat → Prop) : Prop :=
  CallFix p m c cc nL s args xAll own ∧ va_K D xCl tys s ∧ (∀ w ∈ xNw, va_Nw w s) ∧ (∀ q : Nat, s.heap.size ≤ q → A q) ∧ meth.locks = false
def gW (p : Program) (l : Launch) (e : Env) (R : Room) (s : State) (m : MethodId) (args : Array Value) (below : List Frame) (meth : Method) (c : Code) (D : va_G) (A : Nat → Prop) (nL cells slots : Nat) (Q : State → Prop) (P : Heap → List Loc → Prop) (pc : Nat) (lv : List (Nat × Value)) (st : List Value) (M : Wm) : Prop :=
  ∀ (H : Heap) (locs : List Loc) (ls : Array Slot), P H locs → wd_ok D xCl A M H → va_S A s.heap H locs → lv_has ls nL lv → W p l e R s m args below meth c H locs cells slots Q (F0 m pc ls st)
/-- heap and places written: whatever they are -/
def wX : Heap → List Loc → Prop := fun _ _ => True
/-- nothing written yet -/
def wN (s : State) : Heap → List Loc → Prop := fun H locs => H = s.heap ∧ locs = []
section XR
variable {p : Program} {l : Launch} {e : Env} {R : Room} {s : State} {m : MethodId} {args : Array Value} {below : List Frame} {meth : Method} {c : Code} {cells slots : Nat} {Q : State → Prop} {P : Heap → List Loc → Prop}
variable {cc : ByteArray} {pc nL : Nat} {own : String} {D : va_G} {A : Nat → Prop} {tys : xK} {lv lv' : List (Nat × Value)} {st : List Value} {M : Wm}
theorem g_iconst (C : cX p m meth c cc nL s args own D tys A) {n : Int} (hd : decode cc pc = .ok (.iconst n, 1)) (k : gW p l e R s m args below meth c D A nL cells slots Q P (pc + 1) lv (.int (iI n) :: st) M) : gW p l e R s m args below meth c D A nL cells slots Q P pc lv st M :=
  fun H locs ls hP hW hS hl => lv_iconst C.1.1 C.1.2.1 hd rfl (k H locs ls hP hW hS hl)
theorem g_bipush (C : cX p m meth c cc nL s args own D tys A) {n : Int} (hd : decode cc pc = .ok (.bipush n, 2)) (hn : (Int8.ofInt n).toInt32 = iI n) (k : gW p l e R s m args below meth c D A nL cells slots Q P (pc + 2) lv (.int (iI n) :: st) M) : gW p l e R s m args below meth c D A nL cells slots Q P pc lv st M :=
  fun H locs ls hP hW hS hl => lv_bipush C.1.1 C.1.2.1 hd hn (k H locs ls hP hW hS hl)
theorem g_sipush (C : cX p m meth c cc nL s args own D tys A) {n : Int} (hd : decode cc pc = .ok (.sipush n, 3)) (hn : (Int16.ofInt n).toInt32 = iI n) (k : gW p l e R s m args below meth c D A nL cells slots Q P (pc + 3) lv (.int (iI n) :: st) M) : gW p l e R s m args below meth c D A nL cells slots Q P pc lv st M :=
  fun H locs ls hP hW hS hl => lv_sipush C.1.1 C.1.2.1 hd hn (k H locs ls hP hW hS hl)
theorem g_ldc (C : cX p m meth c cc nL s args own D tys A) {index : Nat} (n : Int) (hc : Jvm.Cond.constant own index (iI n) ∈ xAll) (hd : decode cc pc = .ok (.ldc index, 2)) (k : gW p l e R s m args below meth c D A nL cells slots Q P (pc + 2) lv (.int (iI n) :: st) M) : gW p l e R s m args below meth c D A nL cells slots Q P pc lv st M :=
  fun H locs ls hP hW hS hl => lv_ldc C.1.1 C.1.2.1 C.1.2.2.2.1 (C.1.2.2.2.2 _ hc) hd (k H locs ls hP hW hS hl)
theorem g_null (C : cX p m meth c cc nL s args own D tys A) (hd : decode cc pc = .ok (.aconst_null, 1)) (k : gW p l e R s m args below meth c D A nL cells slots Q P (pc + 1) lv (.null :: st) M) : gW p l e R s m args below meth c D A nL cells slots Q P pc lv st M :=
  fun H locs ls hP hW hS hl => lv_null C.1.1 C.1.2.1 hd (k H locs ls hP hW hS hl)
theorem g_iload_n (C : cX p m meth c cc nL s args own D tys A) {k0 : Fin 4} (hd : decode cc pc = .ok (.iload_n k0, 1)) (i : Nat) {x : Int32} (hi : lv[i]? = some ((k0 : Nat), .int x)) (k : gW p l e R s m args below meth c D A nL cells slots Q P (pc + 1) lv (.int x :: st) M) : gW p l e R s m args below meth c D A nL cells slots Q P pc lv st M :=
  fun H locs ls hP hW hS hl => lv_iload_n C.1.1 C.1.2.1 hd rfl (lv_at hl i hi) (k H locs ls hP hW hS hl)
theorem g_iload (C : cX p m meth c cc nL s args own D tys A) {k0 : Nat} (hd : decode cc pc = .ok (.iload k0, 2)) (i : Nat) {x : Int32} (hi : lv[i]? = some (k0, .int x)) (k : gW p l e R s m args below meth c D A nL cells slots Q P (pc + 2) lv (.int x :: st) M) : gW p l e R s m args below meth c D A nL cells slots Q P pc lv st M :=
  fun H locs ls hP hW hS hl => lv_iload C.1.1 C.1.2.1 hd (lv_at hl i hi) (k H locs ls hP hW hS hl)
theorem g_aload_n (C : cX p m meth c cc nL s args own D tys A) {k0 : Fin 4} (hd : decode cc pc = .ok (.aload_n k0, 1)) (i : Nat) {x : Nat} (hi : lv[i]? = some ((k0 : Nat), .ref x)) (k : gW p l e R s m args below meth c D A nL cells slots Q P (pc + 1) lv (.ref x :: st) M) : gW p l e R s m args below meth c D A nL cells slots Q P pc lv st M :=
  fun H locs ls hP hW hS hl => lv_aload_n C.1.1 C.1.2.1 hd rfl (lv_at hl i hi) (k H locs ls hP hW hS hl)
theorem g_aload (C : cX p m meth c cc nL s args own D tys A) {k0 : Nat} (hd : decode cc pc = .ok (.aload k0, 2)) (i : Nat) {x : Nat} (hi : lv[i]? = some (k0, .ref x)) (k : gW p l e R s m args below meth c D A nL cells slots Q P (pc + 2) lv (.ref x :: st) M) : gW p l e R s m args below meth c D A nL cells slots Q P pc lv st M :=
  fun H locs ls hP hW hS hl => lv_aload C.1.1 C.1.2.1 hd (lv_at hl i hi) (k H locs ls hP hW hS hl)
theorem g_istore_n (C : cX p m meth c cc nL s args own D tys A) {k0 : Fin 4} {x : Int32} (hd : decode cc pc = .ok (.istore_n k0, 1)) (hn : (k0 : Nat) < nL) (hv : ((k0 : Nat), Value.int x) :: lv.filter (fun q => !(q.1 == (k0 : Nat)) && !(q.1 + 1 == (k0 : Nat) && q.2.category == 2)) = lv') (k : gW p l e R s m args below meth c D A nL cells slots Q P (pc + 1) lv' st M) : gW p l e R s m args below meth c D A nL cells slots Q P pc lv (.int x :: st) M :=
  fun H locs _ hP hW hS hl => lv_istore_n C.1.1 C.1.2.1 hd rfl hl hn hv (fun ls' hl' => k H locs ls' hP hW hS hl')
theorem g_istore (C : cX p m meth c cc nL s args own D tys A) {k0 : Nat} {x : Int32} (hd : decode cc pc = .ok (.istore k0, 2)) (hn : k0 < nL) (hv : (k0, Value.int x) :: lv.filter (fun q => !(q.1 == k0) && !(q.1 + 1 == k0 && q.2.category == 2)) = lv') (k : gW p l e R s m args below meth c D A nL cells slots Q P (pc + 2) lv' st M) : gW p l e R s m args below meth c D A nL cells slots Q P pc lv (.int x :: st) M :=
  fun H locs _ hP hW hS hl => lv_istore C.1.1 C.1.2.1 hd hl hn hv (fun ls' hl' => k H locs ls' hP hW hS hl')
theorem g_astore_n (C : cX p m meth c cc nL s args own D tys A) {k0 : Fin 4} {x : Nat} (hd : decode cc pc = .ok (.astore_n k0, 1)) (hn : (k0 : Nat) < nL) (hv : ((k0 : Nat), Value.ref x) :: lv.filter (fun q => !(q.1 == (k0 : Nat)) && !(q.1 + 1 == (k0 : Nat) && q.2.category == 2)) = lv') (k : gW p l e R s m args below meth c D A nL cells slots Q P (pc + 1) lv' st M) : gW p l e R s m args below meth c D A nL cells slots Q P pc lv (.ref x :: st) M :=
  fun H locs _ hP hW hS hl => lv_astore_n C.1.1 C.1.2.1 hd rfl hl hn hv (fun ls' hl' => k H locs ls' hP hW hS hl')
theorem g_astore (C : cX p m meth c cc nL s args own D tys A) {k0 : Nat} {x : Nat} (hd : decode cc pc = .ok (.astore k0, 2)) (hn : k0 < nL) (hv : (k0, Value.ref x) :: lv.filter (fun q => !(q.1 == k0) && !(q.1 + 1 == k0 && q.2.category == 2)) = lv') (k : gW p l e R s m args below meth c D A nL cells slots Q P (pc + 2) lv' st M) : gW p l e R s m args below meth c D A nL cells slots Q P pc lv (.ref x :: st) M :=
  fun H locs _ hP hW hS hl => lv_astore C.1.1 C.1.2.1 hd hl hn hv (fun ls' hl' => k H locs ls' hP hW hS hl')
theorem g_iinc (C : cX p m meth c cc nL s args own D tys A) {k0 : Nat} {n x : Int} (hd : decode cc pc = .ok (.iinc k0 n, 3)) (i : Nat) (hi : lv[i]? = some (k0, .int (iI x))) (hn : k0 < nL) (hv : (k0, Value.int (iI (x + n))) :: lv.filter (fun q => !(q.1 == k0) && !(q.1 + 1 == k0 && q.2.category == 2)) = lv') (k : gW p l e R s m args below meth c D A nL cells slots Q P (pc + 3) lv' st M) : gW p l e R s m args below meth c D A nL cells slots Q P pc lv st M :=
  fun H locs _ hP hW hS hl => lv_iinc (k := i) C.1.1 C.1.2.1 hd hl hi (iI_add x n) hn hv (fun ls' hl' => k H locs ls' hP hW hS hl')
theorem g_iadd (C : cX p m meth c cc nL s args own D tys A) {a b : Int} (hd : decode cc pc = .ok (.iadd, 1)) (k : gW p l e R s m args below meth c D A nL cells slots Q P (pc + 1) lv (.int (iI (a + b)) :: st) M) : gW p l e R s m args below meth c D A nL cells slots Q P pc lv (.int (iI b) :: .int (iI a) :: st) M :=
  fun H locs ls hP hW hS hl => lv_iadd C.1.1 C.1.2.1 hd (by rw [iI_add]; exact k H locs ls hP hW hS hl)
theorem g_isub (C : cX p m meth c cc nL s args own D tys A) {a b : Int} (hd : decode cc pc = .ok (.isub, 1)) (k : gW p l e R s m args below meth c D A nL cells slots Q P (pc + 1) lv (.int (iI (a - b)) :: st) M) : gW p l e R s m args below meth c D A nL cells slots Q P pc lv (.int (iI b) :: .int (iI a) :: st) M :=
  fun H locs ls hP hW hS hl => lv_isub C.1.1 C.1.2.1 hd (by rw [iI_sub]; exact k H locs ls hP hW hS hl)
theorem g_imul (C : cX p m meth c cc nL s args own D tys A) {a b : Int} (hd : decode cc pc = .ok (.imul, 1)) (k : gW p l e R s m args below meth c D A nL cells slots Q P (pc + 1) lv (.int (iI (a * b)) :: st) M) : gW p l e R s m args below meth c D A nL cells slots Q P pc lv (.int (iI b) :: .int (iI a) :: st) M :=
  fun H locs ls hP hW hS hl => lv_imul C.1.1 C.1.2.1 hd (by rw [iI_mul]; exact k H locs ls hP hW hS hl)
theorem g_ineg (C : cX p m meth c cc nL s args own D tys A) {a : Int} (hd : decode cc pc = .ok (.ineg, 1)) (k : gW p l e R s m args below meth c D A nL cells slots Q P (pc + 1) lv (.int (iI (-a)) :: st) M) : gW p l e R s m args below meth c D A nL cells slots Q P pc lv (.int (iI a) :: st) M :=
  fun H locs ls hP hW hS hl => lv_ineg C.1.1 C.1.2.1 hd (by rw [iI_neg]; exact k H locs ls hP hW hS hl)
theorem g_ishl (C : cX p m meth c cc nL s args own D tys A) {x y : Int32} (z : Int) (hz : x <<< (y &&& 31) = iI z) (hd : decode cc pc = .ok (.ishl, 1)) (k : gW p l e R s m args below meth c D A nL cells slots Q P (pc + 1) lv (.int (iI z) :: st) M) : gW p l e R s m args below meth c D A nL cells slots Q P pc lv (.int y :: .int x :: st) M :=
  fun H locs ls hP hW hS hl => lv_ishl C.1.1 C.1.2.1 hd (by rw [hz]; exact k H locs ls hP hW hS hl)
theorem g_ishr (C : cX p m meth c cc nL s args own D tys A) {x y : Int32} (z : Int) (hz : x >>> (y &&& 31) = iI z) (hd : decode cc pc = .ok (.ishr, 1)) (k : gW p l e R s m args below meth c D A nL cells slots Q P (pc + 1) lv (.int (iI z) :: st) M) : gW p l e R s m args below meth c D A nL cells slots Q P pc lv (.int y :: .int x :: st) M :=
  fun H locs ls hP hW hS hl => lv_ishr C.1.1 C.1.2.1 hd (by rw [hz]; exact k H locs ls hP hW hS hl)
theorem g_iand (C : cX p m meth c cc nL s args own D tys A) {x y : Int32} (z : Int) (hz : x &&& y = iI z) (hd : decode cc pc = .ok (.iand, 1)) (k : gW p l e R s m args below meth c D A nL cells slots Q P (pc + 1) lv (.int (iI z) :: st) M) : gW p l e R s m args below meth c D A nL cells slots Q P pc lv (.int y :: .int x :: st) M :=
  fun H locs ls hP hW hS hl => lv_iand C.1.1 C.1.2.1 hd (by rw [hz]; exact k H locs ls hP hW hS hl)
theorem g_ior (C : cX p m meth c cc nL s args own D tys A) {x y : Int32} (z : Int) (hz : x ||| y = iI z) (hd : decode cc pc = .ok (.ior, 1)) (k : gW p l e R s m args below meth c D A nL cells slots Q P (pc + 1) lv (.int (iI z) :: st) M) : gW p l e R s m args below meth c D A nL cells slots Q P pc lv (.int y :: .int x :: st) M :=
  fun H locs ls hP hW hS hl => lv_ior C.1.1 C.1.2.1 hd (by rw [hz]; exact k H locs ls hP hW hS hl)
theorem g_dup (C : cX p m meth c cc nL s args own D tys A) {v : Value} (hv : v.category = 1) (hd : decode cc pc = .ok (.dup, 1)) (k : gW p l e R s m args below meth c D A nL cells slots Q P (pc + 1) lv (v :: v :: st) M) : gW p l e R s m args below meth c D A nL cells slots Q P pc lv (v :: st) M :=
  fun H locs ls hP hW hS hl => lv_dup C.1.1 C.1.2.1 hd hv (k H locs ls hP hW hS hl)
theorem g_pop (C : cX p m meth c cc nL s args own D tys A) {v : Value} (hv : v.category = 1) (hd : decode cc pc = .ok (.pop, 1)) (k : gW p l e R s m args below meth c D A nL cells slots Q P (pc + 1) lv st M) : gW p l e R s m args below meth c D A nL cells slots Q P pc lv (v :: st) M :=
  fun H locs ls hP hW hS hl => lv_pop C.1.1 C.1.2.1 hd hv (k H locs ls hP hW hS hl)
theorem g_dup2 (C : cX p m meth c cc nL s args own D tys A) {v w : Value} (hv : v.category = 1) (hw : w.category = 1) (hd : decode cc pc = .ok (.dup2, 1)) (k : gW p l e R s m args below meth c D A nL cells slots Q P (pc + 1) lv (v :: w :: v :: w :: st) M) : gW p l e R s m args below meth c D A nL cells slots Q P pc lv (v :: w :: st) M :=
  fun H locs ls hP hW hS hl => lv_dup2_11 C.1.1 C.1.2.1 hd hv hw (k H locs ls hP hW hS hl)
theorem g_dup_x1 (C : cX p m meth c cc nL s args own D tys A) {v w : Value} (hv : v.category = 1) (hw : w.category = 1) (hd : decode cc pc = .ok (.dup_x1, 1)) (k : gW p l e R s m args below meth c D A nL cells slots Q P (pc + 1) lv (v :: w :: v :: st) M) : gW p l e R s m args below meth c D A nL cells slots Q P pc lv (v :: w :: st) M :=
  fun H locs ls hP hW hS hl => lv_dup_x1 C.1.1 C.1.2.1 hd hv hw (k H locs ls hP hW hS hl)
theorem g_goto (C : cX p m meth c cc nL s args own D tys A) {off : Int} (tgt : Nat) (hd : decode cc pc = .ok (.goto off, 3)) (ht : (pc : Int) + off = (tgt : Int)) (k : gW p l e R s m args below meth c D A nL cells slots Q P tgt lv st M) : gW p l e R s m args below meth c D A nL cells slots Q P pc lv st M :=
  fun H locs ls hP hW hS hl => lv_goto C.1.1 C.1.2.1 hd ht (k H locs ls hP hW hS hl)
/-- fewer locals, in any order, by their places -/
theorem g_sub (ks : List Nat) (hk : lv_pick lv ks = lv') (k : gW p l e R s m args below meth c D A nL cells slots Q P pc lv' st M) : gW p l e R s m args below meth c D A nL cells slots Q P pc lv st M :=
  fun H locs ls hP hW hS hl => k H locs ls hP hW hS (lv_sub hl ks hk)
theorem g_world {M' : Wm} (hM : M = M') (k : gW p l e R s m args below meth c D A nL cells slots Q P pc lv st M') : gW p l e R s m args below meth c D A nL cells slots Q P pc lv st M := by
  rw [hM]; exact k
theorem g_widen {k n : Nat} (h1 : cells ≤ k) (h2 : slots ≤ n) (kk : gW p l e R s m args below meth c D A nL k n Q P pc lv st M) : gW p l e R s m args below meth c D A nL cells slots Q P pc lv st M :=
  fun H locs ls hP hW hS hl => W.widen h1 h2 (kk H locs ls hP hW hS hl)
theorem g_icmp_eq (C : cX p m meth c cc nL s args own D tys A) {a b off : Int} (tgt : Nat) (hd : decode cc pc = .ok (.if_icmp .eq off, 3)) (ht : (pc : Int) + off = (tgt : Int)) (hr : (-2147483648 ≤ a ∧ a < 2147483648) ∧ (-2147483648 ≤ b ∧ b < 2147483648))
    (kt : a = b → gW p l e R s m args below meth c D A nL cells slots Q P tgt lv st M) (kf : ¬ (a = b) → gW p l e R s m args below meth c D A nL cells slots Q P (pc + 3) lv st M) : gW p l e R s m args below meth c D A nL cells slots Q P pc lv (.int (iI b) :: .int (iI a) :: st) M := by
  obtain ⟨ha, hb⟩ := hr
  intro H locs ls hP hW hS hl
  refine lv_icmp_eq C.1.1 C.1.2.1 hd ht (fun q => kt ((iI_eq ha hb).mp q) H locs ls hP hW hS hl) (fun q => kf (fun z => q ?_) H locs ls hP hW hS hl)
  have q := z
  exact (iI_eq ha hb).mpr q
theorem g_icmp_ne (C : cX p m meth c cc nL s args own D tys A) {a b off : Int} (tgt : Nat) (hd : decode cc pc = .ok (.if_icmp .ne off, 3)) (ht : (pc : Int) + off = (tgt : Int)) (hr : (-2147483648 ≤ a ∧ a < 2147483648) ∧ (-2147483648 ≤ b ∧ b < 2147483648))
    (kt : ¬ a = b → gW p l e R s m args below meth c D A nL cells slots Q P tgt lv st M) (kf : a = b → gW p l e R s m args below meth c D A nL cells slots Q P (pc + 3) lv st M) : gW p l e R s m args below meth c D A nL cells slots Q P pc lv (.int (iI b) :: .int (iI a) :: st) M := by
  obtain ⟨ha, hb⟩ := hr
  intro H locs ls hP hW hS hl
  refine lv_icmp_ne C.1.1 C.1.2.1 hd ht (fun q => kt (fun r => q ((iI_eq ha hb).mpr r)) H locs ls hP hW hS hl) (fun q => kf ((iI_eq ha hb).mp q) H locs ls hP hW hS hl)
theorem g_icmp_lt (C : cX p m meth c cc nL s args own D tys A) {a b off : Int} (tgt : Nat) (hd : decode cc pc = .ok (.if_icmp .lt off, 3)) (ht : (pc : Int) + off = (tgt : Int)) (hr : (-2147483648 ≤ a ∧ a < 2147483648) ∧ (-2147483648 ≤ b ∧ b < 2147483648))
    (kt : a < b → gW p l e R s m args below meth c D A nL cells slots Q P tgt lv st M) (kf : ¬ (a < b) → gW p l e R s m args below meth c D A nL cells slots Q P (pc + 3) lv st M) : gW p l e R s m args below meth c D A nL cells slots Q P pc lv (.int (iI b) :: .int (iI a) :: st) M := by
  obtain ⟨ha, hb⟩ := hr
  intro H locs ls hP hW hS hl
  refine lv_icmp_lt C.1.1 C.1.2.1 hd ht (fun q => kt ((iI_lt ha hb).mp q) H locs ls hP hW hS hl) (fun q => kf (fun z => q ?_) H locs ls hP hW hS hl)
  have q := z
  exact (iI_lt ha hb).mpr q
theorem g_icmp_ge (C : cX p m meth c cc nL s args own D tys A) {a b off : Int} (tgt : Nat) (hd : decode cc pc = .ok (.if_icmp .ge off, 3)) (ht : (pc : Int) + off = (tgt : Int)) (hr : (-2147483648 ≤ a ∧ a < 2147483648) ∧ (-2147483648 ≤ b ∧ b < 2147483648))
    (kt : b ≤ a → gW p l e R s m args below meth c D A nL cells slots Q P tgt lv st M) (kf : ¬ (b ≤ a) → gW p l e R s m args below meth c D A nL cells slots Q P (pc + 3) lv st M) : gW p l e R s m args below meth c D A nL cells slots Q P pc lv (.int (iI b) :: .int (iI a) :: st) M := by
  obtain ⟨ha, hb⟩ := hr
  intro H locs ls hP hW hS hl
  refine lv_icmp_ge C.1.1 C.1.2.1 hd ht (fun q => kt ((iI_le hb ha).mp q) H locs ls hP hW hS hl) (fun q => kf (fun z => q ?_) H locs ls hP hW hS hl)
  have q := z
  exact (iI_le hb ha).mpr q
theorem g_icmp_gt (C : cX p m meth c cc nL s args own D tys A) {a b off : Int} (tgt : Nat) (hd : decode cc pc = .ok (.if_icmp .gt off, 3)) (ht : (pc : Int) + off = (tgt : Int)) (hr : (-2147483648 ≤ a ∧ a < 2147483648) ∧ (-2147483648 ≤ b ∧ b < 2147483648))
    (kt : b < a → gW p l e R s m args below meth c D A nL cells slots Q P tgt lv st M) (kf : ¬ (b < a) → gW p l e R s m args below meth c D A nL cells slots Q P (pc + 3) lv st M) : gW p l e R s m args below meth c D A nL cells slots Q P pc lv (.int (iI b) :: .int (iI a) :: st) M := by
  obtain ⟨ha, hb⟩ := hr
  intro H locs ls hP hW hS hl
  refine lv_icmp_gt C.1.1 C.1.2.1 hd ht (fun q => kt ((iI_lt hb ha).mp q) H locs ls hP hW hS hl) (fun q => kf (fun z => q ?_) H locs ls hP hW hS hl)
  have q := z
  exact (iI_lt hb ha).mpr q
theorem g_icmp_le (C : cX p m meth c cc nL s args own D tys A) {a b off : Int} (tgt : Nat) (hd : decode cc pc = .ok (.if_icmp .le off, 3)) (ht : (pc : Int) + off = (tgt : Int)) (hr : (-2147483648 ≤ a ∧ a < 2147483648) ∧ (-2147483648 ≤ b ∧ b < 2147483648))
    (kt : a ≤ b → gW p l e R s m args below meth c D A nL cells slots Q P tgt lv st M) (kf : ¬ (a ≤ b) → gW p l e R s m args below meth c D A nL cells slots Q P (pc + 3) lv st M) : gW p l e R s m args below meth c D A nL cells slots Q P pc lv (.int (iI b) :: .int (iI a) :: st) M := by
  obtain ⟨ha, hb⟩ := hr
  intro H locs ls hP hW hS hl
  refine lv_icmp_le C.1.1 C.1.2.1 hd ht (fun q => kt ((iI_le ha hb).mp q) H locs ls hP hW hS hl) (fun q => kf (fun z => q ?_) H locs ls hP hW hS hl)
  have q := z
  exact (iI_le ha hb).mpr q
theorem g_if_eq (C : cX p m meth c cc nL s args own D tys A) {a off : Int} (tgt : Nat) (hd : decode cc pc = .ok (.ifCond .eq off, 3)) (ht : (pc : Int) + off = (tgt : Int)) (ha : (-2147483648 ≤ a ∧ a < 2147483648))
    (kt : a = 0 → gW p l e R s m args below meth c D A nL cells slots Q P tgt lv st M) (kf : ¬ (a = 0) → gW p l e R s m args below meth c D A nL cells slots Q P (pc + 3) lv st M) : gW p l e R s m args below meth c D A nL cells slots Q P pc lv (.int (iI a) :: st) M := by
  have h0 : -2147483648 ≤ (0 : Int) ∧ (0 : Int) < 2147483648 := by omega
  intro H locs ls hP hW hS hl
  refine lv_if_eq C.1.1 C.1.2.1 hd ht (fun q => kt ((iI_eq ha h0).mp q) H locs ls hP hW hS hl) (fun q => kf (fun z => q ?_) H locs ls hP hW hS hl)
  have q := z
  exact (iI_eq ha h0).mpr q
theorem g_if_ne (C : cX p m meth c cc nL s args own D tys A) {a off : Int} (tgt : Nat) (hd : decode cc pc = .ok (.ifCond .ne off, 3)) (ht : (pc : Int) + off = (tgt : Int)) (ha : (-2147483648 ≤ a ∧ a < 2147483648))
    (kt : ¬ a = 0 → gW p l e R s m args below meth c D A nL cells slots Q P tgt lv st M) (kf : a = 0 → gW p l e R s m args below meth c D A nL cells slots Q P (pc + 3) lv st M) : gW p l e R s m args below meth c D A nL cells slots Q P pc lv (.int (iI a) :: st) M := by
  have h0 : -2147483648 ≤ (0 : Int) ∧ (0 : Int) < 2147483648 := by omega
  intro H locs ls hP hW hS hl
  refine lv_if_ne C.1.1 C.1.2.1 hd ht (fun q => kt (fun r => q ((iI_eq ha h0).mpr r)) H locs ls hP hW hS hl) (fun q => kf ((iI_eq ha h0).mp q) H locs ls hP hW hS hl)
theorem g_if_lt (C : cX p m meth c cc nL s args own D tys A) {a off : Int} (tgt : Nat) (hd : decode cc pc = .ok (.ifCond .lt off, 3)) (ht : (pc : Int) + off = (tgt : Int)) (ha : (-2147483648 ≤ a ∧ a < 2147483648))
    (kt : a < 0 → gW p l e R s m args below meth c D A nL cells slots Q P tgt lv st M) (kf : ¬ (a < 0) → gW p l e R s m args below meth c D A nL cells slots Q P (pc + 3) lv st M) : gW p l e R s m args below meth c D A nL cells slots Q P pc lv (.int (iI a) :: st) M := by
  have h0 : -2147483648 ≤ (0 : Int) ∧ (0 : Int) < 2147483648 := by omega
  intro H locs ls hP hW hS hl
  refine lv_if_lt C.1.1 C.1.2.1 hd ht (fun q => kt ((iI_lt ha h0).mp q) H locs ls hP hW hS hl) (fun q => kf (fun z => q ?_) H locs ls hP hW hS hl)
  have q := z
  exact (iI_lt ha h0).mpr q
theorem g_if_ge (C : cX p m meth c cc nL s args own D tys A) {a off : Int} (tgt : Nat) (hd : decode cc pc = .ok (.ifCond .ge off, 3)) (ht : (pc : Int) + off = (tgt : Int)) (ha : (-2147483648 ≤ a ∧ a < 2147483648))
    (kt : 0 ≤ a → gW p l e R s m args below meth c D A nL cells slots Q P tgt lv st M) (kf : ¬ (0 ≤ a) → gW p l e R s m args below meth c D A nL cells slots Q P (pc + 3) lv st M) : gW p l e R s m args below meth c D A nL cells slots Q P pc lv (.int (iI a) :: st) M := by
  have h0 : -2147483648 ≤ (0 : Int) ∧ (0 : Int) < 2147483648 := by omega
  intro H locs ls hP hW hS hl
  refine lv_if_ge C.1.1 C.1.2.1 hd ht (fun q => kt ((iI_le h0 ha).mp q) H locs ls hP hW hS hl) (fun q => kf (fun z => q ?_) H locs ls hP hW hS hl)
  have q := z
  exact (iI_le h0 ha).mpr q
theorem g_if_gt (C : cX p m meth c cc nL s args own D tys A) {a off : Int} (tgt : Nat) (hd : decode cc pc = .ok (.ifCond .gt off, 3)) (ht : (pc : Int) + off = (tgt : Int)) (ha : (-2147483648 ≤ a ∧ a < 2147483648))
    (kt : 0 < a → gW p l e R s m args below meth c D A nL cells slots Q P tgt lv st M) (kf : ¬ (0 < a) → gW p l e R s m args below meth c D A nL cells slots Q P (pc + 3) lv st M) : gW p l e R s m args below meth c D A nL cells slots Q P pc lv (.int (iI a) :: st) M := by
  have h0 : -2147483648 ≤ (0 : Int) ∧ (0 : Int) < 2147483648 := by omega
  intro H locs ls hP hW hS hl
  refine lv_if_gt C.1.1 C.1.2.1 hd ht (fun q => kt ((iI_lt h0 ha).mp q) H locs ls hP hW hS hl) (fun q => kf (fun z => q ?_) H locs ls hP hW hS hl)
  have q := z
  exact (iI_lt h0 ha).mpr q
theorem g_if_le (C : cX p m meth c cc nL s args own D tys A) {a off : Int} (tgt : Nat) (hd : decode cc pc = .ok (.ifCond .le off, 3)) (ht : (pc : Int) + off = (tgt : Int)) (ha : (-2147483648 ≤ a ∧ a < 2147483648))
    (kt : a ≤ 0 → gW p l e R s m args below meth c D A nL cells slots Q P tgt lv st M) (kf : ¬ (a ≤ 0) → gW p l e R s m args below meth c D A nL cells slots Q P (pc + 3) lv st M) : gW p l e R s m args below meth c D A nL cells slots Q P pc lv (.int (iI a) :: st) M := by
  have h0 : -2147483648 ≤ (0 : Int) ∧ (0 : Int) < 2147483648 := by omega
  intro H locs ls hP hW hS hl
  refine lv_if_le C.1.1 C.1.2.1 hd ht (fun q => kt ((iI_le ha h0).mp q) H locs ls hP hW hS hl) (fun q => kf (fun z => q ?_) H locs ls hP hW hS hl)
  have q := z
  exact (iI_le ha h0).mpr q
theorem g_ifnull (C : cX p m meth c cc nL s args own D tys A) {x : Nat} {off : Int} (hd : decode cc pc = .ok (.ifnull off, 3)) (k : gW p l e R s m args below meth c D A nL cells slots Q P (pc + 3) lv st M) : gW p l e R s m args below meth c D A nL cells slots Q P pc lv (.ref x :: st) M :=
  fun H locs ls hP hW hS hl => lv_ifnull C.1.1 C.1.2.1 hd (k H locs ls hP hW hS hl)
theorem g_ifnullN (C : cX p m meth c cc nL s args own D tys A) {off : Int} (tgt : Nat) (hd : decode cc pc = .ok (.ifnull off, 3)) (ht : (pc : Int) + off = (tgt : Int)) (k : gW p l e R s m args below meth c D A nL cells slots Q P tgt lv st M) : gW p l e R s m args below meth c D A nL cells slots Q P pc lv (.null :: st) M :=
  fun H locs ls hP hW hS hl => lv_ifnullN C.1.1 C.1.2.1 hd ht (k H locs ls hP hW hS hl)
theorem g_ifnonnull (C : cX p m meth c cc nL s args own D tys A) {x : Nat} {off : Int} (tgt : Nat) (hd : decode cc pc = .ok (.ifnonnull off, 3)) (ht : (pc : Int) + off = (tgt : Int)) (k : gW p l e R s m args below meth c D A nL cells slots Q P tgt lv st M) : gW p l e R s m args below meth c D A nL cells slots Q P pc lv (.ref x :: st) M :=
  fun H locs ls hP hW hS hl => lv_ifnonnull C.1.1 C.1.2.1 hd ht (k H locs ls hP hW hS hl)
theorem g_ifnonnullN (C : cX p m meth c cc nL s args own D tys A) {off : Int} (hd : decode cc pc = .ok (.ifnonnull off, 3)) (k : gW p l e R s m args below meth c D A nL cells slots Q P (pc + 3) lv st M) : gW p l e R s m args below meth c D A nL cells slots Q P pc lv (.null :: st) M :=
  fun H locs ls hP hW hS hl => lv_ifnonnullN C.1.1 C.1.2.1 hd (k H locs ls hP hW hS hl)
end XR
/-- a getfield of own at the pool's index: field k of the world's class ci -/
def xF (own : String) (index ci k : Nat) : Prop := ∃ (CN : String) (T : u_T) (N : Nat), xCl[ci]? = some (CN, T, N) ∧ (∀ w ∈ u_ws CN T N, w ∈ xAll) ∧ k < N ∧ (Cond.fieldLink own index (T k).1 (T k).2.1 (T k).2.2.1 ∈ xAll ∨ ∃ host, Cond.fieldLinkNest own index (T k).1 (T k).2.1 (T k).2.2.1 host ∈ xNw)
/-- a putfield, of a field that isn't final, of the type ty -/
def xP (own : String) (index ci k : Nat) (ty : FieldType) : Prop := ∃ (CN : String) (T : u_T) (N : Nat) (ty0 : Nat → FieldType), xCl[ci]? = some (CN, T, N) ∧ (∀ w ∈ u_ws CN T N, w ∈ xAll) ∧ (∀ k, k < N → parseFieldDescriptor (T k).2.2.1 = some (ty0 k)) ∧ (∀ a, a < N → ∀ b, b < N → a ≠ b → (T a).2.1 ≠ (T b).2.1) ∧ k < N ∧ (Cond.fieldLink own index (T k).1 (T k).2.1 (T k).2.2.1 ∈ xAll ∨ ∃ host, Cond.fieldLinkNest own index (T k).1 (T k).2.1 (T k).2.2.1 host ∈ xNw) ∧ parseFieldDescriptor (T k).2.2.1 = some ty ∧ (T k).2.2.2 = false
/-- of a final one, in its class's constructor -/
def xPF (own : String) (index ci k : Nat) (ty : FieldType) : Prop := ∃ (CN : String) (T : u_T) (N : Nat) (ty0 : Nat → FieldType), xCl[ci]? = some (CN, T, N) ∧ (∀ w ∈ u_ws CN T N, w ∈ xAll) ∧ (∀ k, k < N → parseFieldDescriptor (T k).2.2.1 = some (ty0 k)) ∧ (∀ a, a < N → ∀ b, b < N → a ≠ b → (T a).2.1 ≠ (T b).2.1) ∧ k < N ∧ Cond.fieldLink own index (T k).1 (T k).2.1 (T k).2.2.1 ∈ xAll ∧ parseFieldDescriptor (T k).2.2.1 = some ty ∧ (T k).2.2.2 = true ∧ (T k).1 = own
def tc (tys : xK) (k : Nat) : ClassId := (tys.getD k (0, .int)).1
section XO
variable {p : Program} {l : Launch} {e : Env} {R : Room} {s : State} {m : MethodId} {args : Array Value} {below : List Frame} {meth : Method} {c : Code} {cells slots : Nat} {Q : State → Prop} {P : Heap → List Loc → Prop}
variable {cc : ByteArray} {pc nL : Nat} {own : String} {D : va_G} {A : Nat → Prop} {tys : xK} {lv lv' : List (Nat × Value)} {st : List Value} {M : Wm}
theorem g_get (C : cX p m meth c cc nL s args own D tys A) {ci k index a : Nat} {fs : List Value} {v : Value} (hF : xF own index ci k) (he : M a = some (.inr (ci, fs))) (hv : fs[k]? = some v) (hd : decode cc pc = .ok (.getfield index, 3)) (kk : gW p l e R s m args below meth c D A nL cells slots Q P (pc + 3) lv (v :: st) M) : gW p l e R s m args below meth c D A nL cells slots Q P pc lv (.ref a :: st) M := by
  obtain ⟨CN, T, N, hc, hin, hk, hl | ⟨host, hl⟩⟩ := hF
  · exact fun H locs ls hP hW hS hls => va_get C.1.1 C.1.2.1 C.1.2.2.2.2 hin C.1.2.2.2.1 C.2.1 (wd_one hW he) 0 rfl hc k hk (C.1.2.2.2.2 _ hl) (fun _ h => h) hv hd (kk H locs ls hP hW hS hls)
  · exact fun H locs ls hP hW hS hls => va_getN C.1.1 C.1.2.1 C.1.2.2.2.2 hin C.1.2.2.2.1 C.2.1 (wd_one hW he) 0 rfl hc k hk (va_Nw.use rfl (C.2.2.1 _ hl)) (fun _ h => h) hv hd (kk H locs ls hP hW hS hls)
theorem g_put (C : cX p m meth c cc nL s args own D tys A) {ci k index a : Nat} {ty : FieldType} {fs fs' : List Value} {v : Value} (hF : xP own index ci k ty) (he : M a = some (.inr (ci, fs))) (hn : narrow ty v = v) (hfit : fits ty v = true) (hlen : k < fs.length) (hfs : fs.set k v = fs') (hd : decode cc pc = .ok (.putfield index, 3)) (kk : gW p l e R s m args below meth c D A nL cells slots Q wX (pc + 3) lv st (va_up M a (some (.inr (ci, fs'))))) : gW p l e R s m args below meth c D A nL cells slots Q P pc lv (v :: .ref a :: st) M := by
  subst hfs
  obtain ⟨CN, T, N, ty0, hc, hin, hty, hnm, hk, hl, hdp, hfin⟩ := hF
  intro H locs ls hP hW hS hls
  obtain ⟨q0, hq0⟩ := wd_ls_at hW he
  rcases hl with hl | ⟨host, hl⟩
  · exact va_put C.1.1 C.1.2.1 C.1.2.2.2.2 hin ty0 hty hnm C.1.2.2.2.1 C.2.1 (wd_ls_P hW _) (wd_ls_D hW _) hS q0 hq0 hc k hk (C.1.2.2.2.2 _ hl) (fun _ h => h) hfin hdp hn hfit hlen hd (fun H1 locs1 h1 _ hS1 => kk H1 locs1 ls trivial (wd_set hW hq0 h1) hS1 hls)
  · exact va_putN C.1.1 C.1.2.1 C.1.2.2.2.2 hin ty0 hty hnm C.1.2.2.2.1 C.2.1 (wd_ls_P hW _) (wd_ls_D hW _) hS q0 hq0 hc k hk (va_Nw.use rfl (C.2.2.1 _ hl)) (fun _ h => h) hfin hdp hn hfit hlen hd (fun H1 locs1 h1 _ hS1 => kk H1 locs1 ls trivial (wd_set hW hq0 h1) hS1 hls)
theorem g_putF (C : cX p m meth c cc nL s args own D tys A) (hin2 : meth.name = "<init>") {ci k index a : Nat} {ty : FieldType} {fs fs' : List Value} {v : Value} (hF : xPF own index ci k ty) (he : M a = some (.inr (ci, fs))) (hn : narrow ty v = v) (hfit : fits ty v = true) (hlen : k < fs.length) (hfs : fs.set k v = fs') (hd : decode cc pc = .ok (.putfield index, 3)) (kk : gW p l e R s m args below meth c D A nL cells slots Q wX (pc + 3) lv st (va_up M a (some (.inr (ci, fs'))))) : gW p l e R s m args below meth c D A nL cells slots Q P pc lv (v :: .ref a :: st) M := by
  subst hfs
  obtain ⟨CN, T, N, ty0, hc, hin, hty, hnm, hk, hl, hdp, hfin, hdecl⟩ := hF
  intro H locs ls hP hW hS hls
  obtain ⟨q0, hq0⟩ := wd_ls_at hW he
  exact va_putF C.1.1 C.1.2.1 C.1.2.2.2.2 hin ty0 hty hnm C.1.2.2.2.1 C.2.1 (wd_ls_P hW _) (wd_ls_D hW _) hS q0 hq0 hc k hk (C.1.2.2.2.2 _ hl) (fun _ h => h) hfin hin2 hdecl hdp hn hfit hlen hd (fun H1 locs1 h1 _ hS1 => kk H1 locs1 ls trivial (wd_set hW hq0 h1) hS1 hls)
theorem g_iald (C : cX p m meth c cc nL s args own D tys A) {a n : Nat} {f : Nat → Int} {z : Int} (t0 : Nat) (ht : tys[t0]? = some (tc tys t0, .int)) (he : M a = some (.inl (tc tys t0, n, .inl (fun j => iI (f j))))) (hz : (0 ≤ z ∧ z < n) ∧ n < 2147483648) (hd : decode cc pc = .ok (.iaload, 1)) (kk : gW p l e R s m args below meth c D A nL cells slots Q P (pc + 1) lv (.int (iI (f z.toNat)) :: st) M) : gW p l e R s m args below meth c D A nL cells slots Q P pc lv (.int (iI z) :: .ref a :: st) M := by
  intro H locs ls hP hW hS hls
  refine va_iald C.1.1 C.1.2.1 C.2.1 (wd_one hW he) 0 t0 rfl ht (iI_in hz.1 hz.2) hd ?_
  rw [iI_clamp (by omega)]
  exact kk H locs ls hP hW hS hls
theorem iI_upd (f : Nat → Int) (k : Nat) (v : Int) : upd (fun j => iI (f j)) k (iI v) = fun j => iI (va_up f k v j) := by
  funext j
  unfold upd va_up
  by_cases h : j = k
  · rw [if_pos h, if_pos h]
  · rw [if_neg h, if_neg h]
theorem g_iast (C : cX p m meth c cc nL s args own D tys A) {a n : Nat} {f : Nat → Int} {z v : Int} (t0 : Nat) (ht : tys[t0]? = some (tc tys t0, .int)) (he : M a = some (.inl (tc tys t0, n, .inl (fun j => iI (f j))))) (hz : (0 ≤ z ∧ z < n) ∧ n < 2147483648) (hd : decode cc pc = .ok (.iastore, 1)) (kk : gW p l e R s m args below meth c D A nL cells slots Q wX (pc + 1) lv st (va_up M a (some (.inl (tc tys t0, n, .inl (fun j => iI (va_up f z.toNat v j))))))) : gW p l e R s m args below meth c D A nL cells slots Q P pc lv (.int (iI v) :: .int (iI z) :: .ref a :: st) M := by
  intro H locs ls hP hW hS hls
  obtain ⟨q0, hq0⟩ := wd_ls_at hW he
  refine va_iast C.1.1 C.1.2.1 C.2.1 (wd_ls_P hW _) (wd_ls_D hW _) hS q0 t0 hq0 ht (iI_in hz.1 hz.2) hd (fun H1 locs1 h1 _ hS1 => ?_)
  have h2 := wd_set hW hq0 h1
  rw [iI_clamp (by omega), iI_upd] at h2
  exact kk H1 locs1 ls trivial h2 hS1 hls
theorem g_aald (C : cX p m meth c cc nL s args own D tys A) {a n b : Nat} {f : Nat → Option Nat} {z : Int} {CN : String} (t0 : Nat) (ht : tys[t0]? = some (tc tys t0, .object CN)) (he : M a = some (.inl (tc tys t0, n, .inr (.inr (.inr (.inr f)))))) (hz : (0 ≤ z ∧ z < n) ∧ n < 2147483648) (hb : f z.toNat = some b) (hd : decode cc pc = .ok (.aaload, 1)) (kk : gW p l e R s m args below meth c D A nL cells slots Q P (pc + 1) lv (.ref b :: st) M) : gW p l e R s m args below meth c D A nL cells slots Q P pc lv (.int (iI z) :: .ref a :: st) M := by
  intro H locs ls hP hW hS hls
  refine va_aldq C.1.1 C.1.2.1 C.2.1 (wd_one hW he) 0 t0 rfl ht (iI_in hz.1 hz.2) hd ?_
  rw [iI_clamp (by omega), hb]
  exact kk H locs ls hP hW hS hls
theorem g_aast (C : cX p m meth c cc nL s args own D tys A) {a n b ci : Nat} {f : Nat → Option Nat} {vs : List Value} {z : Int} {CN : String} {T : u_T} {N : Nat} (t0 : Nat) (ht : tys[t0]? = some (tc tys t0, .object CN)) (hc : xCl[ci]? = some (CN, T, N)) (he : M a = some (.inl (tc tys t0, n, .inr (.inr (.inr (.inr f)))))) (hb : M b = some (.inr (ci, vs))) (hz : (0 ≤ z ∧ z < n) ∧ n < 2147483648) (hd : decode cc pc = .ok (.aastore, 1)) (kk : gW p l e R s m args below meth c D A nL cells slots Q wX (pc + 1) lv st (va_up M a (some (.inl (tc tys t0, n, .inr (.inr (.inr (.inr (va_up f z.toNat (some b)))))))))) : gW p l e R s m args below meth c D A nL cells slots Q P pc lv (.ref b :: .int (iI z) :: .ref a :: st) M := by
  intro H locs ls hP hW hS hls
  obtain ⟨q0, hq0⟩ := wd_ls_at hW he
  obtain ⟨qk, hqk⟩ := wd_ls_at hW hb
  refine va_astq (r := (CN, T, N)) C.1.1 C.1.2.1 C.2.1 (wd_ls_P hW _) (wd_ls_D hW _) hS q0 t0 qk ci hq0 ht hqk hc (iI_in hz.1 hz.2) hd (fun H1 locs1 h1 _ hS1 => ?_)
  have h2 := wd_set hW hq0 h1
  rw [iI_clamp (by omega)] at h2
  exact kk H1 locs1 ls trivial h2 hS1 hls
theorem g_alen (C : cX p m meth c cc nL s args own D tys A) {a : Nat} {x : vp_A} {ty : FieldType} (t0 : Nat) (ht : tys[t0]? = some (tc tys t0, ty)) (he : M a = some (.inl (tc tys t0, x))) (hd : decode cc pc = .ok (.arraylength, 1)) (kk : gW p l e R s m args below meth c D A nL cells slots Q P (pc + 1) lv (.int (iI (x.1 : Nat)) :: st) M) : gW p l e R s m args below meth c D A nL cells slots Q P pc lv (.ref a :: st) M := by
  intro H locs ls hP hW hS hls
  exact va_alen C.1.1 C.1.2.1 C.2.1 (wd_one hW he) 0 t0 rfl ht (iI_nat x.1).symm hd (kk H locs ls hP hW hS hls)
end XO
end
section
/-! CONTRACTS OVER WORLDS, entry and ends of a method, calls. -/
def cT (D : va_G) (tys : xK) (A : Nat → Prop) (M : Wm) (U : State) : Prop := wd_ok D xCl A M U.heap ∧ va_K D xCl tys U ∧ (∀ w ∈ xNw, va_Nw w U) ∧ (∀ q : Nat, U.heap.size ≤ q → A q)
abbrev qI (D : va_G) (A : Nat → Prop) (post : Int → Wm → Prop) : Array Value → State → Outcome → State → Prop := va_Qi (fun r M' => ∃ z : Int, r = iI z ∧ post z M') (fun M' t => wd_ok D xCl A M' t.heap) A
abbrev qV (D : va_G) (A : Nat → Prop) (post : Wm → Prop) : Array Value → State → Outcome → State → Prop := va_Qv post (fun M' t => wd_ok D xCl A M' t.heap) A
abbrev qR (D : va_G) (A : Nat → Prop) (post : Nat → Wm → Prop) : Array Value → State → Outcome → State → Prop := va_Qr (fun _ : Wm => True) (fun M' a t => post a M' ∧ wd_ok D xCl A M' t.heap) A
/-- an answer, and nothing changed -/
abbrev qP (post : Int → Prop) : Array Value → State → Outcome → State → Prop := fun _ st oc t => ∃ z : Int, oc = .returned (some (.int (iI z))) ∧ post z ∧ t.heap = st.heap
abbrev qPR (post : Nat → Prop) : Array Value → State → Outcome → State → Prop := fun _ st oc t => ∃ a : Nat, oc = .returned (some (.ref a)) ∧ post a ∧ t.heap = st.heap
abbrev wsY (y : MethodName) (cc : ByteArray) (maxL : Nat) (ret : Option FieldType) : List Cond := Cond.code y cc maxL ret :: xAll
/-- a contract: y, on the arguments av and the world M -/
abbrev pT (l : Launch) (y : MethodName) (cc : ByteArray) (maxL : Nat) (ret : Option FieldType) (rm : Room) (D : va_G) (tys : xK) (A : Nat → Prop) (av : List Value) (M : Wm) (Qc : Array Value → State → Outcome → State → Prop) : Prop := Met l y (wsY y cc maxL ret) rm (va_Pc av (cT D tys A M)) Qc 0 0 (fun _ => False)
abbrev mT (l : Launch) (y : MethodName) (cc : ByteArray) (maxL : Nat) (ret : Option FieldType) (rm : Room) (D : va_G) (tys : xK) (A : Nat → Prop) (av : List Value) (M : Wm) (Qc : Array Value → State → Outcome → State → Prop) (mc ms : Nat) : Prop := Met l y (wsY y cc maxL ret) rm (va_Pc av (cT D tys A M)) Qc mc ms A
theorem met_of {free : Addr → Prop} {l : Launch} {y : MethodName} {cc : ByteArray} {maxL : Nat} {ret : Option FieldType} {rm : Room} {D : va_G} {tys : xK} {A : Nat → Prop} {av : List Value} {lv : List (Nat × Value)} {M : Wm} {Qc : Array Value → State → Outcome → State → Prop} {mc ms : Nat}
    (hy : plainName y.cls = true) (hlen : (lg_sl av).length ≤ maxL) (hlv : lv_args 0 av = lv)
    (body : ∀ (p : Program) (e : Env) (s : State) (m : MethodId) (below : List Frame) (meth : Method) (c : Code), cX p m meth c cc maxL s av.toArray y.cls D tys A → meth.sig.returnType = ret → meth.name = y.name → gW p l e rm s m av.toArray below meth c D A maxL 0 0 (MQ below Qc av.toArray s mc ms free) (wN s) 0 lv [] M) : Met l y (wsY y cc maxL ret) rm (va_Pc av (cT D tys A M)) Qc mc ms free := by
  subst hlv
  refine Met.ofW (cc := cc) (maxL := maxL) (ret := ret) hy rfl ?_
  intro p e s m args below meth c s₁ B hml hv
  obtain ⟨rfl, hW, hK, hN, hA⟩ := hv
  have hts := atoms_spec (ws := wsY y cc maxL ret) B.pre
  have hown : s.vm.findClass y.cls = some m.cls := findClass_of_methodNamed B.named
  have hl := lv_entry av (n := maxL) hlen
  rw [lg_entry_eq]
  exact body p e s m below meth c ⟨⟨B.exec, B.bytes, hml, hown, fun w h => hts w (List.mem_cons_of_mem _ h)⟩, hK, hN, hA, B.notSynchronized⟩ B.returns (name_of_methodNamed B.named B.method).1 s.heap [] _ ⟨rfl, rfl⟩ hW va_S.rf hl
section XE
variable {p : Program} {l : Launch} {e : Env} {R : Room} {s : State} {m : MethodId} {args : Array Value} {below : List Frame} {meth : Method} {c : Code} {cells slots : Nat} {Q : State → Prop} {P : Heap → List Loc → Prop}
variable {cc : ByteArray} {pc nL : Nat} {own : String} {D : va_G} {A : Nat → Prop} {tys : xK} {lv lv' : List (Nat × Value)} {st : List Value} {M : Wm}
theorem g_iret (C : cX p m meth c cc nL s args own D tys A) {post : Int → Wm → Prop} {z : Int} (hr : meth.sig.returnType = some .int) (hd : decode cc pc = .ok (.ireturn, 1)) (hp : post z M) : gW p l e R s m args below meth c D A nL cells slots (MQ below (qI D A post) args s cells slots A) P pc lv [.int (iI z)] M :=
  fun _ _ _ _ hW hS _ => W.iret C.1.1 C.1.2.1 hr (fun t ht _ => ⟨⟨iI z, M, rfl, ⟨z, rfl, hp⟩, by show wd_ok D xCl A M t.heap; rw [ht]; exact hW⟩, hS.F ht⟩) hS.2.2 hd C.2.2.2.2
theorem g_zret (C : cX p m meth c cc nL s args own D tys A) {post : Int → Wm → Prop} {z : Int} (hr : meth.sig.returnType = some .boolean) (hz : z = 0 ∨ z = 1) (hd : decode cc pc = .ok (.ireturn, 1)) (hp : post z M) : gW p l e R s m args below meth c D A nL cells slots (MQ below (qI D A post) args s cells slots A) P pc lv [.int (iI z)] M :=
  fun _ _ _ _ hW hS _ => W.zret C.1.1 C.1.2.1 hr (by rcases hz with rfl | rfl <;> rfl) (fun t ht _ => ⟨⟨iI z, M, rfl, ⟨z, rfl, hp⟩, by show wd_ok D xCl A M t.heap; rw [ht]; exact hW⟩, hS.F ht⟩) hS.2.2 hd C.2.2.2.2
theorem g_vret (C : cX p m meth c cc nL s args own D tys A) {post : Wm → Prop} (hr : meth.sig.returnType = none) (hd : decode cc pc = .ok (.return_, 1)) (hp : post M) : gW p l e R s m args below meth c D A nL cells slots (MQ below (qV D A post) args s cells slots A) P pc lv [] M :=
  fun _ _ _ _ hW hS _ => W.vret C.1.1 C.1.2.1 hr (fun t ht _ => ⟨⟨M, rfl, hp, by show wd_ok D xCl A M t.heap; rw [ht]; exact hW⟩, hS.F ht⟩) hS.2.2 hd C.2.2.2.2
theorem g_aret (C : cX p m meth c cc nL s args own D tys A) {post : Nat → Wm → Prop} {a : Nat} {CN : String} (hr : meth.sig.returnType = some (.object CN)) (hd : decode cc pc = .ok (.areturn, 1)) (hp : post a M) : gW p l e R s m args below meth c D A nL cells slots (MQ below (qR D A post) args s cells slots A) P pc lv [.ref a] M :=
  fun _ _ _ _ hW hS _ => W.aret C.1.1 C.1.2.1 hr (Or.inl ⟨CN, rfl⟩) (Or.inr ⟨a, rfl⟩) (fun t ht _ => ⟨⟨M, a, rfl, trivial, hp, by show wd_ok D xCl A M t.heap; rw [ht]; exact hW⟩, hS.F ht⟩) hS.2.2 hd C.2.2.2.2
theorem g_iretP (C : cX p m meth c cc nL s args own D tys A) {post : Int → Prop} {z : Int} (hr : meth.sig.returnType = some .int) (hd : decode cc pc = .ok (.ireturn, 1)) (hp : post z) : gW p l e R s m args below meth c D A nL cells slots (MQ below (qP post) args s cells slots (fun _ => False)) (wN s) pc lv [.int (iI z)] M :=
  fun _ locs _ hN _ _ _ => W.iret C.1.1 C.1.2.1 hr (fun t ht _ => ⟨z, rfl, hp, by rw [ht]; exact hN.1⟩) (fun q hq => by rw [hN.2] at hq; cases hq) hd C.2.2.2.2
theorem g_zretP (C : cX p m meth c cc nL s args own D tys A) {post : Int → Prop} {z : Int} (hr : meth.sig.returnType = some .boolean) (hz : z = 0 ∨ z = 1) (hd : decode cc pc = .ok (.ireturn, 1)) (hp : post z) : gW p l e R s m args below meth c D A nL cells slots (MQ below (qP post) args s cells slots (fun _ => False)) (wN s) pc lv [.int (iI z)] M :=
  fun _ locs _ hN _ _ _ => W.zret C.1.1 C.1.2.1 hr (by rcases hz with rfl | rfl <;> rfl) (fun t ht _ => ⟨z, rfl, hp, by rw [ht]; exact hN.1⟩) (fun q hq => by rw [hN.2] at hq; cases hq) hd C.2.2.2.2
theorem g_aretP (C : cX p m meth c cc nL s args own D tys A) {post : Nat → Prop} {a : Nat} {CN : String} (hr : meth.sig.returnType = some (.object CN)) (hd : decode cc pc = .ok (.areturn, 1)) (hp : post a) : gW p l e R s m args below meth c D A nL cells slots (MQ below (qPR post) args s cells slots (fun _ => False)) (wN s) pc lv [.ref a] M :=
  fun _ locs _ hN _ _ _ => W.aret C.1.1 C.1.2.1 hr (Or.inl ⟨CN, rfl⟩) (Or.inr ⟨a, rfl⟩) (fun t ht _ => ⟨a, rfl, hp, by rw [ht]; exact hN.1⟩) (fun q hq => by rw [hN.2] at hq; cases hq) hd C.2.2.2.2
end XE
/-- a call's words: link of own or of a nest mate, the callee's code among the words of all -/
def xC (own : String) (index : Nat) (y : MethodName) (cc : ByteArray) (maxL : Nat) (ret : Option FieldType) (n : Nat) : Prop :=
  Cond.code y cc maxL ret ∈ xAll ∧ Cond.initialized y.cls ∈ xAll ∧ (y.cls ≠ "java/lang/invoke/MethodHandle" ∧ y.cls ≠ "java/lang/invoke/VarHandle" ∧ (parseMethodDescriptor y.desc).map (fun d => d.parameters.length) = some n) ∧ (Cond.methodLink own index y ∈ xAll ∨ ∃ host, Cond.methodLinkNest own index y host ∈ xNw)
def xCV (own : String) (index ci : Nat) (y : MethodName) (cc : ByteArray) (maxL : Nat) (ret : Option FieldType) (n : Nat) : Prop := xC own index y cc maxL ret n ∧ Cond.instanceMethod y ∈ xAll ∧ Cond.selects y.cls y y ∈ xAll ∧ ∃ (T : u_T) (N : Nat), xCl[ci]? = some (y.cls, T, N)
def xCS (own : String) (index : Nat) (y : MethodName) (cc : ByteArray) (maxL : Nat) (ret : Option FieldType) (n : Nat) : Prop := xC own index y cc maxL ret n ∧ Cond.static y ∈ xAll
def xCI (own : String) (index : Nat) (y : MethodName) (cc : ByteArray) (maxL : Nat) (n : Nat) : Prop := xC own index y cc maxL none n ∧ y.name = "<init>" ∧ Cond.instanceMethod y ∈ xAll
theorem good_wsY {y : MethodName} {cc : ByteArray} {maxL : Nat} {ret : Option FieldType} (hc : Cond.code y cc maxL ret ∈ xAll) : GoodIn xAll (wsY y cc maxL ret) := by
  intro w hw
  rcases List.mem_cons.mp hw with rfl | hw
  · exact ⟨hc, Or.inl rfl⟩
  · exact ⟨hw, xAll_good w hw⟩
theorem cT_blind {D : va_G} {tys : xK} {A : Nat → Prop} {M : Wm} {av : List Value} : FrameBlind (va_Pc av (cT D tys A M)) := by
  intro a U g mk h
  obtain ⟨h0, h1, h2, h3, h4⟩ := h
  exact ⟨h0, h1, va_K.moved (u := U) (U := U.calling g mk a) (Vm.Alike.refl U.vm) h2, fun w hw => va_Nw.same (xNw_tabs w hw) (show U.vm = (U.calling g mk a).vm from rfl) (h3 w hw), h4⟩
section XQ
variable {p : Program} {l : Launch} {e : Env} {R : Room} {s : State} {m : MethodId} {args : Array Value} {below : List Frame} {meth : Method} {c : Code} {cells slots : Nat} {Q : State → Prop} {P : Heap → List Loc → Prop}
variable {cc : ByteArray} {pc nL : Nat} {own : String} {D : va_G} {A : Nat → Prop} {tys : xK} {lv lv' : List (Nat × Value)} {st rest : List Value} {M : Wm} {H : Heap}
theorem cT_at (C : cX p m meth c cc nL s args own D tys A) (hW : wd_ok D xCl A M H) (hz : s.heap.size ≤ H.size) : ∀ U : State, U.heap = H → s.WarmedH U.vm → cT D tys A M U := by
  intro U hU hWm
  exact ⟨by rw [hU]; exact hW, va_K.moved hWm.alike C.2.1, fun w hw => xNw_warm w hw hWm (C.2.2.1 w hw), fun q hq => C.2.2.2.1 q (by rw [hU] at hq; omega)⟩
/-- what a call must find: the callee runs from here, by its contract -/
def gR (p : Program) (l : Launch) (e : Env) (R : Room) (s : State) (m : MethodId) (args : Array Value) (below : List Frame) (meth : Method) (c : Code) (D : va_G) (A : Nat → Prop) (nL cells slots mc ms : Nat) (pc : Nat) (st rest : List Value) (M : Wm) (Qa : State → Outcome → State → Prop) (free : Addr → Prop) : Prop :=
  ∀ (H : Heap) (locs : List Loc) (ls : Array Slot), wd_ok D xCl A M H → s.heap.size ≤ H.size → ls.size = nL → va_Run p l e R s m args below meth c H locs cells slots mc ms (F0 m pc ls st) rest Qa free
theorem run_V (C : cX p m meth c cc nL s args own D tys A) {index ci : Nat} {y : MethodName} {bytes : ByteArray} {maxL n b mc ms : Nat} {ret : Option FieldType} {rm : Room} {fs : List Value} {Qc : Array Value → State → Outcome → State → Prop} {free : Addr → Prop} (As : List Value) (hx : xCV own index ci y bytes maxL ret n)
    (hM : Met l y (wsY y bytes maxL ret) rm (va_Pc (.ref b :: As) (cT D tys A M)) Qc mc ms free) (he : M b = some (.inr (ci, fs))) (hrm : rm.cells = mc ∧ rm.slots = ms ∧ rm.frames + 1 ≤ R.frames ∧ 8 + (maxL + 11) + rm.locals ≤ R.locals) (hst : st = As.reverse ++ .ref b :: rest) (hn : As.length = n) (hcat : (rest.map fun v => v.category).sum ≤ 8)
    (hd : decode cc pc = .ok (.invokevirtual index, 3)) (hf : cells + mc ≤ R.cells ∧ slots + ms ≤ R.slots) : gR p l e R s m args below meth c D A nL cells slots mc ms pc st rest M (Qc (Value.ref b :: As).toArray) free := by
  obtain ⟨⟨hc, hini, hq, hl⟩, hinst, hsel, T, N, hcl⟩ := hx
  have hts := C.1.2.2.2.2
  intro H locs ls hW hz hls
  have hrec := va_recv C.2.1 (wd_one hW he) hcl (q0 := 0) rfl
  have hp : PreV s H y.cls b (va_Pc (.ref b :: As) (cT D tys A M)) As := ⟨cT_blind, hrec, fun U hU hWm => ⟨rfl, cT_at C hW hz U hU hWm⟩⟩
  rcases hl with hl | ⟨host, hl⟩
  · exact va_runV C.1 hM ⟨callB_of n hts (good_wsY hc) rfl hrm.1 hrm.2.1 (hts _ hini) (hts _ hl) hq ⟨hrm.2.2.1, hrm.2.2.2⟩, hts _ hinst, hts _ hsel⟩ hp rfl hn hls hst (lv_room hcat) hd hf
  · exact va_runVN C.1 hM ⟨va_cnB n hts (good_wsY hc) rfl hrm.1 hrm.2.1 (C.2.2.1 _ hl) (hts _ hini) hq ⟨hrm.2.2.1, hrm.2.2.2⟩, hts _ hinst, hts _ hsel⟩ hp rfl hn hls hst (lv_room hcat) hd hf
theorem run_S (C : cX p m meth c cc nL s args own D tys A) {index : Nat} {y : MethodName} {bytes : ByteArray} {maxL n mc ms : Nat} {ret : Option FieldType} {rm : Room} {Qc : Array Value → State → Outcome → State → Prop} {free : Addr → Prop} (As : List Value) (hx : xCS own index y bytes maxL ret n)
    (hM : Met l y (wsY y bytes maxL ret) rm (va_Pc As (cT D tys A M)) Qc mc ms free) (hrm : rm.cells = mc ∧ rm.slots = ms ∧ rm.frames + 1 ≤ R.frames ∧ 8 + (maxL + 11) + rm.locals ≤ R.locals) (hst : st = As.reverse ++ rest) (hn : As.length = n) (hcat : (rest.map fun v => v.category).sum ≤ 8)
    (hd : decode cc pc = .ok (.invokestatic index, 3)) (hf : cells + mc ≤ R.cells ∧ slots + ms ≤ R.slots) : gR p l e R s m args below meth c D A nL cells slots mc ms pc st rest M (Qc As.toArray) free := by
  obtain ⟨⟨hc, hini, hq, hl⟩, hstat⟩ := hx
  have hts := C.1.2.2.2.2
  intro H locs ls hW hz hls
  have hp : PreS s H (va_Pc As (cT D tys A M)) As := ⟨cT_blind, fun U hU hWm => ⟨rfl, cT_at C hW hz U hU hWm⟩⟩
  rcases hl with hl | ⟨host, hl⟩
  · exact va_runS C.1 hM ⟨callB_of n hts (good_wsY hc) rfl hrm.1 hrm.2.1 (hts _ hini) (hts _ hl) hq ⟨hrm.2.2.1, hrm.2.2.2⟩, hts _ hstat⟩ hp rfl hn hls hst (lv_room hcat) hd hf
  · exact va_runSN C.1 hM ⟨va_cnB n hts (good_wsY hc) rfl hrm.1 hrm.2.1 (C.2.2.1 _ hl) (hts _ hini) hq ⟨hrm.2.2.1, hrm.2.2.2⟩, hts _ hstat, trivial⟩ hp rfl hn hls hst (lv_room hcat) hd hf
theorem run_I (C : cX p m meth c cc nL s args own D tys A) {index : Nat} {y : MethodName} {bytes : ByteArray} {maxL n b mc ms : Nat} {rm : Room} {Qc : Array Value → State → Outcome → State → Prop} {free : Addr → Prop} (As : List Value) (hx : xCI own index y bytes maxL n)
    (hM : Met l y (wsY y bytes maxL none) rm (va_Pc (.ref b :: As) (cT D tys A M)) Qc mc ms free) (hrm : rm.cells = mc ∧ rm.slots = ms ∧ rm.frames + 1 ≤ R.frames ∧ 8 + (maxL + 11) + rm.locals ≤ R.locals) (hst : st = As.reverse ++ .ref b :: rest) (hn : As.length = n) (hcat : (rest.map fun v => v.category).sum ≤ 8)
    (hd : decode cc pc = .ok (.invokespecial index, 3)) (hf : cells + mc ≤ R.cells ∧ slots + ms ≤ R.slots) : gR p l e R s m args below meth c D A nL cells slots mc ms pc st rest M (Qc (Value.ref b :: As).toArray) free := by
  obtain ⟨⟨hc, hini, hq, hl⟩, hnm, hinst⟩ := hx
  have hts := C.1.2.2.2.2
  intro H locs ls hW hz hls
  have hp : PreS s H (va_Pc (.ref b :: As) (cT D tys A M)) (.ref b :: As) := ⟨cT_blind, fun U hU hWm => ⟨rfl, cT_at C hW hz U hU hWm⟩⟩
  rcases hl with hl | ⟨host, hl⟩
  · exact va_runI C.1 hM ⟨callB_of n hts (good_wsY hc) rfl hrm.1 hrm.2.1 (hts _ hini) (hts _ hl) hq ⟨hrm.2.2.1, hrm.2.2.2⟩, hnm, hts _ hinst⟩ hp rfl hn hls hst (lv_room hcat) hd hf
  · exact va_runIN C.1 hM ⟨va_cnB n hts (good_wsY hc) rfl hrm.1 hrm.2.1 (C.2.2.1 _ hl) (hts _ hini) hq ⟨hrm.2.2.1, hrm.2.2.2⟩, hnm, hts _ hinst⟩ hp rfl hn hls hst (lv_room hcat) hd hf
theorem g_calli (C : cX p m meth c cc nL s args own D tys A) {mc ms : Nat} {a : Array Value} {post : Int → Wm → Prop} (hr : gR p l e R s m args below meth c D A nL cells slots mc ms pc st rest M (qI D A post a) A) (k : ∀ (z : Int) (M' : Wm), post z M' → gW p l e R s m args below meth c D A nL (cells + mc) (slots + ms) Q wX (pc + 3) lv (.int (iI z) :: rest) M') : gW p l e R s m args below meth c D A nL cells slots Q P pc lv st M := by
  intro H locs ls _ hW hS hls
  refine va_calli (hr H locs ls hW hS.1 hls.1) hS (fun q _ h => h) (fun q h => h) (fun r u t H1 locs1 ht _ hp hB _ _ hS1 => ?_)
  obtain ⟨z, rfl, hp⟩ := hp
  exact k z u hp H1 locs1 ls trivial (by rw [← ht]; exact hB) hS1 hls
theorem g_callv (C : cX p m meth c cc nL s args own D tys A) {mc ms : Nat} {a : Array Value} {post : Wm → Prop} (hr : gR p l e R s m args below meth c D A nL cells slots mc ms pc st rest M (qV D A post a) A) (k : ∀ (M' : Wm), post M' → gW p l e R s m args below meth c D A nL (cells + mc) (slots + ms) Q wX (pc + 3) lv rest M') : gW p l e R s m args below meth c D A nL cells slots Q P pc lv st M := by
  intro H locs ls _ hW hS hls
  refine va_callv (hr H locs ls hW hS.1 hls.1) hS (fun q _ h => h) (fun q h => h) (fun u t H1 locs1 ht _ hp hB _ _ hS1 => ?_)
  exact k u hp H1 locs1 ls trivial (by rw [← ht]; exact hB) hS1 hls
theorem g_callr (C : cX p m meth c cc nL s args own D tys A) {mc ms : Nat} {a : Array Value} {post : Nat → Wm → Prop} (hr : gR p l e R s m args below meth c D A nL cells slots mc ms pc st rest M (qR D A post a) A) (k : ∀ (b : Nat) (M' : Wm), post b M' → gW p l e R s m args below meth c D A nL (cells + mc) (slots + ms) Q wX (pc + 3) lv (.ref b :: rest) M') : gW p l e R s m args below meth c D A nL cells slots Q P pc lv st M := by
  intro H locs ls _ hW hS hls
  refine va_callr (hr H locs ls hW hS.1 hls.1) hS (fun q _ h => h) (fun q h => h) (fun u b t H1 locs1 ht _ _ hB _ _ hS1 => ?_)
  exact k b u hB.1 H1 locs1 ls trivial (by rw [← ht]; exact hB.2) hS1 hls
theorem g_calliP (C : cX p m meth c cc nL s args own D tys A) {a : Array Value} {post : Int → Prop} (hr : gR p l e R s m args below meth c D A nL cells slots 0 0 pc st rest M (qP post a) (fun _ => False)) (k : ∀ (z : Int), post z → gW p l e R s m args below meth c D A nL cells slots Q P (pc + 3) lv (.int (iI z) :: rest) M) : gW p l e R s m args below meth c D A nL cells slots Q P pc lv st M := by
  intro H locs ls hP hW hS hls T hT X
  obtain ⟨v, st₀, t, T', L, h0, X', hL, e1, e2, ⟨z, hv, hp, hh⟩, st⟩ := hr H locs ls hW hS.1 hls.1 T hT X
  cases hv
  have hLn : L = [] := List.eq_nil_iff_forall_not_mem.mpr hL
  subst hLn
  have hT' : T'.heap = H := by rw [e1, hh, h0]
  rw [List.append_nil] at X'
  obtain ⟨t2, a1, b1⟩ := k z hp H locs ls hP hW hS hls T' hT' X'
  exact ⟨t2, st t2 a1, b1⟩
theorem g_callrP (C : cX p m meth c cc nL s args own D tys A) {a : Array Value} {post : Nat → Prop} (hr : gR p l e R s m args below meth c D A nL cells slots 0 0 pc st rest M (qPR post a) (fun _ => False)) (k : ∀ (b : Nat), post b → gW p l e R s m args below meth c D A nL cells slots Q P (pc + 3) lv (.ref b :: rest) M) : gW p l e R s m args below meth c D A nL cells slots Q P pc lv st M := by
  intro H locs ls hP hW hS hls T hT X
  obtain ⟨v, st₀, t, T', L, h0, X', hL, e1, e2, ⟨b, hv, hp, hh⟩, st⟩ := hr H locs ls hW hS.1 hls.1 T hT X
  cases hv
  have hLn : L = [] := List.eq_nil_iff_forall_not_mem.mpr hL
  subst hLn
  have hT' : T'.heap = H := by rw [e1, hh, h0]
  rw [List.append_nil] at X'
  obtain ⟨t2, a1, b1⟩ := k b hp H locs ls hP hW hS hls T' hT' X'
  exact ⟨t2, st t2 a1, b1⟩
/-- Math.max, min, abs of ints -/
def xMath : Prop := Cond.initialized "java/lang/Math" ∈ xAll
theorem g_mmax (C : cX p m meth c cc nL s args own D tys A) {index : Nat} {a b : Int} (hx : Cond.methodLink own index Lib.Math.max.name ∈ xAll ∧ Cond.static Lib.Math.max.name ∈ xAll ∧ Cond.initialized "java/lang/Math" ∈ xAll ∧ Cond.code Lib.Math.max.name Lib.Math.max.code 2 (some .int) ∈ xAll) (hr : (-2147483648 ≤ a ∧ a < 2147483648) ∧ (-2147483648 ≤ b ∧ b < 2147483648)) (hR : 1 ≤ R.frames ∧ (st.map fun v => v.category).sum + 13 ≤ R.locals ∧ cells ≤ R.cells ∧ slots ≤ R.slots) (hd : decode cc pc = .ok (.invokestatic index, 3)) (k : gW p l e R s m args below meth c D A nL cells slots Q P (pc + 3) lv (.int (iI (if a < b then b else a)) :: st) M) : gW p l e R s m args below meth c D A nL cells slots Q P pc lv (.int (iI b) :: .int (iI a) :: st) M := by
  have hts := C.1.2.2.2.2
  intro H locs ls hP hW hS hl
  refine va_mmax C.1.1 C.1.2.1 (by rw [C.1.2.2.1, hl.1]) C.1.2.2.2.1 (hts _ hx.1) (hts _ hx.2.1) (hts _ hx.2.2.1) (hts _ hx.2.2.2) hR.1 hR.2.1 hR.2.2.1 hR.2.2.2 hd ?_
  have h := k H locs ls hP hW hS hl
  by_cases q : a < b
  · rw [if_pos ((iI_lt hr.1 hr.2).mpr q)]; rw [if_pos q] at h; exact h
  · rw [if_neg (fun z => q ((iI_lt hr.1 hr.2).mp z))]; rw [if_neg q] at h; exact h
theorem g_mmin (C : cX p m meth c cc nL s args own D tys A) {index : Nat} {a b : Int} (hx : Cond.methodLink own index Lib.Math.min.name ∈ xAll ∧ Cond.static Lib.Math.min.name ∈ xAll ∧ Cond.initialized "java/lang/Math" ∈ xAll ∧ Cond.code Lib.Math.min.name Lib.Math.min.code 2 (some .int) ∈ xAll) (hr : (-2147483648 ≤ a ∧ a < 2147483648) ∧ (-2147483648 ≤ b ∧ b < 2147483648)) (hR : 1 ≤ R.frames ∧ (st.map fun v => v.category).sum + 13 ≤ R.locals ∧ cells ≤ R.cells ∧ slots ≤ R.slots) (hd : decode cc pc = .ok (.invokestatic index, 3)) (k : gW p l e R s m args below meth c D A nL cells slots Q P (pc + 3) lv (.int (iI (if b < a then b else a)) :: st) M) : gW p l e R s m args below meth c D A nL cells slots Q P pc lv (.int (iI b) :: .int (iI a) :: st) M := by
  have hts := C.1.2.2.2.2
  intro H locs ls hP hW hS hl
  refine va_mmin C.1.1 C.1.2.1 (by rw [C.1.2.2.1, hl.1]) C.1.2.2.2.1 (hts _ hx.1) (hts _ hx.2.1) (hts _ hx.2.2.1) (hts _ hx.2.2.2) hR.1 hR.2.1 hR.2.2.1 hR.2.2.2 hd ?_
  have h := k H locs ls hP hW hS hl
  by_cases q : b < a
  · rw [if_pos ((iI_lt hr.2 hr.1).mpr q)]; rw [if_pos q] at h; exact h
  · rw [if_neg (fun z => q ((iI_lt hr.2 hr.1).mp z))]; rw [if_neg q] at h; exact h
theorem g_mabs (C : cX p m meth c cc nL s args own D tys A) {index : Nat} {a : Int} (hx : Cond.methodLink own index Lib.Math.abs.name ∈ xAll ∧ Cond.static Lib.Math.abs.name ∈ xAll ∧ Cond.initialized "java/lang/Math" ∈ xAll ∧ Cond.code Lib.Math.abs.name Lib.Math.abs.code 1 (some .int) ∈ xAll) (hr : -2147483648 ≤ a ∧ a < 2147483648) (hR : 1 ≤ R.frames ∧ (st.map fun v => v.category).sum + 13 ≤ R.locals ∧ cells ≤ R.cells ∧ slots ≤ R.slots) (hd : decode cc pc = .ok (.invokestatic index, 3)) (k : gW p l e R s m args below meth c D A nL cells slots Q P (pc + 3) lv (.int (iI (if 0 ≤ a then a else -a)) :: st) M) : gW p l e R s m args below meth c D A nL cells slots Q P pc lv (.int (iI a) :: st) M := by
  have hts := C.1.2.2.2.2
  have h0 : -2147483648 ≤ (0 : Int) ∧ (0 : Int) < 2147483648 := by omega
  intro H locs ls hP hW hS hl
  refine va_mabs C.1.1 C.1.2.1 (by rw [C.1.2.2.1, hl.1]) C.1.2.2.2.1 (hts _ hx.1) (hts _ hx.2.1) (hts _ hx.2.2.1) (hts _ hx.2.2.2) hR.1 hR.2.1 hR.2.2.1 hR.2.2.2 hd ?_
  have h := k H locs ls hP hW hS hl
  by_cases q : 0 ≤ a
  · rw [if_pos (show (0 : Int32) ≤ iI a from (iI_le h0 hr).mpr q)]; rw [if_pos q] at h; exact h
  · rw [if_neg (show ¬ (0 : Int32) ≤ iI a from fun z => q ((iI_le h0 hr).mp z)), show (0 : Int32) - iI a = iI (-a) from by rw [← iI_0, iI_sub]; congr 1; omega]; rw [if_neg q] at h; exact h
end XQ
end
