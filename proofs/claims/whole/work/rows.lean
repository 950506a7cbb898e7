section
-- ===== PART A: goes FIRST, ahead of the names: the tables' words, and 'selects' of the private methods out of them =====
/-- a private method of a class that the tables say can be made, by its rows of tables_1 -/
def lw_okq (q : MethodName × Nat) : Prop := (q.1.cls ≠ "java/lang/invoke/MethodHandle" ∧ q.1.cls ≠ "java/lang/invoke/VarHandle") ∧ Cond.instantiable q.1.cls q.2 ∈ tables_1 ∧ Cond.privateMethod q.1 ∈ tables_1 ∧ Cond.instanceMethod q.1 ∈ tables_1
theorem lw_p0 : lw_okq (⟨"GiftShops$Tape", "addBytes", "(J)V"⟩, 2) := ⟨⟨by decide +kernel, by decide +kernel⟩, List.mem_of_getElem? (i := 64) (by decide +kernel), List.mem_of_getElem? (i := 300) (by decide +kernel), List.mem_of_getElem? (i := 301) (by decide +kernel)⟩
theorem lw_p1 : lw_okq (⟨"GiftShops$Parser", "readInto", "(LGiftShops$Rules;)I"⟩, 3) := ⟨⟨by decide +kernel, by decide +kernel⟩, List.mem_of_getElem? (i := 108) (by decide +kernel), List.mem_of_getElem? (i := 308) (by decide +kernel), List.mem_of_getElem? (i := 309) (by decide +kernel)⟩
theorem lw_p2 : lw_okq (⟨"GiftShops$Rules", "clear", "()V"⟩, 6) := ⟨⟨by decide +kernel, by decide +kernel⟩, List.mem_of_getElem? (i := 81) (by decide +kernel), List.mem_of_getElem? (i := 312) (by decide +kernel), List.mem_of_getElem? (i := 313) (by decide +kernel)⟩
theorem lw_p3 : lw_okq (⟨"GiftShops$Scanner", "begin", "()V"⟩, 5) := ⟨⟨by decide +kernel, by decide +kernel⟩, List.mem_of_getElem? (i := 114) (by decide +kernel), List.mem_of_getElem? (i := 316) (by decide +kernel), List.mem_of_getElem? (i := 317) (by decide +kernel)⟩
theorem lw_p4 : lw_okq (⟨"GiftShops$Scanner", "next", "()V"⟩, 5) := ⟨⟨by decide +kernel, by decide +kernel⟩, List.mem_of_getElem? (i := 114) (by decide +kernel), List.mem_of_getElem? (i := 320) (by decide +kernel), List.mem_of_getElem? (i := 321) (by decide +kernel)⟩
theorem lw_p5 : lw_okq (⟨"GiftShops$Scanner", "behindRun", "(CC)I"⟩, 5) := ⟨⟨by decide +kernel, by decide +kernel⟩, List.mem_of_getElem? (i := 114) (by decide +kernel), List.mem_of_getElem? (i := 327) (by decide +kernel), List.mem_of_getElem? (i := 328) (by decide +kernel)⟩
theorem lw_p6 : lw_okq (⟨"GiftShops$Scanner", "wordToken", "()I"⟩, 5) := ⟨⟨by decide +kernel, by decide +kernel⟩, List.mem_of_getElem? (i := 114) (by decide +kernel), List.mem_of_getElem? (i := 331) (by decide +kernel), List.mem_of_getElem? (i := 332) (by decide +kernel)⟩
theorem lw_p7 : lw_okq (⟨"GiftShops$Scanner", "spells", "(I)Z"⟩, 5) := ⟨⟨by decide +kernel, by decide +kernel⟩, List.mem_of_getElem? (i := 114) (by decide +kernel), List.mem_of_getElem? (i := 335) (by decide +kernel), List.mem_of_getElem? (i := 336) (by decide +kernel)⟩
theorem lw_p8 : lw_okq (⟨"GiftShops$Scanner", "numberToken", "()I"⟩, 5) := ⟨⟨by decide +kernel, by decide +kernel⟩, List.mem_of_getElem? (i := 114) (by decide +kernel), List.mem_of_getElem? (i := 380) (by decide +kernel), List.mem_of_getElem? (i := 381) (by decide +kernel)⟩
theorem lw_p9 : lw_okq (⟨"GiftShops$Parser", "readLine", "()Z"⟩, 3) := ⟨⟨by decide +kernel, by decide +kernel⟩, List.mem_of_getElem? (i := 108) (by decide +kernel), List.mem_of_getElem? (i := 451) (by decide +kernel), List.mem_of_getElem? (i := 452) (by decide +kernel)⟩
theorem lw_p10 : lw_okq (⟨"GiftShops$Scanner", "isWay", "()Z"⟩, 5) := ⟨⟨by decide +kernel, by decide +kernel⟩, List.mem_of_getElem? (i := 114) (by decide +kernel), List.mem_of_getElem? (i := 455) (by decide +kernel), List.mem_of_getElem? (i := 456) (by decide +kernel)⟩
theorem lw_p11 : lw_okq (⟨"GiftShops$Parser", "wrong", "(I)Z"⟩, 3) := ⟨⟨by decide +kernel, by decide +kernel⟩, List.mem_of_getElem? (i := 108) (by decide +kernel), List.mem_of_getElem? (i := 459) (by decide +kernel), List.mem_of_getElem? (i := 460) (by decide +kernel)⟩
theorem lw_p12 : lw_okq (⟨"GiftShops$Scanner", "wayTold", "()I"⟩, 5) := ⟨⟨by decide +kernel, by decide +kernel⟩, List.mem_of_getElem? (i := 114) (by decide +kernel), List.mem_of_getElem? (i := 463) (by decide +kernel), List.mem_of_getElem? (i := 464) (by decide +kernel)⟩
theorem lw_p13 : lw_okq (⟨"GiftShops$Parser", "take", "(I)Z"⟩, 3) := ⟨⟨by decide +kernel, by decide +kernel⟩, List.mem_of_getElem? (i := 108) (by decide +kernel), List.mem_of_getElem? (i := 468) (by decide +kernel), List.mem_of_getElem? (i := 469) (by decide +kernel)⟩
theorem lw_p14 : lw_okq (⟨"GiftShops$Parser", "readTests", "(I)Z"⟩, 3) := ⟨⟨by decide +kernel, by decide +kernel⟩, List.mem_of_getElem? (i := 108) (by decide +kernel), List.mem_of_getElem? (i := 472) (by decide +kernel), List.mem_of_getElem? (i := 473) (by decide +kernel)⟩
theorem lw_p15 : lw_okq (⟨"GiftShops$Parser", "readTest", "(I)Z"⟩, 3) := ⟨⟨by decide +kernel, by decide +kernel⟩, List.mem_of_getElem? (i := 108) (by decide +kernel), List.mem_of_getElem? (i := 476) (by decide +kernel), List.mem_of_getElem? (i := 477) (by decide +kernel)⟩
def lw_privs_1 : List (MethodName × Nat) := [(⟨"GiftShops$Tape", "addBytes", "(J)V"⟩, 2), (⟨"GiftShops$Parser", "readInto", "(LGiftShops$Rules;)I"⟩, 3), (⟨"GiftShops$Rules", "clear", "()V"⟩, 6), (⟨"GiftShops$Scanner", "begin", "()V"⟩, 5), (⟨"GiftShops$Scanner", "next", "()V"⟩, 5), (⟨"GiftShops$Scanner", "behindRun", "(CC)I"⟩, 5), (⟨"GiftShops$Scanner", "wordToken", "()I"⟩, 5), (⟨"GiftShops$Scanner", "spells", "(I)Z"⟩, 5), (⟨"GiftShops$Scanner", "numberToken", "()I"⟩, 5), (⟨"GiftShops$Parser", "readLine", "()Z"⟩, 3), (⟨"GiftShops$Scanner", "isWay", "()Z"⟩, 5), (⟨"GiftShops$Parser", "wrong", "(I)Z"⟩, 3), (⟨"GiftShops$Scanner", "wayTold", "()I"⟩, 5), (⟨"GiftShops$Parser", "take", "(I)Z"⟩, 3), (⟨"GiftShops$Parser", "readTests", "(I)Z"⟩, 3), (⟨"GiftShops$Parser", "readTest", "(I)Z"⟩, 3)]
theorem lw_r1 : ∀ q ∈ lw_privs_1, lw_okq q := List.forall_mem_cons.mpr ⟨lw_p0, List.forall_mem_cons.mpr ⟨lw_p1, List.forall_mem_cons.mpr ⟨lw_p2, List.forall_mem_cons.mpr ⟨lw_p3, List.forall_mem_cons.mpr ⟨lw_p4, List.forall_mem_cons.mpr ⟨lw_p5, List.forall_mem_cons.mpr ⟨lw_p6, List.forall_mem_cons.mpr ⟨lw_p7, List.forall_mem_cons.mpr ⟨lw_p8, List.forall_mem_cons.mpr ⟨lw_p9, List.forall_mem_cons.mpr ⟨lw_p10, List.forall_mem_cons.mpr ⟨lw_p11, List.forall_mem_cons.mpr ⟨lw_p12, List.forall_mem_cons.mpr ⟨lw_p13, List.forall_mem_cons.mpr ⟨lw_p14, List.forall_mem_cons.mpr ⟨lw_p15, fun _ h => absurd h List.not_mem_nil⟩⟩⟩⟩⟩⟩⟩⟩⟩⟩⟩⟩⟩⟩⟩⟩
theorem lw_p16 : lw_okq (⟨"GiftShops$Parser", "readSum", "(I)Z"⟩, 3) := ⟨⟨by decide +kernel, by decide +kernel⟩, List.mem_of_getElem? (i := 108) (by decide +kernel), List.mem_of_getElem? (i := 480) (by decide +kernel), List.mem_of_getElem? (i := 481) (by decide +kernel)⟩
theorem lw_p17 : lw_okq (⟨"GiftShops$Parser", "readPart", "(I)Z"⟩, 3) := ⟨⟨by decide +kernel, by decide +kernel⟩, List.mem_of_getElem? (i := 108) (by decide +kernel), List.mem_of_getElem? (i := 484) (by decide +kernel), List.mem_of_getElem? (i := 485) (by decide +kernel)⟩
theorem lw_p18 : lw_okq (⟨"GiftShops$Scanner", "isFact", "()Z"⟩, 5) := ⟨⟨by decide +kernel, by decide +kernel⟩, List.mem_of_getElem? (i := 114) (by decide +kernel), List.mem_of_getElem? (i := 488) (by decide +kernel), List.mem_of_getElem? (i := 489) (by decide +kernel)⟩
theorem lw_p19 : lw_okq (⟨"GiftShops$Rules", "add", "(I)V"⟩, 6) := ⟨⟨by decide +kernel, by decide +kernel⟩, List.mem_of_getElem? (i := 81) (by decide +kernel), List.mem_of_getElem? (i := 492) (by decide +kernel), List.mem_of_getElem? (i := 493) (by decide +kernel)⟩
theorem lw_p20 : lw_okq (⟨"GiftShops$Scanner", "factTold", "()I"⟩, 5) := ⟨⟨by decide +kernel, by decide +kernel⟩, List.mem_of_getElem? (i := 114) (by decide +kernel), List.mem_of_getElem? (i := 496) (by decide +kernel), List.mem_of_getElem? (i := 497) (by decide +kernel)⟩
theorem lw_p21 : lw_okq (⟨"GiftShops$Rules", "endLine", "(I)V"⟩, 6) := ⟨⟨by decide +kernel, by decide +kernel⟩, List.mem_of_getElem? (i := 81) (by decide +kernel), List.mem_of_getElem? (i := 500) (by decide +kernel), List.mem_of_getElem? (i := 501) (by decide +kernel)⟩
theorem lw_p22 : lw_okq (⟨"GiftShops", "sortFor", "(LGiftShops$Thing;I)V"⟩, 18) := ⟨⟨by decide +kernel, by decide +kernel⟩, List.mem_of_getElem? (i := 24) (by decide +kernel), List.mem_of_getElem? (i := 509) (by decide +kernel), List.mem_of_getElem? (i := 510) (by decide +kernel)⟩
theorem lw_p23 : lw_okq (⟨"GiftShops", "wayByText", "(LGiftShops$Thing;)I"⟩, 18) := ⟨⟨by decide +kernel, by decide +kernel⟩, List.mem_of_getElem? (i := 24) (by decide +kernel), List.mem_of_getElem? (i := 513) (by decide +kernel), List.mem_of_getElem? (i := 514) (by decide +kernel)⟩
theorem lw_p24 : lw_okq (⟨"GiftShops", "seasonNow", "()I"⟩, 18) := ⟨⟨by decide +kernel, by decide +kernel⟩, List.mem_of_getElem? (i := 24) (by decide +kernel), List.mem_of_getElem? (i := 517) (by decide +kernel), List.mem_of_getElem? (i := 518) (by decide +kernel)⟩
theorem lw_p25 : lw_okq (⟨"GiftShops$Rules", "wayFor", "([I)I"⟩, 6) := ⟨⟨by decide +kernel, by decide +kernel⟩, List.mem_of_getElem? (i := 81) (by decide +kernel), List.mem_of_getElem? (i := 521) (by decide +kernel), List.mem_of_getElem? (i := 522) (by decide +kernel)⟩
theorem lw_p26 : lw_okq (⟨"GiftShops$Rules", "valueOf", "(II[I)I"⟩, 6) := ⟨⟨by decide +kernel, by decide +kernel⟩, List.mem_of_getElem? (i := 81) (by decide +kernel), List.mem_of_getElem? (i := 525) (by decide +kernel), List.mem_of_getElem? (i := 526) (by decide +kernel)⟩
theorem lw_p27 : lw_okq (⟨"GiftShops$Shop", "hasRoom", "()Z"⟩, 5) := ⟨⟨by decide +kernel, by decide +kernel⟩, List.mem_of_getElem? (i := 37) (by decide +kernel), List.mem_of_getElem? (i := 532) (by decide +kernel), List.mem_of_getElem? (i := 533) (by decide +kernel)⟩
theorem lw_p28 : lw_okq (⟨"GiftShops", "comeOnShelf", "(LGiftShops$Thing;II)V"⟩, 18) := ⟨⟨by decide +kernel, by decide +kernel⟩, List.mem_of_getElem? (i := 24) (by decide +kernel), List.mem_of_getElem? (i := 536) (by decide +kernel), List.mem_of_getElem? (i := 537) (by decide +kernel)⟩
theorem lw_p29 : lw_okq (⟨"GiftShops", "endWeek", "()V"⟩, 18) := ⟨⟨by decide +kernel, by decide +kernel⟩, List.mem_of_getElem? (i := 24) (by decide +kernel), List.mem_of_getElem? (i := 553) (by decide +kernel), List.mem_of_getElem? (i := 554) (by decide +kernel)⟩
theorem lw_p30 : lw_okq (⟨"GiftShops", "endWeekOnShelf", "(LGiftShops$Thing;)V"⟩, 18) := ⟨⟨by decide +kernel, by decide +kernel⟩, List.mem_of_getElem? (i := 24) (by decide +kernel), List.mem_of_getElem? (i := 557) (by decide +kernel), List.mem_of_getElem? (i := 558) (by decide +kernel)⟩
theorem lw_p31 : lw_okq (⟨"GiftShops", "leaveShelf", "(LGiftShops$Thing;I)V"⟩, 18) := ⟨⟨by decide +kernel, by decide +kernel⟩, List.mem_of_getElem? (i := 24) (by decide +kernel), List.mem_of_getElem? (i := 561) (by decide +kernel), List.mem_of_getElem? (i := 562) (by decide +kernel)⟩
def lw_privs_2 : List (MethodName × Nat) := [(⟨"GiftShops$Parser", "readSum", "(I)Z"⟩, 3), (⟨"GiftShops$Parser", "readPart", "(I)Z"⟩, 3), (⟨"GiftShops$Scanner", "isFact", "()Z"⟩, 5), (⟨"GiftShops$Rules", "add", "(I)V"⟩, 6), (⟨"GiftShops$Scanner", "factTold", "()I"⟩, 5), (⟨"GiftShops$Rules", "endLine", "(I)V"⟩, 6), (⟨"GiftShops", "sortFor", "(LGiftShops$Thing;I)V"⟩, 18), (⟨"GiftShops", "wayByText", "(LGiftShops$Thing;)I"⟩, 18), (⟨"GiftShops", "seasonNow", "()I"⟩, 18), (⟨"GiftShops$Rules", "wayFor", "([I)I"⟩, 6), (⟨"GiftShops$Rules", "valueOf", "(II[I)I"⟩, 6), (⟨"GiftShops$Shop", "hasRoom", "()Z"⟩, 5), (⟨"GiftShops", "comeOnShelf", "(LGiftShops$Thing;II)V"⟩, 18), (⟨"GiftShops", "endWeek", "()V"⟩, 18), (⟨"GiftShops", "endWeekOnShelf", "(LGiftShops$Thing;)V"⟩, 18), (⟨"GiftShops", "leaveShelf", "(LGiftShops$Thing;I)V"⟩, 18)]
theorem lw_r2 : ∀ q ∈ lw_privs_2, lw_okq q := List.forall_mem_cons.mpr ⟨lw_p16, List.forall_mem_cons.mpr ⟨lw_p17, List.forall_mem_cons.mpr ⟨lw_p18, List.forall_mem_cons.mpr ⟨lw_p19, List.forall_mem_cons.mpr ⟨lw_p20, List.forall_mem_cons.mpr ⟨lw_p21, List.forall_mem_cons.mpr ⟨lw_p22, List.forall_mem_cons.mpr ⟨lw_p23, List.forall_mem_cons.mpr ⟨lw_p24, List.forall_mem_cons.mpr ⟨lw_p25, List.forall_mem_cons.mpr ⟨lw_p26, List.forall_mem_cons.mpr ⟨lw_p27, List.forall_mem_cons.mpr ⟨lw_p28, List.forall_mem_cons.mpr ⟨lw_p29, List.forall_mem_cons.mpr ⟨lw_p30, List.forall_mem_cons.mpr ⟨lw_p31, fun _ h => absurd h List.not_mem_nil⟩⟩⟩⟩⟩⟩⟩⟩⟩⟩⟩⟩⟩⟩⟩⟩
theorem lw_p32 : lw_okq (⟨"GiftShops", "beginSeason", "()V"⟩, 18) := ⟨⟨by decide +kernel, by decide +kernel⟩, List.mem_of_getElem? (i := 24) (by decide +kernel), List.mem_of_getElem? (i := 565) (by decide +kernel), List.mem_of_getElem? (i := 566) (by decide +kernel)⟩
theorem lw_p33 : lw_okq (⟨"GiftShops", "firstShopWithRoom", "()I"⟩, 18) := ⟨⟨by decide +kernel, by decide +kernel⟩, List.mem_of_getElem? (i := 24) (by decide +kernel), List.mem_of_getElem? (i := 569) (by decide +kernel), List.mem_of_getElem? (i := 570) (by decide +kernel)⟩
theorem lw_p34 : lw_okq (⟨"GiftShops", "liesOnShelf", "(I)Z"⟩, 18) := ⟨⟨by decide +kernel, by decide +kernel⟩, List.mem_of_getElem? (i := 24) (by decide +kernel), List.mem_of_getElem? (i := 577) (by decide +kernel), List.mem_of_getElem? (i := 578) (by decide +kernel)⟩
theorem lw_p35 : lw_okq (⟨"GiftShops", "priceNow", "(LGiftShops$Thing;)I"⟩, 18) := ⟨⟨by decide +kernel, by decide +kernel⟩, List.mem_of_getElem? (i := 24) (by decide +kernel), List.mem_of_getElem? (i := 581) (by decide +kernel), List.mem_of_getElem? (i := 582) (by decide +kernel)⟩
theorem lw_p36 : lw_okq (⟨"GiftShops", "worthIn", "(LGiftShops$Thing;I)I"⟩, 18) := ⟨⟨by decide +kernel, by decide +kernel⟩, List.mem_of_getElem? (i := 24) (by decide +kernel), List.mem_of_getElem? (i := 635) (by decide +kernel), List.mem_of_getElem? (i := 636) (by decide +kernel)⟩
theorem lw_p37 : lw_okq (⟨"GiftShops$Shop", "expected", "(II)I"⟩, 5) := ⟨⟨by decide +kernel, by decide +kernel⟩, List.mem_of_getElem? (i := 37) (by decide +kernel), List.mem_of_getElem? (i := 639) (by decide +kernel), List.mem_of_getElem? (i := 640) (by decide +kernel)⟩
theorem lw_p38 : lw_okq (⟨"GiftShops", "betterShop", "(LGiftShops$Thing;)I"⟩, 18) := ⟨⟨by decide +kernel, by decide +kernel⟩, List.mem_of_getElem? (i := 24) (by decide +kernel), List.mem_of_getElem? (i := 647) (by decide +kernel), List.mem_of_getElem? (i := 648) (by decide +kernel)⟩
theorem lw_p39 : lw_okq (⟨"GiftShops$Roads", "tell", "(III)Z"⟩, 2) := ⟨⟨by decide +kernel, by decide +kernel⟩, List.mem_of_getElem? (i := 149) (by decide +kernel), List.mem_of_getElem? (i := 663) (by decide +kernel), List.mem_of_getElem? (i := 664) (by decide +kernel)⟩
theorem lw_p40 : lw_okq (⟨"GiftShops$Roads", "shortestRound", "(I)I"⟩, 2) := ⟨⟨by decide +kernel, by decide +kernel⟩, List.mem_of_getElem? (i := 149) (by decide +kernel), List.mem_of_getElem? (i := 672) (by decide +kernel), List.mem_of_getElem? (i := 673) (by decide +kernel)⟩
theorem lw_p41 : lw_okq (⟨"GiftShops$Roads", "fillPart", "(I)V"⟩, 2) := ⟨⟨by decide +kernel, by decide +kernel⟩, List.mem_of_getElem? (i := 149) (by decide +kernel), List.mem_of_getElem? (i := 676) (by decide +kernel), List.mem_of_getElem? (i := 677) (by decide +kernel)⟩
theorem lw_p42 : lw_okq (⟨"GiftShops$Roads", "leastInto", "(II)I"⟩, 2) := ⟨⟨by decide +kernel, by decide +kernel⟩, List.mem_of_getElem? (i := 149) (by decide +kernel), List.mem_of_getElem? (i := 680) (by decide +kernel), List.mem_of_getElem? (i := 681) (by decide +kernel)⟩
theorem lw_p43 : lw_okq (⟨"GiftShops$Turns", "addHelper", "(I)I"⟩, 5) := ⟨⟨by decide +kernel, by decide +kernel⟩, List.mem_of_getElem? (i := 162) (by decide +kernel), List.mem_of_getElem? (i := 690) (by decide +kernel), List.mem_of_getElem? (i := 691) (by decide +kernel)⟩
theorem lw_p44 : lw_okq (⟨"GiftShops$Turns", "leastTurns", "(I)I"⟩, 5) := ⟨⟨by decide +kernel, by decide +kernel⟩, List.mem_of_getElem? (i := 162) (by decide +kernel), List.mem_of_getElem? (i := 699) (by decide +kernel), List.mem_of_getElem? (i := 700) (by decide +kernel)⟩
theorem lw_p45 : lw_okq (⟨"GiftShops$Turns", "eachDayHasTwo", "(I)Z"⟩, 5) := ⟨⟨by decide +kernel, by decide +kernel⟩, List.mem_of_getElem? (i := 162) (by decide +kernel), List.mem_of_getElem? (i := 703) (by decide +kernel), List.mem_of_getElem? (i := 704) (by decide +kernel)⟩
theorem lw_p46 : lw_okq (⟨"GiftShops$Turns", "helpersOn", "(I)I"⟩, 5) := ⟨⟨by decide +kernel, by decide +kernel⟩, List.mem_of_getElem? (i := 162) (by decide +kernel), List.mem_of_getElem? (i := 707) (by decide +kernel), List.mem_of_getElem? (i := 708) (by decide +kernel)⟩
theorem lw_p47 : lw_okq (⟨"GiftShops$Turns", "fillPlace", "(II)I"⟩, 5) := ⟨⟨by decide +kernel, by decide +kernel⟩, List.mem_of_getElem? (i := 162) (by decide +kernel), List.mem_of_getElem? (i := 711) (by decide +kernel), List.mem_of_getElem? (i := 712) (by decide +kernel)⟩
def lw_privs_3 : List (MethodName × Nat) := [(⟨"GiftShops", "beginSeason", "()V"⟩, 18), (⟨"GiftShops", "firstShopWithRoom", "()I"⟩, 18), (⟨"GiftShops", "liesOnShelf", "(I)Z"⟩, 18), (⟨"GiftShops", "priceNow", "(LGiftShops$Thing;)I"⟩, 18), (⟨"GiftShops", "worthIn", "(LGiftShops$Thing;I)I"⟩, 18), (⟨"GiftShops$Shop", "expected", "(II)I"⟩, 5), (⟨"GiftShops", "betterShop", "(LGiftShops$Thing;)I"⟩, 18), (⟨"GiftShops$Roads", "tell", "(III)Z"⟩, 2), (⟨"GiftShops$Roads", "shortestRound", "(I)I"⟩, 2), (⟨"GiftShops$Roads", "fillPart", "(I)V"⟩, 2), (⟨"GiftShops$Roads", "leastInto", "(II)I"⟩, 2), (⟨"GiftShops$Turns", "addHelper", "(I)I"⟩, 5), (⟨"GiftShops$Turns", "leastTurns", "(I)I"⟩, 5), (⟨"GiftShops$Turns", "eachDayHasTwo", "(I)Z"⟩, 5), (⟨"GiftShops$Turns", "helpersOn", "(I)I"⟩, 5), (⟨"GiftShops$Turns", "fillPlace", "(II)I"⟩, 5)]
theorem lw_r3 : ∀ q ∈ lw_privs_3, lw_okq q := List.forall_mem_cons.mpr ⟨lw_p32, List.forall_mem_cons.mpr ⟨lw_p33, List.forall_mem_cons.mpr ⟨lw_p34, List.forall_mem_cons.mpr ⟨lw_p35, List.forall_mem_cons.mpr ⟨lw_p36, List.forall_mem_cons.mpr ⟨lw_p37, List.forall_mem_cons.mpr ⟨lw_p38, List.forall_mem_cons.mpr ⟨lw_p39, List.forall_mem_cons.mpr ⟨lw_p40, List.forall_mem_cons.mpr ⟨lw_p41, List.forall_mem_cons.mpr ⟨lw_p42, List.forall_mem_cons.mpr ⟨lw_p43, List.forall_mem_cons.mpr ⟨lw_p44, List.forall_mem_cons.mpr ⟨lw_p45, List.forall_mem_cons.mpr ⟨lw_p46, List.forall_mem_cons.mpr ⟨lw_p47, fun _ h => absurd h List.not_mem_nil⟩⟩⟩⟩⟩⟩⟩⟩⟩⟩⟩⟩⟩⟩⟩⟩
theorem lw_p48 : lw_okq (⟨"GiftShops$Turns", "findHelper", "(III)Z"⟩, 5) := ⟨⟨by decide +kernel, by decide +kernel⟩, List.mem_of_getElem? (i := 162) (by decide +kernel), List.mem_of_getElem? (i := 715) (by decide +kernel), List.mem_of_getElem? (i := 716) (by decide +kernel)⟩
theorem lw_p49 : lw_okq (⟨"GiftShops$Turns", "handOver", "(III)Z"⟩, 5) := ⟨⟨by decide +kernel, by decide +kernel⟩, List.mem_of_getElem? (i := 162) (by decide +kernel), List.mem_of_getElem? (i := 725) (by decide +kernel), List.mem_of_getElem? (i := 726) (by decide +kernel)⟩
theorem lw_p50 : lw_okq (⟨"GiftShops", "validSales", "()I"⟩, 18) := ⟨⟨by decide +kernel, by decide +kernel⟩, List.mem_of_getElem? (i := 24) (by decide +kernel), List.mem_of_getElem? (i := 741) (by decide +kernel), List.mem_of_getElem? (i := 742) (by decide +kernel)⟩
theorem lw_p51 : lw_okq (⟨"GiftShops", "validSum", "()I"⟩, 18) := ⟨⟨by decide +kernel, by decide +kernel⟩, List.mem_of_getElem? (i := 24) (by decide +kernel), List.mem_of_getElem? (i := 745) (by decide +kernel), List.mem_of_getElem? (i := 746) (by decide +kernel)⟩
theorem lw_p52 : lw_okq (⟨"GiftShops", "thingsThatAre", "(I)I"⟩, 18) := ⟨⟨by decide +kernel, by decide +kernel⟩, List.mem_of_getElem? (i := 24) (by decide +kernel), List.mem_of_getElem? (i := 749) (by decide +kernel), List.mem_of_getElem? (i := 750) (by decide +kernel)⟩
theorem lw_p53 : lw_okq (⟨"java/lang/Throwable", "fillInStackTrace", "(I)Ljava/lang/Throwable;"⟩, 6) := ⟨⟨by decide +kernel, by decide +kernel⟩, List.mem_of_getElem? (i := 797) (by decide +kernel), List.mem_of_getElem? (i := 795) (by decide +kernel), List.mem_of_getElem? (i := 796) (by decide +kernel)⟩
theorem lw_p54 : lw_okq (⟨"GiftShopsModel", "lay", "(J)V"⟩, 54) := ⟨⟨by decide +kernel, by decide +kernel⟩, List.mem_of_getElem? (i := 836) (by decide +kernel), List.mem_of_getElem? (i := 834) (by decide +kernel), List.mem_of_getElem? (i := 835) (by decide +kernel)⟩
theorem lw_p55 : lw_okq (⟨"GiftShopsModel", "cutAll", "()V"⟩, 54) := ⟨⟨by decide +kernel, by decide +kernel⟩, List.mem_of_getElem? (i := 836) (by decide +kernel), List.mem_of_getElem? (i := 1025) (by decide +kernel), List.mem_of_getElem? (i := 1026) (by decide +kernel)⟩
theorem lw_p56 : lw_okq (⟨"GiftShopsModel", "line", "()V"⟩, 54) := ⟨⟨by decide +kernel, by decide +kernel⟩, List.mem_of_getElem? (i := 836) (by decide +kernel), List.mem_of_getElem? (i := 1044) (by decide +kernel), List.mem_of_getElem? (i := 1045) (by decide +kernel)⟩
theorem lw_p57 : lw_okq (⟨"GiftShopsModel", "isWord", "(I)Z"⟩, 54) := ⟨⟨by decide +kernel, by decide +kernel⟩, List.mem_of_getElem? (i := 836) (by decide +kernel), List.mem_of_getElem? (i := 1048) (by decide +kernel), List.mem_of_getElem? (i := 1049) (by decide +kernel)⟩
theorem lw_p58 : lw_okq (⟨"GiftShopsModel", "wrong", "(I)V"⟩, 54) := ⟨⟨by decide +kernel, by decide +kernel⟩, List.mem_of_getElem? (i := 836) (by decide +kernel), List.mem_of_getElem? (i := 1052) (by decide +kernel), List.mem_of_getElem? (i := 1053) (by decide +kernel)⟩
theorem lw_p59 : lw_okq (⟨"GiftShopsModel", "takeWord", "(I)V"⟩, 54) := ⟨⟨by decide +kernel, by decide +kernel⟩, List.mem_of_getElem? (i := 836) (by decide +kernel), List.mem_of_getElem? (i := 1056) (by decide +kernel), List.mem_of_getElem? (i := 1057) (by decide +kernel)⟩
theorem lw_p60 : lw_okq (⟨"GiftShopsModel", "hasWord", "(I)Z"⟩, 54) := ⟨⟨by decide +kernel, by decide +kernel⟩, List.mem_of_getElem? (i := 836) (by decide +kernel), List.mem_of_getElem? (i := 1060) (by decide +kernel), List.mem_of_getElem? (i := 1061) (by decide +kernel)⟩
theorem lw_p61 : lw_okq (⟨"GiftShopsModel", "opens", "()V"⟩, 54) := ⟨⟨by decide +kernel, by decide +kernel⟩, List.mem_of_getElem? (i := 836) (by decide +kernel), List.mem_of_getElem? (i := 1064) (by decide +kernel), List.mem_of_getElem? (i := 1065) (by decide +kernel)⟩
theorem lw_p62 : lw_okq (⟨"GiftShopsModel", "part", "()Z"⟩, 54) := ⟨⟨by decide +kernel, by decide +kernel⟩, List.mem_of_getElem? (i := 836) (by decide +kernel), List.mem_of_getElem? (i := 1068) (by decide +kernel), List.mem_of_getElem? (i := 1069) (by decide +kernel)⟩
theorem lw_p63 : lw_okq (⟨"GiftShopsModel", "partWord", "()I"⟩, 54) := ⟨⟨by decide +kernel, by decide +kernel⟩, List.mem_of_getElem? (i := 836) (by decide +kernel), List.mem_of_getElem? (i := 1072) (by decide +kernel), List.mem_of_getElem? (i := 1073) (by decide +kernel)⟩
def lw_privs_4 : List (MethodName × Nat) := [(⟨"GiftShops$Turns", "findHelper", "(III)Z"⟩, 5), (⟨"GiftShops$Turns", "handOver", "(III)Z"⟩, 5), (⟨"GiftShops", "validSales", "()I"⟩, 18), (⟨"GiftShops", "validSum", "()I"⟩, 18), (⟨"GiftShops", "thingsThatAre", "(I)I"⟩, 18), (⟨"java/lang/Throwable", "fillInStackTrace", "(I)Ljava/lang/Throwable;"⟩, 6), (⟨"GiftShopsModel", "lay", "(J)V"⟩, 54), (⟨"GiftShopsModel", "cutAll", "()V"⟩, 54), (⟨"GiftShopsModel", "line", "()V"⟩, 54), (⟨"GiftShopsModel", "isWord", "(I)Z"⟩, 54), (⟨"GiftShopsModel", "wrong", "(I)V"⟩, 54), (⟨"GiftShopsModel", "takeWord", "(I)V"⟩, 54), (⟨"GiftShopsModel", "hasWord", "(I)Z"⟩, 54), (⟨"GiftShopsModel", "opens", "()V"⟩, 54), (⟨"GiftShopsModel", "part", "()Z"⟩, 54), (⟨"GiftShopsModel", "partWord", "()I"⟩, 54)]
theorem lw_r4 : ∀ q ∈ lw_privs_4, lw_okq q := List.forall_mem_cons.mpr ⟨lw_p48, List.forall_mem_cons.mpr ⟨lw_p49, List.forall_mem_cons.mpr ⟨lw_p50, List.forall_mem_cons.mpr ⟨lw_p51, List.forall_mem_cons.mpr ⟨lw_p52, List.forall_mem_cons.mpr ⟨lw_p53, List.forall_mem_cons.mpr ⟨lw_p54, List.forall_mem_cons.mpr ⟨lw_p55, List.forall_mem_cons.mpr ⟨lw_p56, List.forall_mem_cons.mpr ⟨lw_p57, List.forall_mem_cons.mpr ⟨lw_p58, List.forall_mem_cons.mpr ⟨lw_p59, List.forall_mem_cons.mpr ⟨lw_p60, List.forall_mem_cons.mpr ⟨lw_p61, List.forall_mem_cons.mpr ⟨lw_p62, List.forall_mem_cons.mpr ⟨lw_p63, fun _ h => absurd h List.not_mem_nil⟩⟩⟩⟩⟩⟩⟩⟩⟩⟩⟩⟩⟩⟩⟩⟩
theorem lw_p64 : lw_okq (⟨"GiftShopsModel", "isSign", "(I)Z"⟩, 54) := ⟨⟨by decide +kernel, by decide +kernel⟩, List.mem_of_getElem? (i := 836) (by decide +kernel), List.mem_of_getElem? (i := 1076) (by decide +kernel), List.mem_of_getElem? (i := 1077) (by decide +kernel)⟩
theorem lw_p65 : lw_okq (⟨"GiftShopsModel", "hasSign", "(I)Z"⟩, 54) := ⟨⟨by decide +kernel, by decide +kernel⟩, List.mem_of_getElem? (i := 836) (by decide +kernel), List.mem_of_getElem? (i := 1080) (by decide +kernel), List.mem_of_getElem? (i := 1081) (by decide +kernel)⟩
theorem lw_p66 : lw_okq (⟨"GiftShopsModel", "emit", "(II)V"⟩, 54) := ⟨⟨by decide +kernel, by decide +kernel⟩, List.mem_of_getElem? (i := 836) (by decide +kernel), List.mem_of_getElem? (i := 1084) (by decide +kernel), List.mem_of_getElem? (i := 1085) (by decide +kernel)⟩
theorem lw_p67 : lw_okq (⟨"GiftShopsModel", "goesOnBehind", "()Z"⟩, 54) := ⟨⟨by decide +kernel, by decide +kernel⟩, List.mem_of_getElem? (i := 836) (by decide +kernel), List.mem_of_getElem? (i := 1088) (by decide +kernel), List.mem_of_getElem? (i := 1089) (by decide +kernel)⟩
theorem lw_p68 : lw_okq (⟨"GiftShopsModel", "takeSign", "(I)V"⟩, 54) := ⟨⟨by decide +kernel, by decide +kernel⟩, List.mem_of_getElem? (i := 836) (by decide +kernel), List.mem_of_getElem? (i := 1092) (by decide +kernel), List.mem_of_getElem? (i := 1093) (by decide +kernel)⟩
theorem lw_p69 : lw_okq (⟨"GiftShopsModel", "isThing", "(I)Z"⟩, 54) := ⟨⟨by decide +kernel, by decide +kernel⟩, List.mem_of_getElem? (i := 836) (by decide +kernel), List.mem_of_getElem? (i := 1118) (by decide +kernel), List.mem_of_getElem? (i := 1119) (by decide +kernel)⟩
theorem lw_p70 : lw_okq (⟨"GiftShopsModel", "sorts", "(II)V"⟩, 54) := ⟨⟨by decide +kernel, by decide +kernel⟩, List.mem_of_getElem? (i := 836) (by decide +kernel), List.mem_of_getElem? (i := 1122) (by decide +kernel), List.mem_of_getElem? (i := 1123) (by decide +kernel)⟩
theorem lw_p71 : lw_okq (⟨"GiftShopsModel", "wayOf", "(I)I"⟩, 54) := ⟨⟨by decide +kernel, by decide +kernel⟩, List.mem_of_getElem? (i := 836) (by decide +kernel), List.mem_of_getElem? (i := 1126) (by decide +kernel), List.mem_of_getElem? (i := 1127) (by decide +kernel)⟩
theorem lw_p72 : lw_okq (⟨"GiftShopsModel", "seasonNow", "()I"⟩, 54) := ⟨⟨by decide +kernel, by decide +kernel⟩, List.mem_of_getElem? (i := 836) (by decide +kernel), List.mem_of_getElem? (i := 1130) (by decide +kernel), List.mem_of_getElem? (i := 1131) (by decide +kernel)⟩
theorem lw_p73 : lw_okq (⟨"GiftShopsModel", "valueOf", "(I)I"⟩, 54) := ⟨⟨by decide +kernel, by decide +kernel⟩, List.mem_of_getElem? (i := 836) (by decide +kernel), List.mem_of_getElem? (i := 1134) (by decide +kernel), List.mem_of_getElem? (i := 1135) (by decide +kernel)⟩
theorem lw_p74 : lw_okq (⟨"GiftShopsModel", "hasRoom", "(I)Z"⟩, 54) := ⟨⟨by decide +kernel, by decide +kernel⟩, List.mem_of_getElem? (i := 836) (by decide +kernel), List.mem_of_getElem? (i := 1138) (by decide +kernel), List.mem_of_getElem? (i := 1139) (by decide +kernel)⟩
theorem lw_p75 : lw_okq (⟨"GiftShopsModel", "onShelf", "(I)I"⟩, 54) := ⟨⟨by decide +kernel, by decide +kernel⟩, List.mem_of_getElem? (i := 836) (by decide +kernel), List.mem_of_getElem? (i := 1142) (by decide +kernel), List.mem_of_getElem? (i := 1143) (by decide +kernel)⟩
theorem lw_p76 : lw_okq (⟨"GiftShopsModel", "comesOn", "(II)V"⟩, 54) := ⟨⟨by decide +kernel, by decide +kernel⟩, List.mem_of_getElem? (i := 836) (by decide +kernel), List.mem_of_getElem? (i := 1146) (by decide +kernel), List.mem_of_getElem? (i := 1147) (by decide +kernel)⟩
theorem lw_p77 : lw_okq (⟨"GiftShopsModel", "week", "()V"⟩, 54) := ⟨⟨by decide +kernel, by decide +kernel⟩, List.mem_of_getElem? (i := 836) (by decide +kernel), List.mem_of_getElem? (i := 1162) (by decide +kernel), List.mem_of_getElem? (i := 1163) (by decide +kernel)⟩
theorem lw_p78 : lw_okq (⟨"GiftShopsModel", "firstWithRoom", "()I"⟩, 54) := ⟨⟨by decide +kernel, by decide +kernel⟩, List.mem_of_getElem? (i := 836) (by decide +kernel), List.mem_of_getElem? (i := 1166) (by decide +kernel), List.mem_of_getElem? (i := 1167) (by decide +kernel)⟩
theorem lw_p79 : lw_okq (⟨"GiftShopsModel", "isOn", "(I)Z"⟩, 54) := ⟨⟨by decide +kernel, by decide +kernel⟩, List.mem_of_getElem? (i := 836) (by decide +kernel), List.mem_of_getElem? (i := 1174) (by decide +kernel), List.mem_of_getElem? (i := 1175) (by decide +kernel)⟩
def lw_privs_5 : List (MethodName × Nat) := [(⟨"GiftShopsModel", "isSign", "(I)Z"⟩, 54), (⟨"GiftShopsModel", "hasSign", "(I)Z"⟩, 54), (⟨"GiftShopsModel", "emit", "(II)V"⟩, 54), (⟨"GiftShopsModel", "goesOnBehind", "()Z"⟩, 54), (⟨"GiftShopsModel", "takeSign", "(I)V"⟩, 54), (⟨"GiftShopsModel", "isThing", "(I)Z"⟩, 54), (⟨"GiftShopsModel", "sorts", "(II)V"⟩, 54), (⟨"GiftShopsModel", "wayOf", "(I)I"⟩, 54), (⟨"GiftShopsModel", "seasonNow", "()I"⟩, 54), (⟨"GiftShopsModel", "valueOf", "(I)I"⟩, 54), (⟨"GiftShopsModel", "hasRoom", "(I)Z"⟩, 54), (⟨"GiftShopsModel", "onShelf", "(I)I"⟩, 54), (⟨"GiftShopsModel", "comesOn", "(II)V"⟩, 54), (⟨"GiftShopsModel", "week", "()V"⟩, 54), (⟨"GiftShopsModel", "firstWithRoom", "()I"⟩, 54), (⟨"GiftShopsModel", "isOn", "(I)Z"⟩, 54)]
theorem lw_r5 : ∀ q ∈ lw_privs_5, lw_okq q := List.forall_mem_cons.mpr ⟨lw_p64, List.forall_mem_cons.mpr ⟨lw_p65, List.forall_mem_cons.mpr ⟨lw_p66, List.forall_mem_cons.mpr ⟨lw_p67, List.forall_mem_cons.mpr ⟨lw_p68, List.forall_mem_cons.mpr ⟨lw_p69, List.forall_mem_cons.mpr ⟨lw_p70, List.forall_mem_cons.mpr ⟨lw_p71, List.forall_mem_cons.mpr ⟨lw_p72, List.forall_mem_cons.mpr ⟨lw_p73, List.forall_mem_cons.mpr ⟨lw_p74, List.forall_mem_cons.mpr ⟨lw_p75, List.forall_mem_cons.mpr ⟨lw_p76, List.forall_mem_cons.mpr ⟨lw_p77, List.forall_mem_cons.mpr ⟨lw_p78, List.forall_mem_cons.mpr ⟨lw_p79, fun _ h => absurd h List.not_mem_nil⟩⟩⟩⟩⟩⟩⟩⟩⟩⟩⟩⟩⟩⟩⟩⟩
theorem lw_p80 : lw_okq (⟨"GiftShopsModel", "priceOf", "(I)I"⟩, 54) := ⟨⟨by decide +kernel, by decide +kernel⟩, List.mem_of_getElem? (i := 836) (by decide +kernel), List.mem_of_getElem? (i := 1178) (by decide +kernel), List.mem_of_getElem? (i := 1179) (by decide +kernel)⟩
theorem lw_p81 : lw_okq (⟨"GiftShopsModel", "weighs", "(III)I"⟩, 54) := ⟨⟨by decide +kernel, by decide +kernel⟩, List.mem_of_getElem? (i := 836) (by decide +kernel), List.mem_of_getElem? (i := 1202) (by decide +kernel), List.mem_of_getElem? (i := 1203) (by decide +kernel)⟩
theorem lw_p82 : lw_okq (⟨"GiftShopsModel", "whereTo", "(I)I"⟩, 54) := ⟨⟨by decide +kernel, by decide +kernel⟩, List.mem_of_getElem? (i := 836) (by decide +kernel), List.mem_of_getElem? (i := 1210) (by decide +kernel), List.mem_of_getElem? (i := 1211) (by decide +kernel)⟩
theorem lw_p83 : lw_okq (⟨"GiftShopsModel", "goes", "(II)I"⟩, 54) := ⟨⟨by decide +kernel, by decide +kernel⟩, List.mem_of_getElem? (i := 836) (by decide +kernel), List.mem_of_getElem? (i := 1230) (by decide +kernel), List.mem_of_getElem? (i := 1231) (by decide +kernel)⟩
theorem lw_p84 : lw_okq (⟨"GiftShopsModel", "canBe", "(I)Z"⟩, 54) := ⟨⟨by decide +kernel, by decide +kernel⟩, List.mem_of_getElem? (i := 836) (by decide +kernel), List.mem_of_getElem? (i := 1242) (by decide +kernel), List.mem_of_getElem? (i := 1243) (by decide +kernel)⟩
theorem lw_p85 : lw_okq (⟨"GiftShopsModel", "finds", "(I)Z"⟩, 54) := ⟨⟨by decide +kernel, by decide +kernel⟩, List.mem_of_getElem? (i := 836) (by decide +kernel), List.mem_of_getElem? (i := 1246) (by decide +kernel), List.mem_of_getElem? (i := 1247) (by decide +kernel)⟩
theorem lw_p86 : lw_okq (⟨"GiftShopsModel", "loadOf", "(I)I"⟩, 54) := ⟨⟨by decide +kernel, by decide +kernel⟩, List.mem_of_getElem? (i := 836) (by decide +kernel), List.mem_of_getElem? (i := 1250) (by decide +kernel), List.mem_of_getElem? (i := 1251) (by decide +kernel)⟩
theorem lw_p87 : lw_okq (⟨"GiftShopsModel", "givesWay", "(I)Z"⟩, 54) := ⟨⟨by decide +kernel, by decide +kernel⟩, List.mem_of_getElem? (i := 836) (by decide +kernel), List.mem_of_getElem? (i := 1254) (by decide +kernel), List.mem_of_getElem? (i := 1255) (by decide +kernel)⟩
theorem lw_p88 : lw_okq (⟨"GiftShopsModel", "thingsThat", "(I)I"⟩, 54) := ⟨⟨by decide +kernel, by decide +kernel⟩, List.mem_of_getElem? (i := 836) (by decide +kernel), List.mem_of_getElem? (i := 1274) (by decide +kernel), List.mem_of_getElem? (i := 1275) (by decide +kernel)⟩
def lw_privs_6 : List (MethodName × Nat) := [(⟨"GiftShopsModel", "priceOf", "(I)I"⟩, 54), (⟨"GiftShopsModel", "weighs", "(III)I"⟩, 54), (⟨"GiftShopsModel", "whereTo", "(I)I"⟩, 54), (⟨"GiftShopsModel", "goes", "(II)I"⟩, 54), (⟨"GiftShopsModel", "canBe", "(I)Z"⟩, 54), (⟨"GiftShopsModel", "finds", "(I)Z"⟩, 54), (⟨"GiftShopsModel", "loadOf", "(I)I"⟩, 54), (⟨"GiftShopsModel", "givesWay", "(I)Z"⟩, 54), (⟨"GiftShopsModel", "thingsThat", "(I)I"⟩, 54)]
theorem lw_r6 : ∀ q ∈ lw_privs_6, lw_okq q := List.forall_mem_cons.mpr ⟨lw_p80, List.forall_mem_cons.mpr ⟨lw_p81, List.forall_mem_cons.mpr ⟨lw_p82, List.forall_mem_cons.mpr ⟨lw_p83, List.forall_mem_cons.mpr ⟨lw_p84, List.forall_mem_cons.mpr ⟨lw_p85, List.forall_mem_cons.mpr ⟨lw_p86, List.forall_mem_cons.mpr ⟨lw_p87, List.forall_mem_cons.mpr ⟨lw_p88, fun _ h => absurd h List.not_mem_nil⟩⟩⟩⟩⟩⟩⟩⟩⟩
def lw_privs : List (MethodName × Nat) := lw_privs_1 ++ (lw_privs_2 ++ (lw_privs_3 ++ (lw_privs_4 ++ (lw_privs_5 ++ (lw_privs_6)))))
def lw_tbl : List Cond := k2_sels lw_privs ++ tables_1
theorem lw_privs_ok : ∀ q ∈ lw_privs, lw_okq q := by
  show ∀ q ∈ lw_privs_1 ++ (lw_privs_2 ++ (lw_privs_3 ++ (lw_privs_4 ++ (lw_privs_5 ++ (lw_privs_6))))), lw_okq q
  exact List.forall_mem_append.mpr ⟨lw_r1, List.forall_mem_append.mpr ⟨lw_r2, List.forall_mem_append.mpr ⟨lw_r3, List.forall_mem_append.mpr ⟨lw_r4, List.forall_mem_append.mpr ⟨lw_r5, lw_r6⟩⟩⟩⟩⟩
end
section
def RX0 : String := "GiftShops$Parser"
def TX0 : u_T := fun k => match k with
  | 0 => ("GiftShops$Parser", "scanner", "LGiftShops$Scanner;", true)
  | 1 => ("GiftShops$Parser", "into", "LGiftShops$Rules;", false)
  | _ => ("GiftShops$Parser", "fault", "I", false)
def tyX0 : Nat → FieldType := fun k => match k with
  | 0 => .object "GiftShops$Scanner"
  | 1 => .object "GiftShops$Rules"
  | _ => .int
abbrev wsX00 : List Cond := u_ws RX0 TX0 3
theorem nmX0 : ∀ a, a < 3 → ∀ b, b < 3 → a ≠ b → (TX0 a).2.1 ≠ (TX0 b).2.1 := by decide +kernel
theorem tyX0_ok : ∀ k, k < 3 → parseFieldDescriptor (TX0 k).2.2.1 = some (tyX0 k) := by decide +kernel
theorem iX0 : ∀ w ∈ wsX00, w ∈ lw_tbl := by decide +kernel
def RX1 : String := "GiftShops$Roads"
def TX1 : u_T := fun k => match k with
  | 0 => ("GiftShops$Roads", "lengths", "[I", true)
  | _ => ("GiftShops$Roads", "endingAt", "[I", true)
def tyX1 : Nat → FieldType := fun k => match k with
  | 0 => .array .int
  | _ => .array .int
abbrev wsX10 : List Cond := u_ws RX1 TX1 2
theorem nmX1 : ∀ a, a < 2 → ∀ b, b < 2 → a ≠ b → (TX1 a).2.1 ≠ (TX1 b).2.1 := by decide +kernel
theorem tyX1_ok : ∀ k, k < 2 → parseFieldDescriptor (TX1 k).2.2.1 = some (tyX1 k) := by decide +kernel
theorem iX1 : ∀ w ∈ wsX10, w ∈ lw_tbl := by decide +kernel
def RX2 : String := "GiftShops$Rules"
def TX2 : u_T := fun k => match k with
  | 0 => ("GiftShops$Rules", "codes", "[I", true)
  | 1 => ("GiftShops$Rules", "ends", "[I", true)
  | 2 => ("GiftShops$Rules", "ways", "[I", true)
  | 3 => ("GiftShops$Rules", "stack", "[I", true)
  | 4 => ("GiftShops$Rules", "size", "I", false)
  | _ => ("GiftShops$Rules", "lines", "I", false)
def tyX2 : Nat → FieldType := fun k => match k with
  | 0 => .array .int
  | 1 => .array .int
  | 2 => .array .int
  | 3 => .array .int
  | 4 => .int
  | _ => .int
abbrev wsX20 : List Cond := u_ws RX2 TX2 6
theorem nmX2 : ∀ a, a < 6 → ∀ b, b < 6 → a ≠ b → (TX2 a).2.1 ≠ (TX2 b).2.1 := by decide +kernel
theorem tyX2_ok : ∀ k, k < 6 → parseFieldDescriptor (TX2 k).2.2.1 = some (tyX2 k) := by decide +kernel
theorem iX2 : ∀ w ∈ wsX20, w ∈ lw_tbl := by decide +kernel
def RX3 : String := "GiftShops$Sale"
def TX3 : u_T := fun k => match k with
  | 0 => ("GiftShops$Sale", "thing", "LGiftShops$Thing;", true)
  | 1 => ("GiftShops$Sale", "shop", "I", true)
  | 2 => ("GiftShops$Sale", "since", "I", true)
  | 3 => ("GiftShops$Sale", "price", "I", true)
  | 4 => ("GiftShops$Sale", "week", "I", true)
  | _ => ("GiftShops$Sale", "isVoid", "Z", false)
def tyX3 : Nat → FieldType := fun k => match k with
  | 0 => .object "GiftShops$Thing"
  | 1 => .int
  | 2 => .int
  | 3 => .int
  | 4 => .int
  | _ => .boolean
abbrev wsX30 : List Cond := u_ws RX3 TX3 6
theorem nmX3 : ∀ a, a < 6 → ∀ b, b < 6 → a ≠ b → (TX3 a).2.1 ≠ (TX3 b).2.1 := by decide +kernel
theorem tyX3_ok : ∀ k, k < 6 → parseFieldDescriptor (TX3 k).2.2.1 = some (tyX3 k) := by decide +kernel
theorem iX3 : ∀ w ∈ wsX30, w ∈ lw_tbl := by decide +kernel
def RX4 : String := "GiftShops$Scanner"
def TX4 : u_T := fun k => match k with
  | 0 => ("GiftShops$Scanner", "tape", "LGiftShops$Tape;", true)
  | 1 => ("GiftShops$Scanner", "token", "I", false)
  | 2 => ("GiftShops$Scanner", "start", "I", false)
  | 3 => ("GiftShops$Scanner", "end", "I", false)
  | _ => ("GiftShops$Scanner", "number", "I", false)
def tyX4 : Nat → FieldType := fun k => match k with
  | 0 => .object "GiftShops$Tape"
  | 1 => .int
  | 2 => .int
  | 3 => .int
  | _ => .int
abbrev wsX40 : List Cond := u_ws RX4 TX4 5
theorem nmX4 : ∀ a, a < 5 → ∀ b, b < 5 → a ≠ b → (TX4 a).2.1 ≠ (TX4 b).2.1 := by decide +kernel
theorem tyX4_ok : ∀ k, k < 5 → parseFieldDescriptor (TX4 k).2.2.1 = some (tyX4 k) := by decide +kernel
theorem iX4 : ∀ w ∈ wsX40, w ∈ lw_tbl := by decide +kernel
def RX5 : String := "GiftShops$Shop"
def TX5 : u_T := fun k => match k with
  | 0 => ("GiftShops$Shop", "room", "I", false)
  | 1 => ("GiftShops$Shop", "lying", "I", false)
  | 2 => ("GiftShops$Shop", "lost", "I", false)
  | 3 => ("GiftShops$Shop", "sold", "[I", true)
  | _ => ("GiftShops$Shop", "lain", "[I", true)
def tyX5 : Nat → FieldType := fun k => match k with
  | 0 => .int
  | 1 => .int
  | 2 => .int
  | 3 => .array .int
  | _ => .array .int
abbrev wsX50 : List Cond := u_ws RX5 TX5 5
theorem nmX5 : ∀ a, a < 5 → ∀ b, b < 5 → a ≠ b → (TX5 a).2.1 ≠ (TX5 b).2.1 := by decide +kernel
theorem tyX5_ok : ∀ k, k < 5 → parseFieldDescriptor (TX5 k).2.2.1 = some (tyX5 k) := by decide +kernel
theorem iX5 : ∀ w ∈ wsX50, w ∈ lw_tbl := by decide +kernel
def RX6 : String := "GiftShops$Tape"
def TX6 : u_T := fun k => match k with
  | 0 => ("GiftShops$Tape", "signs", "[C", true)
  | _ => ("GiftShops$Tape", "length", "I", false)
def tyX6 : Nat → FieldType := fun k => match k with
  | 0 => .array .char
  | _ => .int
abbrev wsX60 : List Cond := u_ws RX6 TX6 2
theorem nmX6 : ∀ a, a < 2 → ∀ b, b < 2 → a ≠ b → (TX6 a).2.1 ≠ (TX6 b).2.1 := by decide +kernel
theorem tyX6_ok : ∀ k, k < 2 → parseFieldDescriptor (TX6 k).2.2.1 = some (tyX6 k) := by decide +kernel
theorem iX6 : ∀ w ∈ wsX60, w ∈ lw_tbl := by decide +kernel
def RX7 : String := "GiftShops$Thing"
def TX7 : u_T := fun k => match k with
  | 0 => ("GiftShops$Thing", "giver", "I", true)
  | 1 => ("GiftShops$Thing", "kind", "I", true)
  | 2 => ("GiftShops$Thing", "state", "I", true)
  | 3 => ("GiftShops$Thing", "season", "I", true)
  | 4 => ("GiftShops$Thing", "place", "I", false)
  | 5 => ("GiftShops$Thing", "shop", "I", false)
  | 6 => ("GiftShops$Thing", "since", "I", false)
  | 7 => ("GiftShops$Thing", "moves", "I", false)
  | _ => ("GiftShops$Thing", "lastSale", "I", false)
def tyX7 : Nat → FieldType := fun k => match k with
  | 0 => .int
  | 1 => .int
  | 2 => .int
  | 3 => .int
  | 4 => .int
  | 5 => .int
  | 6 => .int
  | 7 => .int
  | _ => .int
abbrev wsX70 : List Cond := u_ws RX7 TX7 9
theorem nmX7 : ∀ a, a < 9 → ∀ b, b < 9 → a ≠ b → (TX7 a).2.1 ≠ (TX7 b).2.1 := by decide +kernel
theorem tyX7_ok : ∀ k, k < 9 → parseFieldDescriptor (TX7 k).2.2.1 = some (tyX7 k) := by decide +kernel
theorem iX7 : ∀ w ∈ wsX70, w ∈ lw_tbl := by decide +kernel
def RX8 : String := "GiftShops$Turns"
def TX8 : u_T := fun k => match k with
  | 0 => ("GiftShops$Turns", "canCome", "[I", true)
  | 1 => ("GiftShops$Turns", "turnsOf", "[I", true)
  | 2 => ("GiftShops$Turns", "helpers", "I", false)
  | 3 => ("GiftShops$Turns", "triedHelpers", "I", false)
  | _ => ("GiftShops$Turns", "triedDays", "I", false)
def tyX8 : Nat → FieldType := fun k => match k with
  | 0 => .array .int
  | 1 => .array .int
  | 2 => .int
  | 3 => .int
  | _ => .int
abbrev wsX80 : List Cond := u_ws RX8 TX8 5
theorem nmX8 : ∀ a, a < 5 → ∀ b, b < 5 → a ≠ b → (TX8 a).2.1 ≠ (TX8 b).2.1 := by decide +kernel
theorem tyX8_ok : ∀ k, k < 5 → parseFieldDescriptor (TX8 k).2.2.1 = some (tyX8 k) := by decide +kernel
theorem iX8 : ∀ w ∈ wsX80, w ∈ lw_tbl := by decide +kernel
def RX9 : String := "GiftShops"
def TX9 : u_T := fun k => match k with
  | 0 => ("GiftShops", "things", "[LGiftShops$Thing;", true)
  | 1 => ("GiftShops", "thingCount", "I", false)
  | 2 => ("GiftShops", "sales", "[LGiftShops$Sale;", true)
  | 3 => ("GiftShops", "saleCount", "I", false)
  | 4 => ("GiftShops", "shops", "[LGiftShops$Shop;", true)
  | 5 => ("GiftShops", "bases", "[I", true)
  | 6 => ("GiftShops", "tape", "LGiftShops$Tape;", true)
  | 7 => ("GiftShops", "parser", "LGiftShops$Parser;", true)
  | 8 => ("GiftShops", "rules", "LGiftShops$Rules;", false)
  | 9 => ("GiftShops", "spareRules", "LGiftShops$Rules;", false)
  | 10 => ("GiftShops", "facts", "[I", true)
  | 11 => ("GiftShops", "doubles", "[I", true)
  | 12 => ("GiftShops", "agreed", "[I", true)
  | 13 => ("GiftShops", "rates", "[I", true)
  | 14 => ("GiftShops", "roads", "LGiftShops$Roads;", true)
  | 15 => ("GiftShops", "turns", "LGiftShops$Turns;", true)
  | 16 => ("GiftShops", "now", "I", false)
  | _ => ("GiftShops", "vanCost", "I", false)
def tyX9 : Nat → FieldType := fun k => match k with
  | 0 => .array (.object "GiftShops$Thing")
  | 1 => .int
  | 2 => .array (.object "GiftShops$Sale")
  | 3 => .int
  | 4 => .array (.object "GiftShops$Shop")
  | 5 => .array .int
  | 6 => .object "GiftShops$Tape"
  | 7 => .object "GiftShops$Parser"
  | 8 => .object "GiftShops$Rules"
  | 9 => .object "GiftShops$Rules"
  | 10 => .array .int
  | 11 => .array .int
  | 12 => .array .int
  | 13 => .array .int
  | 14 => .object "GiftShops$Roads"
  | 15 => .object "GiftShops$Turns"
  | 16 => .int
  | _ => .int
abbrev wsX90 : List Cond := u_ws RX9 TX9 18
theorem nmX9 : ∀ a, a < 18 → ∀ b, b < 18 → a ≠ b → (TX9 a).2.1 ≠ (TX9 b).2.1 := by decide +kernel
theorem tyX9_ok : ∀ k, k < 18 → parseFieldDescriptor (TX9 k).2.2.1 = some (tyX9 k) := by decide +kernel
theorem iX9 : ∀ w ∈ wsX90, w ∈ lw_tbl := by decide +kernel
def RX10 : String := "GiftShopsModel"
def TX10 : u_T := fun k => match k with
  | 0 => ("GiftShopsModel", "thrown", "I", false)
  | 1 => ("GiftShopsModel", "tape", "[I", true)
  | 2 => ("GiftShopsModel", "taped", "I", false)
  | 3 => ("GiftShopsModel", "size", "I", false)
  | 4 => ("GiftShopsModel", "sortOf", "[I", true)
  | 5 => ("GiftShopsModel", "place", "[I", true)
  | 6 => ("GiftShopsModel", "value", "[J", true)
  | 7 => ("GiftShopsModel", "at", "I", false)
  | 8 => ("GiftShopsModel", "fault", "I", false)
  | 9 => ("GiftShopsModel", "words", "[J", true)
  | 10 => ("GiftShopsModel", "lines", "[I", true)
  | 11 => ("GiftShopsModel", "lineWay", "[I", true)
  | 12 => ("GiftShopsModel", "lineAt", "[I", true)
  | 13 => ("GiftShopsModel", "op", "[I", true)
  | 14 => ("GiftShopsModel", "one", "[I", true)
  | 15 => ("GiftShopsModel", "holds", "I", false)
  | 16 => ("GiftShopsModel", "next", "I", false)
  | 17 => ("GiftShopsModel", "codes", "I", false)
  | 18 => ("GiftShopsModel", "deep", "I", false)
  | 19 => ("GiftShopsModel", "sumWaits", "[I", true)
  | 20 => ("GiftShopsModel", "signWaits", "[I", true)
  | 21 => ("GiftShopsModel", "andWaits", "[I", true)
  | 22 => ("GiftShopsModel", "known", "[I", true)
  | 23 => ("GiftShopsModel", "pile", "[I", true)
  | 24 => ("GiftShopsModel", "now", "I", false)
  | 25 => ("GiftShopsModel", "things", "I", false)
  | 26 => ("GiftShopsModel", "giver", "[I", true)
  | 27 => ("GiftShopsModel", "kind", "[I", true)
  | 28 => ("GiftShopsModel", "condition", "[I", true)
  | 29 => ("GiftShopsModel", "season", "[I", true)
  | 30 => ("GiftShopsModel", "state", "[I", true)
  | 31 => ("GiftShopsModel", "shop", "[I", true)
  | 32 => ("GiftShopsModel", "since", "[I", true)
  | 33 => ("GiftShopsModel", "moves", "[I", true)
  | 34 => ("GiftShopsModel", "bases", "[I", true)
  | 35 => ("GiftShopsModel", "rooms", "[I", true)
  | 36 => ("GiftShopsModel", "lay", "[I", true)
  | 37 => ("GiftShopsModel", "doubles", "[I", true)
  | 38 => ("GiftShopsModel", "agrees", "[I", true)
  | 39 => ("GiftShopsModel", "rate", "I", false)
  | 40 => ("GiftShopsModel", "rates", "[I", true)
  | 41 => ("GiftShopsModel", "sales", "I", false)
  | 42 => ("GiftShopsModel", "soldThing", "[I", true)
  | 43 => ("GiftShopsModel", "soldFor", "[I", true)
  | 44 => ("GiftShopsModel", "soldIn", "[I", true)
  | 45 => ("GiftShopsModel", "soldOn", "[I", true)
  | 46 => ("GiftShopsModel", "isVoid", "[Z", true)
  | 47 => ("GiftShopsModel", "cost", "I", false)
  | 48 => ("GiftShopsModel", "ways", "[I", true)
  | 49 => ("GiftShopsModel", "helpers", "I", false)
  | 50 => ("GiftShopsModel", "canCome", "[I", true)
  | 51 => ("GiftShopsModel", "comes", "[Z", true)
  | 52 => ("GiftShopsModel", "isSeen", "[Z", true)
  | _ => ("GiftShopsModel", "bound", "I", false)
def tyX10 : Nat → FieldType := fun k => match k with
  | 0 => .int
  | 1 => .array .int
  | 2 => .int
  | 3 => .int
  | 4 => .array .int
  | 5 => .array .int
  | 6 => .array .long
  | 7 => .int
  | 8 => .int
  | 9 => .array .long
  | 10 => .array .int
  | 11 => .array .int
  | 12 => .array .int
  | 13 => .array .int
  | 14 => .array .int
  | 15 => .int
  | 16 => .int
  | 17 => .int
  | 18 => .int
  | 19 => .array .int
  | 20 => .array .int
  | 21 => .array .int
  | 22 => .array .int
  | 23 => .array .int
  | 24 => .int
  | 25 => .int
  | 26 => .array .int
  | 27 => .array .int
  | 28 => .array .int
  | 29 => .array .int
  | 30 => .array .int
  | 31 => .array .int
  | 32 => .array .int
  | 33 => .array .int
  | 34 => .array .int
  | 35 => .array .int
  | 36 => .array .int
  | 37 => .array .int
  | 38 => .array .int
  | 39 => .int
  | 40 => .array .int
  | 41 => .int
  | 42 => .array .int
  | 43 => .array .int
  | 44 => .array .int
  | 45 => .array .int
  | 46 => .array .boolean
  | 47 => .int
  | 48 => .array .int
  | 49 => .int
  | 50 => .array .int
  | 51 => .array .boolean
  | 52 => .array .boolean
  | _ => .int
abbrev wsX100 : List Cond := u_ws RX10 TX10 54
theorem nmX10 : ∀ a, a < 54 → ∀ b, b < 54 → a ≠ b → (TX10 a).2.1 ≠ (TX10 b).2.1 := by decide +kernel
theorem tyX10_ok : ∀ k, k < 54 → parseFieldDescriptor (TX10 k).2.2.1 = some (tyX10 k) := by decide +kernel
theorem iX10 : ∀ w ∈ wsX100, w ∈ lw_tbl := by decide +kernel
abbrev gcl : List vw_C := [(RX0, TX0, 3), (RX1, TX1, 2), (RX2, TX2, 6), (RX3, TX3, 6), (RX4, TX4, 5), (RX5, TX5, 5), (RX6, TX6, 2), (RX7, TX7, 9), (RX8, TX8, 5), (RX9, TX9, 18), (RX10, TX10, 54)]
end
section
/-! ===== the small machine: frames of the claim's own methods over cells that are named by numbers from 0 on ===== -/
abbrev gC : Type := (FieldType × vp_A) ⊕ (Nat × List Value)
abbrev gH : Type := Nat → gC
abbrev gS : Type := Nat × Nat × gH
abbrev gL : Type := List (Option Value)
abbrev gI : Type := Instr × Nat × List Nat × Value
abbrev gR : Type := MethodName × ByteArray × Nat × Option FieldType × List (Nat × gI)
def gz : gC := .inr (1000000, [])
def gset (h : gH) (k : Nat) (c : gC) : gH := fun j => if j = k then c else h j
def glook : List (Nat × gI) → Nat → Option gI
  | [], _ => none
  | q :: r, pc => bif Nat.beq q.1 pc then some q.2 else glook r pc
def gl : gL → Nat → Option Value
  | [], _ => none
  | v :: _, 0 => v
  | _ :: r, n + 1 => gl r n
def gsl : gL → Nat → Option Value → gL
  | [], _, _ => []
  | _ :: r, 0, v => v :: r
  | a :: r, n + 1, v => a :: gsl r n v
def gwide : Option Value → Bool
  | some (.long _) => true
  | some (.double _) => true
  | _ => false
def gokS (L : gL) : Nat → Bool
  | 0 => true
  | j + 1 => !gwide (gl L j)
def gent : List Value → gL
  | [] => []
  | .long x :: r => some (.long x) :: none :: gent r
  | .double x :: r => some (.double x) :: none :: gent r
  | v :: r => some v :: gent r
def gpad : gL → Nat → gL
  | _, 0 => []
  | [], n + 1 => none :: gpad [] n
  | a :: r, n + 1 => a :: gpad r n
def gax : List Nat → Nat → Nat
  | [], _ => 0
  | a :: _, 0 => a
  | _ :: r, n + 1 => gax r n
def gbr (c : Jvm.ClassFile.Cond) (x y : Int32) (t f : Nat) : Nat := match c with
  | .eq => if x = y then t else f
  | .ne => if ¬ x = y then t else f
  | .lt => if x < y then t else f
  | .ge => if y ≤ x then t else f
  | .gt => if y < x then t else f
  | .le => if x ≤ y then t else f
def gfit : FieldType → Value → Bool
  | .int, .int _ => true
  | .long, .long _ => true
  | .boolean, .int x => x == 0 || x == 1
  | .object _, .ref _ => true
  | .object _, .null => true
  | .array _, .ref _ => true
  | .array _, .null => true
  | _, _ => false
def gty : Nat → Nat → FieldType
  | 0 => tyX0 | 1 => tyX1 | 2 => tyX2 | 3 => tyX3 | 4 => tyX4 | 5 => tyX5 | 6 => tyX6 | 7 => tyX7 | 8 => tyX8 | 9 => tyX9 | 10 => tyX10 | _ => fun _ => .int
def gdv (ci N : Nat) : List Value := (List.range N).map (fun j => defaultValue (gty ci j))
def gsw (x lo hi : Int) (ax : List Nat) : Nat := if x < lo ∨ hi < x then gax ax 0 else gax ax ((x - lo).toNat + 1)
abbrev gO : Type := Option (Nat × gL × List Value × gS)
def gpush (len : Nat) (w : Value) (pc : Nat) (L : gL) (st : List Value) (S : gS) : gO := some (pc + len, L, w :: st, S)
def gii (f : Int32 → Int32 → Int32) (pc : Nat) (L : gL) (st : List Value) (S : gS) : gO := match st with
  | .int y :: .int x :: r => some (pc + 1, L, .int (f x y) :: r, S)
  | _ => none
def gll (f : Int64 → Int64 → Int64) (pc : Nat) (L : gL) (st : List Value) (S : gS) : gO := match st with
  | .long y :: .long x :: r => some (pc + 1, L, .long (f x y) :: r, S)
  | _ => none
def gli (f : Int64 → Int32 → Int64) (pc : Nat) (L : gL) (st : List Value) (S : gS) : gO := match st with
  | .int y :: .long x :: r => some (pc + 1, L, .long (f x y) :: r, S)
  | _ => none
def giload (len i pc : Nat) (L : gL) (st : List Value) (S : gS) : gO := match gl L i with
  | some (.int x) => some (pc + len, L, .int x :: st, S)
  | _ => none
def glload (len i pc : Nat) (L : gL) (st : List Value) (S : gS) : gO := match gl L i with
  | some (.long x) => some (pc + len, L, .long x :: st, S)
  | _ => none
def galoadL (len i pc : Nat) (L : gL) (st : List Value) (S : gS) : gO := match gl L i with
  | some (.ref x) => some (pc + len, L, .ref x :: st, S)
  | _ => none
def gistore (len i pc : Nat) (L : gL) (st : List Value) (S : gS) : gO := match st with
  | .int x :: r => bif gokS L i && Nat.blt i L.length then some (pc + len, gsl L i (some (.int x)), r, S) else none
  | _ => none
def gastoreL (len i pc : Nat) (L : gL) (st : List Value) (S : gS) : gO := match st with
  | .ref x :: r => bif gokS L i && Nat.blt i L.length then some (pc + len, gsl L i (some (.ref x)), r, S) else none
  | _ => none
def glstore (len i pc : Nat) (L : gL) (st : List Value) (S : gS) : gO := match st with
  | .long x :: r => bif gokS L i && Nat.blt (i + 1) L.length then some (pc + len, gsl (gsl L i (some (.long x))) (i + 1) none, r, S) else none
  | _ => none
def giinc (len i : Nat) (w : Value) (pc : Nat) (L : gL) (st : List Value) (S : gS) : gO := match gl L i, w with
  | some (.int x), .int n => bif gokS L i && Nat.blt i L.length then some (pc + len, gsl L i (some (.int (x + n))), st, S) else none
  | _, _ => none
def gout (i : Int32) (n : Nat) : Prop := i < 0 ∨ n ≤ i.toNatClampNeg
def gget (ci sl pc : Nat) (L : gL) (st : List Value) (S : gS) : gO := match st with
  | .ref a :: r => match S.2.2 a with
    | .inr (c, fs) => bif Nat.beq c ci then (match fs[sl]? with | some v => some (pc + 3, L, v :: r, S) | none => none) else none
    | _ => none
  | _ => none
def gput (ci sl pc : Nat) (L : gL) (st : List Value) (S : gS) : gO := match st with
  | v :: .ref a :: r => match S.2.2 a with
    | .inr (c, fs) => bif Nat.beq c ci && Nat.blt sl fs.length && gfit (gty ci sl) v then some (pc + 3, L, r, (S.1, S.2.1, gset S.2.2 a (.inr (c, fs.set sl v)))) else none
    | _ => none
  | _ => none
def gnew (ci pc : Nat) (L : gL) (st : List Value) (S : gS) : gO := match gcl[ci]? with
  | some r => if S.1 < 1000000 then some (pc + 3, L, .ref S.1 :: st, (S.1 + 1, S.2.1 + r.2.2, gset S.2.2 S.1 (.inr (ci, gdv ci r.2.2)))) else none
  | none => none
def gnewa (at_ : ArrayType) (pc : Nat) (L : gL) (st : List Value) (S : gS) : gO := match st with
  | .int n :: r => if n < 0 ∨ 1000000 < n.toNatClampNeg ∨ 1000000 ≤ S.1 then none else match at_ with
    | .int => some (pc + 2, L, .ref S.1 :: r, (S.1 + 1, S.2.1 + n.toNatClampNeg, gset S.2.2 S.1 (.inl (.int, n.toNatClampNeg, .inl (fun _ => 0)))))
    | .char => some (pc + 2, L, .ref S.1 :: r, (S.1 + 1, S.2.1 + n.toNatClampNeg, gset S.2.2 S.1 (.inl (.char, n.toNatClampNeg, .inl (fun _ => 0)))))
    | .boolean => some (pc + 2, L, .ref S.1 :: r, (S.1 + 1, S.2.1 + n.toNatClampNeg, gset S.2.2 S.1 (.inl (.boolean, n.toNatClampNeg, .inl (fun _ => 0)))))
    | .long => some (pc + 2, L, .ref S.1 :: r, (S.1 + 1, S.2.1 + n.toNatClampNeg, gset S.2.2 S.1 (.inl (.long, n.toNatClampNeg, .inr (.inl (fun _ => 0))))))
    | _ => none
  | _ => none
def gnewq (ci pc : Nat) (L : gL) (st : List Value) (S : gS) : gO := match st with
  | .int n :: r => if n < 0 ∨ 1000000 < n.toNatClampNeg ∨ 1000000 ≤ S.1 then none else match gcl[ci]? with
    | some q => some (pc + 3, L, .ref S.1 :: r, (S.1 + 1, S.2.1 + n.toNatClampNeg, gset S.2.2 S.1 (.inl (.object q.1, n.toNatClampNeg, .inr (.inr (.inr (.inr (fun _ => none))))))))
    | none => none
  | _ => none
def giald (ty : FieldType) (pc : Nat) (L : gL) (st : List Value) (S : gS) : gO := match st with
  | .int i :: .ref a :: r => match S.2.2 a with
    | .inl (t, n, .inl f) => if t = ty ∧ ¬ (i < 0 ∨ n ≤ i.toNatClampNeg) then some (pc + 1, L, .int (f i.toNatClampNeg) :: r, S) else none
    | _ => none
  | _ => none
def gbald (pc : Nat) (L : gL) (st : List Value) (S : gS) : gO := match st with
  | .int i :: .ref a :: r => match S.2.2 a with
    | .inl (t, n, .inl f) => if (t = .boolean ∨ t = .byte) ∧ ¬ (i < 0 ∨ n ≤ i.toNatClampNeg) then some (pc + 1, L, .int (f i.toNatClampNeg) :: r, S) else none
    | _ => none
  | _ => none
def glald (pc : Nat) (L : gL) (st : List Value) (S : gS) : gO := match st with
  | .int i :: .ref a :: r => match S.2.2 a with
    | .inl (t, n, .inr (.inl f)) => if t = .long ∧ ¬ (i < 0 ∨ n ≤ i.toNatClampNeg) then some (pc + 1, L, .long (f i.toNatClampNeg) :: r, S) else none
    | _ => none
  | _ => none
def gaald (pc : Nat) (L : gL) (st : List Value) (S : gS) : gO := match st with
  | .int i :: .ref a :: r => match S.2.2 a with
    | .inl (.object _, n, .inr (.inr (.inr (.inr f)))) => if ¬ (i < 0 ∨ n ≤ i.toNatClampNeg) then some (pc + 1, L, va_rf (f i.toNatClampNeg) :: r, S) else none
    | _ => none
  | _ => none
def giast (ty : FieldType) (ok : Int32 → Prop) [DecidablePred ok] (pc : Nat) (L : gL) (st : List Value) (S : gS) : gO := match st with
  | .int x :: .int i :: .ref a :: r => match S.2.2 a with
    | .inl (t, n, .inl f) => if t = ty ∧ ¬ (i < 0 ∨ n ≤ i.toNatClampNeg) ∧ ok x ∧ a < 1000000000 then some (pc + 1, L, r, (S.1, S.2.1, gset S.2.2 a (.inl (t, n, .inl (upd f i.toNatClampNeg x))))) else none
    | _ => none
  | _ => none
def glast (pc : Nat) (L : gL) (st : List Value) (S : gS) : gO := match st with
  | .long x :: .int i :: .ref a :: r => match S.2.2 a with
    | .inl (t, n, .inr (.inl f)) => if t = .long ∧ ¬ (i < 0 ∨ n ≤ i.toNatClampNeg) ∧ a < 1000000000 then some (pc + 1, L, r, (S.1, S.2.1, gset S.2.2 a (.inl (t, n, .inr (.inl (vp_updL f i.toNatClampNeg x)))))) else none
    | _ => none
  | _ => none
def gaast (pc : Nat) (L : gL) (st : List Value) (S : gS) : gO := match st with
  | .ref v :: .int i :: .ref a :: r => match S.2.2 a with
    | .inl (.object C, n, .inr (.inr (.inr (.inr f)))) => match S.2.2 v with
      | .inr (ci, _) => if (gcl[ci]?.map (fun q => q.1)) = some C ∧ ¬ (i < 0 ∨ n ≤ i.toNatClampNeg) ∧ a < 1000000000 then some (pc + 1, L, r, (S.1, S.2.1, gset S.2.2 a (.inl (.object C, n, .inr (.inr (.inr (.inr (va_up f i.toNatClampNeg (some v))))))))) else none
      | _ => none
    | _ => none
  | _ => none
def galen (pc : Nat) (L : gL) (st : List Value) (S : gS) : gO := match st with
  | .ref a :: r => match S.2.2 a with
    | .inl (_, n, _) => some (pc + 1, L, .int (Int32.ofNat n) :: r, S)
    | _ => none
  | _ => none
/-- one instruction that is no call and no return -/
def gstep (i : Instr) (len : Nat) (ax : List Nat) (w : Value) (pc : Nat) (L : gL) (st : List Value) (S : gS) : gO := match i with
  | .iconst _ => gpush 1 w pc L st S
  | .lconst _ => gpush 1 w pc L st S
  | .bipush _ => gpush 2 w pc L st S
  | .sipush _ => gpush 3 w pc L st S
  | .ldc _ => match ax with | [] => none | _ => gpush 2 w pc L st S
  | .ldc_w _ => match ax with | [] => none | _ => gpush 3 w pc L st S
  | .ldc2_w _ => match ax with | [] => none | _ => gpush 3 w pc L st S
  | .iload_n _ => giload 1 (gax ax 0) pc L st S
  | .iload _ => giload 2 (gax ax 0) pc L st S
  | .lload_n _ => glload 1 (gax ax 0) pc L st S
  | .lload _ => glload 2 (gax ax 0) pc L st S
  | .aload_n _ => galoadL 1 (gax ax 0) pc L st S
  | .aload _ => galoadL 2 (gax ax 0) pc L st S
  | .istore_n _ => gistore 1 (gax ax 0) pc L st S
  | .istore _ => gistore 2 (gax ax 0) pc L st S
  | .lstore_n _ => glstore 1 (gax ax 0) pc L st S
  | .lstore _ => glstore 2 (gax ax 0) pc L st S
  | .astore_n _ => gastoreL 1 (gax ax 0) pc L st S
  | .astore _ => gastoreL 2 (gax ax 0) pc L st S
  | .iinc _ _ => giinc 3 (gax ax 0) w pc L st S
  | .iadd => gii (fun x y => x + y) pc L st S
  | .isub => gii (fun x y => x - y) pc L st S
  | .imul => gii (fun x y => x * y) pc L st S
  | .iand => gii (fun x y => x &&& y) pc L st S
  | .ior => gii (fun x y => x ||| y) pc L st S
  | .ixor => gii (fun x y => x ^^^ y) pc L st S
  | .ishl => gii (fun x y => x <<< (y &&& 31)) pc L st S
  | .ishr => gii (fun x y => x >>> (y &&& 31)) pc L st S
  | .iushr => gii (fun x y => (x.toUInt32 >>> (y.toUInt32 &&& Int32.toUInt32 31)).toInt32) pc L st S
  | .idiv => match st with
    | .int y :: .int x :: r => if y = 0 then none else some (pc + 1, L, .int (x / y) :: r, S)
    | _ => none
  | .irem => match st with
    | .int y :: .int x :: r => if y = 0 then none else some (pc + 1, L, .int (x - x / y * y) :: r, S)
    | _ => none
  | .ladd => gll (fun x y => x + y) pc L st S
  | .lsub => gll (fun x y => x - y) pc L st S
  | .lmul => gll (fun x y => x * y) pc L st S
  | .land => gll (fun x y => x &&& y) pc L st S
  | .lor => gll (fun x y => x ||| y) pc L st S
  | .ldiv => match st with
    | .long y :: .long x :: r => if y = 0 then none else some (pc + 1, L, .long (x / y) :: r, S)
    | _ => none
  | .lshl => gli (fun x y => x <<< (y.toInt64 &&& 63)) pc L st S
  | .lshr => gli (fun x y => x >>> (y.toInt64 &&& 63)) pc L st S
  | .lushr => gli (fun x y => (x.toUInt64 >>> (y.toInt64.toUInt64 &&& Int64.toUInt64 63)).toInt64) pc L st S
  | .lcmp => match st with
    | .long y :: .long x :: r => some (pc + 1, L, .int (lg_cmp x y) :: r, S)
    | _ => none
  | .i2l => match st with
    | .int x :: r => some (pc + 1, L, .long x.toInt64 :: r, S)
    | _ => none
  | .l2i => match st with
    | .long x :: r => some (pc + 1, L, .int x.toInt32 :: r, S)
    | _ => none
  | .i2c => match st with
    | .int x :: r => some (pc + 1, L, .int (x.toUInt32 % 65536).toInt32 :: r, S)
    | _ => none
  | .dup => match st with
    | .int x :: r => some (pc + 1, L, .int x :: .int x :: r, S)
    | .ref x :: r => some (pc + 1, L, .ref x :: .ref x :: r, S)
    | _ => none
  | .dup2 => match st with
    | .int x :: .ref y :: r => some (pc + 1, L, .int x :: .ref y :: .int x :: .ref y :: r, S)
    | _ => none
  | .ifCond c _ => match st with
    | .int x :: r => some (gbr c x 0 (gax ax 0) (pc + 3), L, r, S)
    | _ => none
  | .if_icmp c _ => match st with
    | .int y :: .int x :: r => some (gbr c x y (gax ax 0) (pc + 3), L, r, S)
    | _ => none
  | .goto _ => some (gax ax 0, L, st, S)
  | .tableswitch _ lo hi _ => match st with
    | .int x :: r => some (gsw x.toInt lo hi ax, L, r, S)
    | _ => none
  | .getfield _ => match ax with
    | [ci, sl, _, _] => gget ci sl pc L st S
    | _ => none
  | .putfield _ => match ax with
    | [ci, sl, _, _] => gput ci sl pc L st S
    | _ => none
  | .new _ => match ax with
    | [ci, _] => gnew ci pc L st S
    | _ => none
  | .newarray t => gnewa t pc L st S
  | .anewarray _ => match ax with
    | [ci, _] => gnewq ci pc L st S
    | _ => none
  | .iaload => giald .int pc L st S
  | .caload => giald .char pc L st S
  | .baload => gbald pc L st S
  | .laload => glald pc L st S
  | .aaload => gaald pc L st S
  | .iastore => giast .int (fun _ => True) pc L st S
  | .castore => giast .char (fun x => vp_nar .char x = x) pc L st S
  | .bastore => giast .boolean (fun x => x = 0 ∨ x = 1) pc L st S
  | .lastore => glast pc L st S
  | .aastore => gaast pc L st S
  | .arraylength => galen pc L st S
  | _ => none
def grok : Option FieldType → Int32 → Prop
  | some .int, _ => True
  | some .boolean, x => x = 0 ∨ x = 1
  | some .char, x => vp_nar .char x = x
  | _, _ => False
/-- the receiver of a virtual call is of the class that declares the method -/
def grcv (S : gS) (C : String) : List Value → Prop
  | .ref a :: _ => match S.2.2 a with
    | .inr (ci, _) => (gcl[ci]?.map (fun q => q.1)) = some C
    | _ => False
  | _ => False
def gkind (i : Instr) (S : gS) (C : String) (as : List Value) : Prop := match i with
  | .invokevirtual _ => grcv S C as
  | .invokespecial _ => ∃ a r, as = .ref a :: r
  | .invokestatic _ => True
  | _ => False
abbrev gB : Type := Nat → List Value → gS → Option Value → gS → Prop
def gcat (st : List Value) : Nat := (st.map (fun v => v.category)).sum
def gcls : Instr → Nat
  | .return_ => 1
  | .ireturn => 2
  | .invokevirtual _ => 3
  | .invokespecial _ => 3
  | .invokestatic _ => 3
  | _ => 0
def gcallP (MT : List gR) (BI : gB) (i : Instr) (ax : List Nat) (d : Nat) (st : List Value) (S : gS) (ce : Nat → gL → Option Value → gS → Prop) (go : List Value → gS → Prop) : Prop := match ax with
  | j :: na :: _ => na ≤ st.length ∧ gcat (st.drop na) ≤ 8 ∧ ∃ (v1 : Option Value) (S1 : gS),
      (if 1000 ≤ j then 10 ≤ d ∧ BI j (st.take na).reverse S v1 S1 else 1 ≤ d ∧ ∃ cr, MT[j]? = some cr ∧ (gent (st.take na).reverse).length ≤ cr.2.2.1 ∧ gkind i S cr.1.cls (st.take na).reverse ∧ ce j (gpad (gent (st.take na).reverse) cr.2.2.1) v1 S1) ∧
      go (v1.toList ++ st.drop na) S1
  | _ => False
/-- from this frame the method comes to its end: with this answer, in that state -/
def gER (MT : List gR) (BI : gB) : Nat → Nat → Nat → Nat → gL → List Value → gS → Option Value → gS → Prop
  | 0, _, _, _, _, _, _, _, _ => False
  | f + 1, d, k, pc, L, st, S, v, S' => match MT[k]? with
    | none => False
    | some row => match glook row.2.2.2.2 pc with
      | none => False
      | some q => match gcls q.1 with
        | 1 => st = [] ∧ v = none ∧ S' = S ∧ row.2.2.2.1 = none
        | 2 => ∃ x, st = [.int x] ∧ v = some (.int x) ∧ S' = S ∧ grok row.2.2.2.1 x
        | 3 => gcallP MT BI q.1 q.2.2.1 d st S (fun j L0 v1 S1 => gER MT BI f (d - 1) j 0 L0 [] S v1 S1) (fun st1 S1 => gER MT BI f d k (pc + 3) L st1 S1 v S')
        | _ => match gstep q.1 q.2.1 q.2.2.1 q.2.2.2 pc L st S with
          | none => False
          | some o => gER MT BI f d k o.1 o.2.1 o.2.2.1 o.2.2.2 v S'
end
section
/-! ===== how the small machine's state stands in the JVM's: cell k lies at B + k; what lies outside (the script, two texts) at ex k ===== -/
def gal (B : Nat) (ex : Nat → Nat) (k : Nat) : Nat := if k < 1000000000 then B + k else ex k
def gcv (B : Nat) (ex : Nat → Nat) : Value → Value
  | .ref k => .ref (gal B ex k)
  | v => v
def gcvA (B : Nat) (ex : Nat → Nat) (a : vp_A) : vp_A := match a with
  | (n, .inr (.inr (.inr (.inr f)))) => (n, .inr (.inr (.inr (.inr (fun j => (f j).map (gal B ex))))))
  | (n, x) => (n, x)
def gat (D : va_G) (U : State) (B : Nat) (ex : Nat → Nat) (H : Heap) (k : Nat) (c : gC) : Prop := match c with
  | .inl (ty, a) => ∃ cA : ClassId, ArrOfT U cA ty ∧ va_RA U cA ty ∧ H[B + k]? = some (vp_cell cA (gcvA B ex a))
  | .inr (ci, fs) => ∃ r : vw_C, gcl[ci]? = some r ∧ fs.length = r.2.2 ∧ t_OB (B + k) (D.1 ci) r.2.2 (D.2 ci) H (vp_V (fs.map (gcv B ex)))
def gext (U : State) (ex : Nat → Nat) (H0 : Heap) (k : Nat) (c : gC) : Prop := match c with
  | .inl (ty, n, .inl f) => ∃ cell : Cell, H0[ex k]? = some cell ∧ U.isArrayOf cell ty ∧ cell.vm ≠ .unknown ∧ cell.slots.size = n ∧ ∀ j : Nat, j < n → cell.slots[j]? = some (.int (f j))
  | _ => False
def gRH (D : va_G) (U : State) (B : Nat) (ex : Nat → Nat) (H0 : Heap) (S : gS) (H : Heap) : Prop :=
  H.size = B + S.1 ∧ S.1 ≤ 1000000 ∧ H0.size = B ∧ (∀ q : Nat, q < B → H[q]? = H0[q]?) ∧ (∀ k, k < 1000000000 → S.2.2 k ≠ gz → k < S.1 ∧ gat D U B ex H k (S.2.2 k)) ∧ (∀ k, 1000000000 ≤ k → S.2.2 k ≠ gz → gext U ex H0 k (S.2.2 k))
def gLR (B : Nat) (ex : Nat → Nat) (ls : Array Slot) (nL : Nat) (L : gL) : Prop := ls.size = nL ∧ L.length = nL ∧ lv_wf ls ∧ ∀ (i : Nat) (v : Value), gl L i = some v → ls[i]? = some (.val (gcv B ex v))
def gnest : Cond → Bool
  | .fieldLinkNest _ _ _ _ _ _ => true
  | .methodLinkNest _ _ _ _ => true
  | _ => false
def gNW : List Cond := lw_tbl.filter gnest
def gGW : List Cond := lw_tbl.filter goodWord
def gAO : List String := [RX7, RX3, RX5]
def gtxt1 : String := "shelf   store   rag     look    when    and     kind    state   season  now     base    giver   "
def gtxt2 : String := "()<=+-;"
def gKN (D : va_G) (ex : Nat → Nat) (U : State) : Prop := va_K D gcl [] U ∧ (∀ w ∈ gNW, va_Nw w U) ∧ (∀ C ∈ gAO, va_AO C U) ∧ vk_R RX4 64 gtxt1 (ex 2000000001) U ∧ vk_R RX4 52 gtxt2 (ex 2000000002) U
theorem gNW_warm {w : Cond} (hw : gnest w = true) {s U : State} (hW : s.WarmedH U.vm) (h : va_Nw w s) : va_Nw w U := by
  cases w <;> first | exact va_Nw.warmF hW h | exact va_Nw.warmM hW h | (simp [gnest] at hw)
theorem gKN_warm {D : va_G} {ex : Nat → Nat} {s U : State} (hW : s.WarmedH U.vm) (h : gKN D ex s) : gKN D ex U :=
  ⟨va_K.moved hW.alike h.1, fun w hw => gNW_warm (List.mem_filter.mp hw).2 hW (h.2.1 w hw), fun C hC => va_AO.moved hW.alike (h.2.2.1 C hC), vk_R.warm hW h.2.2.2.1, vk_R.warm hW h.2.2.2.2⟩
theorem gat_moved {D : va_G} {u U : State} {B : Nat} {ex : Nat → Nat} {H : Heap} {k : Nat} {c : gC} (hvm : u.vm.Alike U.vm) (h : gat D u B ex H k c) : gat D U B ex H k c := by
  rcases c with ⟨ty, a⟩ | ⟨ci, fs⟩
  · obtain ⟨cA, h1, h2, h3⟩ := h
    exact ⟨cA, arrOfT_moved hvm h1, h2.moved hvm, h3⟩
  · exact h
theorem gext_moved {u U : State} {ex : Nat → Nat} {H : Heap} {k : Nat} {c : gC} (hvm : u.vm.Alike U.vm) (h : gext u ex H k c) : gext U ex H k c := by
  rcases c with ⟨ty, n, f | f⟩ | ⟨ci, fs⟩
  · obtain ⟨cell, h1, h2, h3⟩ := h
    exact ⟨cell, h1, State.isArrayOf_alike hvm h2, h3⟩
  · exact h.elim
  · exact h.elim
theorem gRH_moved {D : va_G} {u U : State} {B : Nat} {ex : Nat → Nat} {H0 H : Heap} {S : gS} (hvm : u.vm.Alike U.vm) (h : gRH D u B ex H0 S H) : gRH D U B ex H0 S H :=
  ⟨h.1, h.2.1, h.2.2.1, h.2.2.2.1, fun k hk hz => ⟨(h.2.2.2.2.1 k hk hz).1, gat_moved hvm (h.2.2.2.2.1 k hk hz).2⟩, fun k hk hz => gext_moved hvm (h.2.2.2.2.2 k hk hz)⟩
theorem gcv_cat (B : Nat) (ex : Nat → Nat) (v : Value) : (gcv B ex v).category = v.category := by cases v <;> rfl
theorem gat_kept {D : va_G} {U : State} {B : Nat} {ex : Nat → Nat} {H H1 : Heap} {k : Nat} {c : gC} (h : gat D U B ex H k c) (hq : H1[B + k]? = H[B + k]?) : gat D U B ex H1 k c := by
  rcases c with ⟨ty, a⟩ | ⟨ci, fs⟩
  · obtain ⟨cA, h1, h2, h3⟩ := h
    exact ⟨cA, h1, h2, hq.trans h3⟩
  · obtain ⟨r, h1, h2, h3⟩ := h
    exact ⟨r, h1, h2, h3.kept hq⟩
/-- a cell k of the world is changed -/
theorem gRH_set {D : va_G} {U : State} {B : Nat} {ex : Nat → Nat} {H0 H H1 : Heap} {S : gS} {k : Nat} {c : gC} (h : gRH D U B ex H0 S H) (hk : k < 1000000000) (hz : S.2.2 k ≠ gz) (hc : gat D U B ex H1 k c) (z : H1.size = H.size) (oq : ∀ q : Nat, q ≠ B + k → H1[q]? = H[q]?) : gRH D U B ex H0 (S.1, S.2.1, gset S.2.2 k c) H1 := by
  obtain ⟨h1, h2, h3, h4, h5, h6⟩ := h
  refine ⟨by rw [z]; exact h1, h2, h3, fun q hq => ?_, fun j hj hjz => ?_, fun j hj hjz => ?_⟩
  · rw [oq q (by omega)]
    exact h4 q hq
  · by_cases e : j = k
    · subst e
      refine ⟨(h5 j hj hz).1, ?_⟩
      simp only [gset, if_true]
      exact hc
    · have e2 : gset S.2.2 k c j = S.2.2 j := by simp [gset, e]
      dsimp only at hjz ⊢
      rw [e2] at hjz ⊢
      exact ⟨(h5 j hj hjz).1, gat_kept (h5 j hj hjz).2 (oq (B + j) (by omega))⟩
  · have e2 : gset S.2.2 k c j = S.2.2 j := by
      have : j ≠ k := by omega
      simp [gset, this]
    dsimp only at hjz ⊢
    rw [e2] at hjz ⊢
    exact h6 j hj hjz
/-- a cell more -/
theorem gRH_push {D : va_G} {U : State} {B : Nat} {ex : Nat → Nat} {H0 H H1 : Heap} {S : gS} {c : gC} (n : Nat) (h : gRH D U B ex H0 S H) (hn : S.1 < 1000000) (hc : gat D U B ex H1 S.1 c) (z : H1.size = H.size + 1) (oq : ∀ q : Nat, q < H.size → H1[q]? = H[q]?) : gRH D U B ex H0 (S.1 + 1, n, gset S.2.2 S.1 c) H1 := by
  obtain ⟨h1, h2, h3, h4, h5, h6⟩ := h
  refine ⟨by rw [z, h1]; rfl, by dsimp only; omega, h3, fun q hq => ?_, fun j hj hjz => ?_, fun j hj hjz => ?_⟩
  · rw [oq q (by omega)]
    exact h4 q hq
  · by_cases e : j = S.1
    · subst e
      refine ⟨by dsimp only; omega, ?_⟩
      simp only [gset, if_true]
      exact hc
    · have e2 : gset S.2.2 S.1 c j = S.2.2 j := by simp [gset, e]
      dsimp only at hjz ⊢
      rw [e2] at hjz ⊢
      have := (h5 j hj hjz).1
      exact ⟨by omega, gat_kept (h5 j hj hjz).2 (oq (B + j) (by omega))⟩
  · have e2 : gset S.2.2 S.1 c j = S.2.2 j := by
      have : j ≠ S.1 := by omega
      simp [gset, this]
    dsimp only at hjz ⊢
    rw [e2] at hjz ⊢
    exact h6 j hj hjz
/-! locals -/
def gpl (B : Nat) (ex : Nat → Nat) : Nat → gL → List (Nat × Value)
  | _, [] => []
  | i, none :: r => gpl B ex (i + 1) r
  | i, some v :: r => (i, gcv B ex v) :: gpl B ex (i + 1) r
theorem mem_gpl {B : Nat} {ex : Nat → Nat} : ∀ (L : gL) (i j : Nat) (u : Value), (j, u) ∈ gpl B ex i L ↔ ∃ t v, j = i + t ∧ gl L t = some v ∧ u = gcv B ex v := by
  intro L
  induction L with
  | nil => intro i j u; simp [gpl, gl]
  | cons a r ih =>
    intro i j u
    cases a with
    | none =>
      simp only [gpl, ih]
      constructor
      · rintro ⟨t, v, h1, h2, h3⟩
        exact ⟨t + 1, v, by omega, h2, h3⟩
      · rintro ⟨t, v, h1, h2, h3⟩
        cases t with
        | zero => simp [gl] at h2
        | succ t => exact ⟨t, v, by omega, h2, h3⟩
    | some w =>
      simp only [gpl, List.mem_cons, ih]
      constructor
      · rintro (h | ⟨t, v, h1, h2, h3⟩)
        · cases h
          exact ⟨0, w, rfl, rfl, rfl⟩
        · exact ⟨t + 1, v, by omega, h2, h3⟩
      · rintro ⟨t, v, h1, h2, h3⟩
        cases t with
        | zero =>
          simp only [gl] at h2
          cases h2
          left
          rw [h1, h3]; rfl
        | succ t => exact Or.inr ⟨t, v, by omega, h2, h3⟩
theorem gLR_has {B : Nat} {ex : Nat → Nat} {ls : Array Slot} {nL : Nat} {L : gL} (h : gLR B ex ls nL L) : lv_has ls nL (gpl B ex 0 L) := by
  refine ⟨h.1, h.2.2.1, fun q hq => ?_⟩
  obtain ⟨j, u⟩ := q
  obtain ⟨t, v, h1, h2, h3⟩ := (mem_gpl L 0 j u).mp hq
  have e : j = t := by omega
  subst e
  dsimp only
  rw [h3]
  exact h.2.2.2 j v h2
theorem gsl_len (L : gL) : ∀ (i : Nat) (v : Option Value), (gsl L i v).length = L.length := by
  induction L with
  | nil => intro i v; rfl
  | cons a r ih =>
    intro i v
    cases i with
    | zero => rfl
    | succ i => simp [gsl, ih]
theorem gl_gsl (L : gL) : ∀ (i j : Nat) (v : Option Value), i < L.length → gl (gsl L i v) j = if j = i then v else gl L j := by
  induction L with
  | nil => intro i j v h; simp at h
  | cons a r ih =>
    intro i j v h
    cases i with
    | zero =>
      cases j with
      | zero => simp [gsl, gl]
      | succ j => simp [gsl, gl]
    | succ i =>
      cases j with
      | zero => simp [gsl, gl]
      | succ j =>
        have := ih i j v (by simpa using h)
        simp only [gsl, gl, this]
        by_cases e : j = i
        · simp [e]
        · simp [e]
theorem gwide_cat {v : Value} (h : gwide (some v) = false) : v.category = 1 := by cases v <;> first | rfl | (simp [gwide] at h)
theorem gokS_prev {L : gL} {i j : Nat} {v : Value} (h : gokS L i = true) (hj : j + 1 = i) (hv : gl L j = some v) : v.category = 1 := by
  subst hj
  simp only [gokS, hv] at h
  exact gwide_cat (by simpa using h)
theorem gLR_store1 {B : Nat} {ex : Nat → Nat} {ls ls' : Array Slot} {nL : Nat} {L : gL} {i : Nat} {v : Value} (h : gLR B ex ls nL L) (hi : i < L.length) (hok : gokS L i = true)
    (hl : lv_has ls' nL ((i, gcv B ex v) :: (gpl B ex 0 L).filter (fun q => !(q.1 == i) && !(q.1 + 1 == i && q.2.category == 2)))) : gLR B ex ls' nL (gsl L i (some v)) := by
  refine ⟨hl.1, by rw [gsl_len]; exact h.2.1, hl.2.1, fun j u hj => ?_⟩
  rw [gl_gsl L i j _ hi] at hj
  by_cases e : j = i
  · subst e
    simp only [if_true] at hj
    cases hj
    exact hl.2.2 (j, _) List.mem_cons_self
  · simp only [e, if_false] at hj
    refine hl.2.2 (j, gcv B ex u) (List.mem_cons_of_mem _ (List.mem_filter.mpr ⟨(mem_gpl L 0 j _).mpr ⟨j, u, by omega, hj, rfl⟩, ?_⟩))
    by_cases e2 : j + 1 = i
    · have := gokS_prev hok e2 hj
      simp [e, gcv_cat, this]
    · simp [e, e2]
theorem gLR_store2 {B : Nat} {ex : Nat → Nat} {ls ls' : Array Slot} {nL : Nat} {L : gL} {i : Nat} {v : Value} (h : gLR B ex ls nL L) (hi : i + 1 < L.length) (hok : gokS L i = true)
    (hl : lv_has ls' nL ((i, gcv B ex v) :: (gpl B ex 0 L).filter (fun q => !(q.1 == i) && (!(q.1 == i + 1) && !(q.1 + 1 == i && q.2.category == 2))))) : gLR B ex ls' nL (gsl (gsl L i (some v)) (i + 1) none) := by
  refine ⟨hl.1, by rw [gsl_len, gsl_len]; exact h.2.1, hl.2.1, fun j u hj => ?_⟩
  rw [gl_gsl _ (i + 1) j _ (by rw [gsl_len]; exact hi)] at hj
  by_cases e1 : j = i + 1
  · simp [e1] at hj
  · simp only [e1, if_false] at hj
    rw [gl_gsl L i j _ (by omega)] at hj
    by_cases e : j = i
    · subst e
      simp only [if_true] at hj
      cases hj
      exact hl.2.2 (j, _) List.mem_cons_self
    · simp only [e, if_false] at hj
      refine hl.2.2 (j, gcv B ex u) (List.mem_cons_of_mem _ (List.mem_filter.mpr ⟨(mem_gpl L 0 j _).mpr ⟨j, u, by omega, hj, rfl⟩, ?_⟩))
      by_cases e2 : j + 1 = i
      · have := gokS_prev hok e2 hj
        simp [e, e1, gcv_cat, this]
      · simp [e, e1, e2]
end
section
/-! ===== what is checked of a decoded row: its words among the tables', its places, its targets ===== -/
def gtb (ps : Nat) (w : Cond) : Bool := decide (tables_1[ps]? = some w)
theorem gtb_mem {ps : Nat} {w : Cond} (h : gtb ps w = true) : w ∈ lw_tbl := by
  have h1 : tables_1[ps]? = some w := of_decide_eq_true h
  exact List.mem_append_right _ (List.mem_of_getElem? h1)
theorem gtb_good {ps : Nat} {w : Cond} (h : gtb ps w = true) (hg : goodWord w = true) : w ∈ gGW := List.mem_filter.mpr ⟨gtb_mem h, hg⟩
theorem gtb_nest {ps : Nat} {w : Cond} (h : gtb ps w = true) (hg : gnest w = true) : w ∈ gNW := List.mem_filter.mpr ⟨gtb_mem h, hg⟩
def gchkF (own nm : String) (put : Bool) (idx len : Nat) (ax : List Nat) : Bool := match ax with
  | [] => true
  | [ci, sl, ne, ps] => len == 3 && (match gcl[ci]? with
    | some r => Nat.blt sl r.2.2 && (decide ((r.2.1 sl).1 = r.1) && ((bif Nat.beq ne 0 then gtb ps (.fieldLink own idx r.1 (r.2.1 sl).2.1 (r.2.1 sl).2.2.1) else gtb ps (.fieldLinkNest own idx r.1 (r.2.1 sl).2.1 (r.2.1 sl).2.2.1 RX9)) && (!put || (!(r.2.1 sl).2.2.2 || (Nat.beq ne 0 && decide (nm = "<init>" ∧ r.1 = own))))))
    | none => false)
  | _ => false
def gchkK (own : String) (idx : Nat) (ax : List Nat) (w : Value) : Bool := match ax with
  | [] => true
  | [ps] => (match w with
    | .int v => gtb ps (.constant own idx v)
    | .long v => gtb ps (.constantLong own idx v)
    | .ref a => decide (own = RX4 ∧ ((idx = 64 ∧ a = 2000000001) ∨ (idx = 52 ∧ a = 2000000002)))
    | _ => false)
  | _ => false
def gisI : Value → Bool
  | .int _ => true
  | _ => false
def gisL : Value → Bool
  | .long _ => true
  | _ => false
def gchk (own nm : String) (q : Nat × gI) : Bool := match q with
  | (pc, i, len, ax, w) => match i with
    | .iconst n => len == 1 && decide (w = .int (Int32.ofInt n))
    | .lconst n => len == 1 && decide (w = .long (Int64.ofNat (n : Nat)))
    | .bipush n => len == 2 && decide (w = .int (Int8.ofInt n).toInt32)
    | .sipush n => len == 3 && decide (w = .int (Int16.ofInt n).toInt32)
    | .ldc idx => len == 2 && (gchkK own idx ax w && !gisL w)
    | .ldc_w idx => len == 3 && (gchkK own idx ax w && gisI w)
    | .ldc2_w idx => len == 3 && (gchkK own idx ax w && gisL w)
    | .iload_n k | .lload_n k | .aload_n k | .istore_n k | .lstore_n k | .astore_n k => len == 1 && Nat.beq k (gax ax 0)
    | .iload k | .lload k | .aload k | .istore k | .lstore k | .astore k => len == 2 && Nat.beq k (gax ax 0)
    | .iinc k n => len == 3 && (Nat.beq k (gax ax 0) && decide (w = .int (Int32.ofInt n)))
    | .ifCond _ off | .if_icmp _ off | .goto off => len == 3 && decide ((pc : Int) + off = (gax ax 0 : Int))
    | .tableswitch d lo hi offs => decide ((pc : Int) + d = (gax ax 0 : Int)) && decide (offs.toList.map (fun o => (pc : Int) + o) = ax.tail.map Int.ofNat) && decide ((offs.size : Int) = hi - lo + 1)
    | .getfield idx => gchkF own nm false idx len ax
    | .putfield idx => gchkF own nm true idx len ax
    | .new idx => (match ax with
      | [] => true
      | [ci, ps] => len == 3 && (match gcl[ci]? with | some r => gtb ps (.classLink own idx r.1) | none => false)
      | _ => false)
    | .anewarray idx => (match ax with
      | [] => true
      | [ci, ps] => len == 3 && (match gcl[ci]? with | some r => gtb ps (.classLink own idx r.1) && decide (r.1 ∈ gAO) | none => false)
      | _ => false)
    | .newarray t => len == 2 && (match ax with | [ps] => gtb ps (.arrayClass (newarray.typeOf t)) | _ => false)
    | .getstatic _ | .invokevirtual _ | .invokespecial _ | .invokestatic _ => true
    | _ => len == 1
/-! rows of a class -/
theorem gcl_cases {ci : Nat} {r : vw_C} (h : gcl[ci]? = some r) {P : Nat → vw_C → Prop} (h0 : P 0 (RX0, TX0, 3)) (h1 : P 1 (RX1, TX1, 2)) (h2 : P 2 (RX2, TX2, 6)) (h3 : P 3 (RX3, TX3, 6)) (h4 : P 4 (RX4, TX4, 5)) (h5 : P 5 (RX5, TX5, 5)) (h6 : P 6 (RX6, TX6, 2)) (h7 : P 7 (RX7, TX7, 9)) (h8 : P 8 (RX8, TX8, 5)) (h9 : P 9 (RX9, TX9, 18)) (h10 : P 10 (RX10, TX10, 54)) : P ci r := by
  match ci, h with
  | 0, h => cases h; exact h0
  | 1, h => cases h; exact h1
  | 2, h => cases h; exact h2
  | 3, h => cases h; exact h3
  | 4, h => cases h; exact h4
  | 5, h => cases h; exact h5
  | 6, h => cases h; exact h6
  | 7, h => cases h; exact h7
  | 8, h => cases h; exact h8
  | 9, h => cases h; exact h9
  | 10, h => cases h; exact h10
  | n + 11, h => simp [gcl] at h
theorem gcl_ty {ci : Nat} {r : vw_C} (h : gcl[ci]? = some r) : ∀ k, k < r.2.2 → parseFieldDescriptor (r.2.1 k).2.2.1 = some (gty ci k) :=
  gcl_cases (P := fun ci r => ∀ k, k < r.2.2 → parseFieldDescriptor (r.2.1 k).2.2.1 = some (gty ci k)) h tyX0_ok tyX1_ok tyX2_ok tyX3_ok tyX4_ok tyX5_ok tyX6_ok tyX7_ok tyX8_ok tyX9_ok tyX10_ok
theorem gcl_nm {ci : Nat} {r : vw_C} (h : gcl[ci]? = some r) : ∀ a, a < r.2.2 → ∀ b, b < r.2.2 → a ≠ b → (r.2.1 a).2.1 ≠ (r.2.1 b).2.1 :=
  gcl_cases (P := fun _ r => ∀ a, a < r.2.2 → ∀ b, b < r.2.2 → a ≠ b → (r.2.1 a).2.1 ≠ (r.2.1 b).2.1) h nmX0 nmX1 nmX2 nmX3 nmX4 nmX5 nmX6 nmX7 nmX8 nmX9 nmX10
theorem gcl_lay {C : String} {T : u_T} {N : Nat} (h : ∀ w ∈ u_ws C T N, w ∈ lw_tbl) : ∀ w ∈ u_ws C T N, w ∈ gGW := by
  intro w hw
  refine List.mem_filter.mpr ⟨h w hw, ?_⟩
  obtain ⟨k, -, rfl⟩ := List.mem_map.mp hw
  unfold u_lay
  split <;> rfl
theorem gcl_in {ci : Nat} {r : vw_C} (h : gcl[ci]? = some r) : ∀ w ∈ u_ws r.1 r.2.1 r.2.2, w ∈ gGW :=
  gcl_cases (P := fun _ r => ∀ w ∈ u_ws r.1 r.2.1 r.2.2, w ∈ gGW) h (gcl_lay iX0) (gcl_lay iX1) (gcl_lay iX2) (gcl_lay iX3) (gcl_lay iX4) (gcl_lay iX5) (gcl_lay iX6) (gcl_lay iX7) (gcl_lay iX8) (gcl_lay iX9) (gcl_lay iX10)
def gmk (C : String) (N : Nat) : Prop := Cond.instantiable C N ∈ gGW ∧ Cond.initialized C ∈ gGW
theorem gmk_of {C : String} {N p1 p2 : Nat} (h : (gtb p1 (.instantiable C N) && gtb p2 (.initialized C)) = true) : gmk C N := by
  rw [Bool.and_eq_true] at h
  exact ⟨gtb_good h.1 rfl, gtb_good h.2 rfl⟩
theorem gmk0 : gmk RX0 3 := gmk_of (p1 := 108) (p2 := 5) (by decide +kernel)
theorem gmk1 : gmk RX1 2 := gmk_of (p1 := 149) (p2 := 7) (by decide +kernel)
theorem gmk2 : gmk RX2 6 := gmk_of (p1 := 81) (p2 := 4) (by decide +kernel)
theorem gmk3 : gmk RX3 6 := gmk_of (p1 := 589) (p2 := 17) (by decide +kernel)
theorem gmk4 : gmk RX4 5 := gmk_of (p1 := 114) (p2 := 6) (by decide +kernel)
theorem gmk5 : gmk RX5 5 := gmk_of (p1 := 37) (p2 := 2) (by decide +kernel)
theorem gmk6 : gmk RX6 2 := gmk_of (p1 := 64) (p2 := 3) (by decide +kernel)
theorem gmk7 : gmk RX7 9 := gmk_of (p1 := 246) (p2 := 10) (by decide +kernel)
theorem gmk8 : gmk RX8 5 := gmk_of (p1 := 162) (p2 := 8) (by decide +kernel)
theorem gmk9 : gmk RX9 18 := gmk_of (p1 := 24) (p2 := 1) (by decide +kernel)
theorem gmk10 : gmk RX10 54 := gmk_of (p1 := 836) (p2 := 9) (by decide +kernel)
theorem gcl_mk {ci : Nat} {r : vw_C} (h : gcl[ci]? = some r) : gmk r.1 r.2.2 :=
  gcl_cases (P := fun _ r => gmk r.1 r.2.2) h gmk0 gmk1 gmk2 gmk3 gmk4 gmk5 gmk6 gmk7 gmk8 gmk9 gmk10
end
section
/-! ===== an instruction of the small machine is one of the JVM's ===== -/
def gG (p : Program) (l : Launch) (e : Env) (R : Room) (s : State) (m : MethodId) (args : Array Value) (below : List Frame) (meth : Method) (c : Code) (Q : State → Prop) (nL : Nat) (D : va_G) (B : Nat) (ex : Nat → Nat) (H0 : Heap) (n0 u0 : Nat) (pc : Nat) (L : gL) (st : List Value) (S : gS) : Prop :=
  ∀ (ls : Array Slot) (H : Heap) (locs : List Loc) (cells slots : Nat), gLR B ex ls nL L → gRH D s B ex H0 S H → (∀ q ∈ locs, B ≤ q.base) → n0 + cells = S.1 → u0 + slots = S.2.1 → W p l e R s m args below meth c H locs cells slots Q (F0 m pc ls (st.map (gcv B ex)))
abbrev gCx (p : Program) (s : State) (m : MethodId) (args : Array Value) (meth : Method) (c : Code) (cc : ByteArray) (nL : Nat) (own nm : String) (D : va_G) (ex : Nat → Nat) : Prop :=
  p.tables.exec = Jvm.exec ∧ c.code = cc ∧ c.maxLocals = nL ∧ s.vm.findClass own = some m.cls ∧ (∀ w ∈ gGW, w.before args s = true) ∧ meth.name = nm ∧ gKN D ex s
section GST
variable {p : Program} {l : Launch} {e : Env} {R : Room} {s : State} {m : MethodId} {args : Array Value} {below : List Frame} {meth : Method} {c : Code} {Q : State → Prop}
variable {cc : ByteArray} {nL : Nat} {own nm : String} {D : va_G} {B : Nat} {ex : Nat → Nat} {H0 : Heap} {n0 u0 : Nat} {pc : Nat} {L : gL} {st : List Value} {S : gS}
/-! reading -/
theorem g_int {H : Heap} {a : Nat} {ci : Nat} {fs : List Value} (hR : gRH D s B ex H0 S H) (ha : S.2.2 a = .inr (ci, fs)) (hf : fs ≠ []) : a < 1000000000 ∧ S.2.2 a ≠ gz ∧ a < S.1 ∧ gat D s B ex H a (.inr (ci, fs)) := by
  have hz : S.2.2 a ≠ gz := by
    rw [ha]
    intro h
    simp only [gz, Sum.inr.injEq, Prod.mk.injEq] at h
    exact hf h.2
  have h9 : a < 1000000000 := by
    rcases Nat.lt_or_ge a 1000000000 with h | h
    · exact h
    · have := hR.2.2.2.2.2 a h hz
      rw [ha] at this
      exact this.elim
  have h1 := hR.2.2.2.2.1 a h9 hz
  rw [ha] at h1
  exact ⟨h9, hz, h1.1, h1.2⟩
theorem g_arr {H : Heap} {a : Nat} {x : FieldType × vp_A} (hR : gRH D s B ex H0 S H) (ha : S.2.2 a = .inl x) (h9 : a < 1000000000) : S.2.2 a ≠ gz ∧ a < S.1 ∧ gat D s B ex H a (.inl x) := by
  have hz : S.2.2 a ≠ gz := by
    rw [ha]
    intro h
    simp [gz] at h
  have h1 := hR.2.2.2.2.1 a h9 hz
  rw [ha] at h1
  exact ⟨hz, h1.1, h1.2⟩
theorem g_gal {a : Nat} (h : a < 1000000000) : gal B ex a = B + a := by simp [gal, h]
theorem g_read {H : Heap} {a n : Nat} {ty : FieldType} {f : Nat → Int32} (hR : gRH D s B ex H0 S H) (ha : S.2.2 a = .inl (ty, n, .inl f)) : ∃ cell : Cell, H[gal B ex a]? = some cell ∧ s.isArrayOf cell ty ∧ cell.vm ≠ .unknown ∧ cell.slots.size = n ∧ ∀ j : Nat, j < n → cell.slots[j]? = some (.int (f j)) := by
  rcases Nat.lt_or_ge a 1000000000 with h9 | h9
  · obtain ⟨hz, hlt, cA, h1, h2, h3⟩ := g_arr hR ha h9
    rw [g_gal h9]
    exact ⟨_, h3, h1 n (fun j => .int (f j)), (fun q => by cases q), arrV_size _ _ _, fun j hj => arrV_read _ _ hj⟩
  · have hz : S.2.2 a ≠ gz := by
      rw [ha]
      intro h
      simp [gz] at h
    have h1 := hR.2.2.2.2.2 a h9 hz
    rw [ha] at h1
    obtain ⟨cell, k1, k2, k3, k4, k5⟩ := h1
    have hlt : ex a < H0.size := (Array.getElem?_eq_some_iff.mp k1).1
    have e1 : gal B ex a = ex a := by simp [gal, Nat.not_lt.mpr h9]
    rw [e1]
    refine ⟨cell, ?_, k2, k3, k4, k5⟩
    rw [hR.2.2.2.1 (ex a) (by rw [← hR.2.2.1]; exact hlt)]
    exact k1
/-! inversions -/
theorem gpush_inv {len : Nat} {w : Value} {o : Nat × gL × List Value × gS} (h : gpush len w pc L st S = some o) : o = (pc + len, L, w :: st, S) := (Option.some.inj h).symm
theorem gii_inv {f : Int32 → Int32 → Int32} {o : Nat × gL × List Value × gS} (h : gii f pc L st S = some o) : ∃ x y r, st = .int y :: .int x :: r ∧ o = (pc + 1, L, .int (f x y) :: r, S) := by
  unfold gii at h
  split at h
  · exact ⟨_, _, _, rfl, (Option.some.inj h).symm⟩
  · cases h
theorem gll_inv {f : Int64 → Int64 → Int64} {o : Nat × gL × List Value × gS} (h : gll f pc L st S = some o) : ∃ x y r, st = .long y :: .long x :: r ∧ o = (pc + 1, L, .long (f x y) :: r, S) := by
  unfold gll at h
  split at h
  · exact ⟨_, _, _, rfl, (Option.some.inj h).symm⟩
  · cases h
theorem gli_inv {f : Int64 → Int32 → Int64} {o : Nat × gL × List Value × gS} (h : gli f pc L st S = some o) : ∃ x y r, st = .int y :: .long x :: r ∧ o = (pc + 1, L, .long (f x y) :: r, S) := by
  unfold gli at h
  split at h
  · exact ⟨_, _, _, rfl, (Option.some.inj h).symm⟩
  · cases h
theorem giload_inv {len i : Nat} {o : Nat × gL × List Value × gS} (h : giload len i pc L st S = some o) : ∃ x, gl L i = some (.int x) ∧ o = (pc + len, L, .int x :: st, S) := by
  unfold giload at h
  split at h
  · exact ⟨_, by assumption, (Option.some.inj h).symm⟩
  · cases h
theorem glload_inv {len i : Nat} {o : Nat × gL × List Value × gS} (h : glload len i pc L st S = some o) : ∃ x, gl L i = some (.long x) ∧ o = (pc + len, L, .long x :: st, S) := by
  unfold glload at h
  split at h
  · exact ⟨_, by assumption, (Option.some.inj h).symm⟩
  · cases h
theorem galoadL_inv {len i : Nat} {o : Nat × gL × List Value × gS} (h : galoadL len i pc L st S = some o) : ∃ x, gl L i = some (.ref x) ∧ o = (pc + len, L, .ref x :: st, S) := by
  unfold galoadL at h
  split at h
  · exact ⟨_, by assumption, (Option.some.inj h).symm⟩
  · cases h
theorem gistore_inv {len i : Nat} {o : Nat × gL × List Value × gS} (h : gistore len i pc L st S = some o) : ∃ x r, st = .int x :: r ∧ gokS L i = true ∧ i < L.length ∧ o = (pc + len, gsl L i (some (.int x)), r, S) := by
  unfold gistore at h
  split at h
  · rename_i x r
    cases hc : (gokS L i && Nat.blt i L.length) with
    | false => rw [hc] at h; cases h
    | true =>
      rw [hc] at h
      rw [Bool.and_eq_true] at hc
      exact ⟨x, r, rfl, hc.1, Nat.ble_eq.mp hc.2, (Option.some.inj h).symm⟩
  · cases h
theorem gastoreL_inv {len i : Nat} {o : Nat × gL × List Value × gS} (h : gastoreL len i pc L st S = some o) : ∃ x r, st = .ref x :: r ∧ gokS L i = true ∧ i < L.length ∧ o = (pc + len, gsl L i (some (.ref x)), r, S) := by
  unfold gastoreL at h
  split at h
  · rename_i x r
    cases hc : (gokS L i && Nat.blt i L.length) with
    | false => rw [hc] at h; cases h
    | true =>
      rw [hc] at h
      rw [Bool.and_eq_true] at hc
      exact ⟨x, r, rfl, hc.1, Nat.ble_eq.mp hc.2, (Option.some.inj h).symm⟩
  · cases h
theorem glstore_inv {len i : Nat} {o : Nat × gL × List Value × gS} (h : glstore len i pc L st S = some o) : ∃ x r, st = .long x :: r ∧ gokS L i = true ∧ i + 1 < L.length ∧ o = (pc + len, gsl (gsl L i (some (.long x))) (i + 1) none, r, S) := by
  unfold glstore at h
  split at h
  · rename_i x r
    cases hc : (gokS L i && Nat.blt (i + 1) L.length) with
    | false => rw [hc] at h; cases h
    | true =>
      rw [hc] at h
      rw [Bool.and_eq_true] at hc
      exact ⟨x, r, rfl, hc.1, Nat.ble_eq.mp hc.2, (Option.some.inj h).symm⟩
  · cases h
theorem giinc_inv {len i : Nat} {w : Value} {o : Nat × gL × List Value × gS} (h : giinc len i w pc L st S = some o) : ∃ x n, gl L i = some (.int x) ∧ w = .int n ∧ gokS L i = true ∧ i < L.length ∧ o = (pc + len, gsl L i (some (.int (x + n))), st, S) := by
  unfold giinc at h
  split at h
  · rename_i x n hx
    cases hc : (gokS L i && Nat.blt i L.length) with
    | false => rw [hc] at h; cases h
    | true =>
      rw [hc] at h
      rw [Bool.and_eq_true] at hc
      exact ⟨x, n, hx, rfl, hc.1, Nat.ble_eq.mp hc.2, (Option.some.inj h).symm⟩
  · cases h
theorem gget_inv {ci sl : Nat} {o : Nat × gL × List Value × gS} (h : gget ci sl pc L st S = some o) : ∃ a r fs v, st = .ref a :: r ∧ S.2.2 a = .inr (ci, fs) ∧ fs[sl]? = some v ∧ o = (pc + 3, L, v :: r, S) := by
  unfold gget at h
  split at h
  · rename_i a r
    split at h
    · rename_i c fs hc
      cases he : Nat.beq c ci with
      | false => rw [he] at h; cases h
      | true =>
        rw [he] at h
        have e2 : c = ci := Nat.eq_of_beq_eq_true he
        subst e2
        simp only [cond_true] at h
        split at h
        · rename_i v hv
          exact ⟨a, r, fs, v, rfl, hc, hv, (Option.some.inj h).symm⟩
        · cases h
    · cases h
  · cases h
theorem gput_inv {ci sl : Nat} {o : Nat × gL × List Value × gS} (h : gput ci sl pc L st S = some o) : ∃ v a r fs, st = v :: .ref a :: r ∧ S.2.2 a = .inr (ci, fs) ∧ sl < fs.length ∧ gfit (gty ci sl) v = true ∧ o = (pc + 3, L, r, (S.1, S.2.1, gset S.2.2 a (.inr (ci, fs.set sl v)))) := by
  unfold gput at h
  split at h
  · rename_i v a r
    split at h
    · rename_i c fs hc
      cases he : (Nat.beq c ci && Nat.blt sl fs.length && gfit (gty ci sl) v) with
      | false => rw [he] at h; cases h
      | true =>
        rw [he] at h
        rw [Bool.and_eq_true, Bool.and_eq_true] at he
        have e2 : c = ci := Nat.eq_of_beq_eq_true he.1.1
        subst e2
        exact ⟨v, a, r, fs, rfl, hc, Nat.ble_eq.mp he.1.2, he.2, (Option.some.inj h).symm⟩
    · cases h
  · cases h
theorem gnew_inv {ci : Nat} {o : Nat × gL × List Value × gS} (h : gnew ci pc L st S = some o) : ∃ r, gcl[ci]? = some r ∧ S.1 < 1000000 ∧ o = (pc + 3, L, .ref S.1 :: st, (S.1 + 1, S.2.1 + r.2.2, gset S.2.2 S.1 (.inr (ci, gdv ci r.2.2)))) := by
  unfold gnew at h
  split at h
  · rename_i r hr
    split at h
    · rename_i hn
      exact ⟨r, hr, hn, (Option.some.inj h).symm⟩
    · cases h
  · cases h
theorem gnewq_inv {ci : Nat} {o : Nat × gL × List Value × gS} (h : gnewq ci pc L st S = some o) : ∃ n r q, st = .int n :: r ∧ ¬ n < 0 ∧ n.toNatClampNeg ≤ 1000000 ∧ S.1 < 1000000 ∧ gcl[ci]? = some q ∧ o = (pc + 3, L, .ref S.1 :: r, (S.1 + 1, S.2.1 + n.toNatClampNeg, gset S.2.2 S.1 (.inl (.object q.1, n.toNatClampNeg, .inr (.inr (.inr (.inr (fun _ => none)))))))) := by
  unfold gnewq at h
  split at h
  · rename_i n r
    split at h
    · cases h
    · rename_i hn
      split at h
      · rename_i q hq
        exact ⟨n, r, q, rfl, fun z => hn (Or.inl z), by omega, by omega, hq, (Option.some.inj h).symm⟩
      · cases h
  · cases h
theorem giald_inv {ty : FieldType} {o : Nat × gL × List Value × gS} (h : giald ty pc L st S = some o) : ∃ i a r n f, st = .int i :: .ref a :: r ∧ S.2.2 a = .inl (ty, n, .inl f) ∧ ¬ (i < 0 ∨ n ≤ i.toNatClampNeg) ∧ o = (pc + 1, L, .int (f i.toNatClampNeg) :: r, S) := by
  unfold giald at h
  split at h
  · rename_i i a r
    split at h
    · rename_i t n f ha
      split at h
      · rename_i hc
        obtain ⟨rfl, hc⟩ := hc
        exact ⟨i, a, r, n, f, rfl, ha, hc, (Option.some.inj h).symm⟩
      · cases h
    · cases h
  · cases h
theorem gbald_inv {o : Nat × gL × List Value × gS} (h : gbald pc L st S = some o) : ∃ i a r t n f, st = .int i :: .ref a :: r ∧ (t = .boolean ∨ t = .byte) ∧ S.2.2 a = .inl (t, n, .inl f) ∧ ¬ (i < 0 ∨ n ≤ i.toNatClampNeg) ∧ o = (pc + 1, L, .int (f i.toNatClampNeg) :: r, S) := by
  unfold gbald at h
  split at h
  · rename_i i a r
    split at h
    · rename_i t n f ha
      split at h
      · rename_i hc
        exact ⟨i, a, r, t, n, f, rfl, hc.1, ha, hc.2, (Option.some.inj h).symm⟩
      · cases h
    · cases h
  · cases h
theorem glald_inv {o : Nat × gL × List Value × gS} (h : glald pc L st S = some o) : ∃ i a r n f, st = .int i :: .ref a :: r ∧ S.2.2 a = .inl (.long, n, .inr (.inl f)) ∧ ¬ (i < 0 ∨ n ≤ i.toNatClampNeg) ∧ o = (pc + 1, L, .long (f i.toNatClampNeg) :: r, S) := by
  unfold glald at h
  split at h
  · rename_i i a r
    split at h
    · rename_i t n f ha
      split at h
      · rename_i hc
        obtain ⟨rfl, hc⟩ := hc
        exact ⟨i, a, r, n, f, rfl, ha, hc, (Option.some.inj h).symm⟩
      · cases h
    · cases h
  · cases h
theorem gaald_inv {o : Nat × gL × List Value × gS} (h : gaald pc L st S = some o) : ∃ i a r C n f, st = .int i :: .ref a :: r ∧ S.2.2 a = .inl (.object C, n, .inr (.inr (.inr (.inr f)))) ∧ ¬ (i < 0 ∨ n ≤ i.toNatClampNeg) ∧ o = (pc + 1, L, va_rf (f i.toNatClampNeg) :: r, S) := by
  unfold gaald at h
  split at h
  · rename_i i a r
    split at h
    · rename_i C n f ha
      split at h
      · rename_i hc
        exact ⟨i, a, r, C, n, f, rfl, ha, hc, (Option.some.inj h).symm⟩
      · cases h
    · cases h
  · cases h
theorem glast_inv {o : Nat × gL × List Value × gS} (h : glast pc L st S = some o) : ∃ x i a r n f, st = .long x :: .int i :: .ref a :: r ∧ S.2.2 a = .inl (.long, n, .inr (.inl f)) ∧ ¬ (i < 0 ∨ n ≤ i.toNatClampNeg) ∧ a < 1000000000 ∧ o = (pc + 1, L, r, (S.1, S.2.1, gset S.2.2 a (.inl (.long, n, .inr (.inl (vp_updL f i.toNatClampNeg x)))))) := by
  unfold glast at h
  split at h
  · rename_i x i a r
    split at h
    · rename_i t n f ha
      split at h
      · rename_i hc
        obtain ⟨rfl, hc, h9⟩ := hc
        exact ⟨x, i, a, r, n, f, rfl, ha, hc, h9, (Option.some.inj h).symm⟩
      · cases h
    · cases h
  · cases h
theorem gaast_inv {o : Nat × gL × List Value × gS} (h : gaast pc L st S = some o) : ∃ v i a r C n f ci fs, st = .ref v :: .int i :: .ref a :: r ∧ S.2.2 a = .inl (.object C, n, .inr (.inr (.inr (.inr f)))) ∧ S.2.2 v = .inr (ci, fs) ∧ (gcl[ci]?.map (fun q => q.1)) = some C ∧ ¬ (i < 0 ∨ n ≤ i.toNatClampNeg) ∧ a < 1000000000 ∧ o = (pc + 1, L, r, (S.1, S.2.1, gset S.2.2 a (.inl (.object C, n, .inr (.inr (.inr (.inr (va_up f i.toNatClampNeg (some v))))))))) := by
  unfold gaast at h
  split at h
  · rename_i v i a r
    split at h
    · rename_i C n f ha
      split at h
      · rename_i ci fs hv
        split at h
        · rename_i hc
          exact ⟨v, i, a, r, C, n, f, ci, fs, rfl, ha, hv, hc.1, hc.2.1, hc.2.2, (Option.some.inj h).symm⟩
        · cases h
      · cases h
    · cases h
  · cases h
theorem galen_inv {o : Nat × gL × List Value × gS} (h : galen pc L st S = some o) : ∃ a r t n x, st = .ref a :: r ∧ S.2.2 a = .inl (t, n, x) ∧ o = (pc + 1, L, .int (Int32.ofNat n) :: r, S) := by
  unfold galen at h
  split at h
  · rename_i a r
    split at h
    · rename_i t n x ha
      exact ⟨a, r, t, n, x, rfl, ha, (Option.some.inj h).symm⟩
    · cases h
  · cases h
end GST
theorem giast_inv {ty : FieldType} {ok : Int32 → Prop} [DecidablePred ok] {pc : Nat} {L : gL} {st : List Value} {S : gS} {o : Nat × gL × List Value × gS} (h : giast ty ok pc L st S = some o) : ∃ x i a r n f, st = .int x :: .int i :: .ref a :: r ∧ S.2.2 a = .inl (ty, n, .inl f) ∧ ¬ (i < 0 ∨ n ≤ i.toNatClampNeg) ∧ ok x ∧ a < 1000000000 ∧ o = (pc + 1, L, r, (S.1, S.2.1, gset S.2.2 a (.inl (ty, n, .inl (upd f i.toNatClampNeg x))))) := by
  unfold giast at h
  split at h
  · rename_i x i a r
    split at h
    · rename_i t n f ha
      split at h
      · rename_i hc
        obtain ⟨rfl, hc, hok, h9⟩ := hc
        exact ⟨x, i, a, r, n, f, rfl, ha, hc, hok, h9, (Option.some.inj h).symm⟩
      · cases h
    · cases h
  · cases h
end
section
section GSM
variable {p : Program} {l : Launch} {e : Env} {R : Room} {s : State} {m : MethodId} {args : Array Value} {below : List Frame} {meth : Method} {c : Code} {Q : State → Prop}
variable {cc : ByteArray} {nL : Nat} {own nm : String} {D : va_G} {B : Nat} {ex : Nat → Nat} {H0 : Heap} {n0 u0 : Nat} {pc : Nat} {L : gL} {st r : List Value} {S : gS}
theorem gw_field (a : String) (b : Nat) (x y z : String) : goodWord (.fieldLink a b x y z) = true := rfl
theorem gw_class (a : String) (b : Nat) (x : String) : goodWord (.classLink a b x) = true := rfl
theorem gw_const (a : String) (b : Nat) (x : Int32) : goodWord (.constant a b x) = true := rfl
theorem gw_constL (a : String) (b : Nat) (x : Int64) : goodWord (.constantLong a b x) = true := rfl
theorem gw_arr (t : FieldType) : goodWord (.arrayClass t) = true := rfl
/-! fields -/
theorem gs_get {idx ci sl ne ps a : Nat} {fs : List Value} {v : Value} (X : gCx p s m args meth c cc nL own nm D ex) (hd : decode cc pc = .ok (.getfield idx, 3)) (hck : gchkF own nm false idx 3 [ci, sl, ne, ps] = true) (ha : S.2.2 a = .inr (ci, fs)) (hv : fs[sl]? = some v)
    (k : gG p l e R s m args below meth c Q nL D B ex H0 n0 u0 (pc + 3) L (v :: r) S) : gG p l e R s m args below meth c Q nL D B ex H0 n0 u0 pc L (.ref a :: r) S := by
  intro ls H locs cells slots hL hR hl hc hs
  obtain ⟨hx, hb, hml, hown, hts, hnm, hKN⟩ := X
  have hne : fs ≠ [] := by
    intro h
    rw [h] at hv
    simp at hv
  obtain ⟨h9, hz, hlt, q, hq, hlen, hob⟩ := g_int hR ha hne
  simp only [gchkF, hq, Bool.and_eq_true, beq_self_eq_true, true_and, decide_eq_true_eq] at hck
  obtain ⟨hk, hdecl, hlk, -⟩ := hck
  have hk' : sl < q.2.2 := Nat.ble_eq.mp hk
  have hP : va_P D gcl [(B + a, .inr (ci, fs.map (gcv B ex)))] H := by
    intro k2 q2 h2
    cases k2 with
    | zero => cases h2; exact ⟨q, hq, hob⟩
    | succ n => simp at h2
  have hvv : (fs.map (gcv B ex))[sl]? = some (gcv B ex v) := by rw [List.getElem?_map, hv]; rfl
  have e1 : gcv B ex (.ref a) = .ref (B + a) := by simp [gcv, g_gal h9]
  have kk := k ls H locs cells slots hL hR hl hc hs
  simp only [List.map_cons, e1] at kk ⊢
  cases hn : Nat.beq ne 0 with
  | true =>
    rw [hn] at hlk
    simp only [cond_true] at hlk
    exact va_get (D := D) (ci := ci) (C := q.1) (T := q.2.1) (N := q.2.2) hx hb hts (gcl_in hq) hown hKN.1 hP 0 rfl hq sl hk' (hts _ (gtb_good hlk (gw_field _ _ _ _ _))) (fun x h => by rw [← hdecl]; exact h) hvv hd kk
  | false =>
    rw [hn] at hlk
    simp only [cond_false] at hlk
    exact va_getN (D := D) (ci := ci) (C := q.1) (T := q.2.1) (N := q.2.2) hx hb hts (gcl_in hq) hown hKN.1 hP 0 rfl hq sl hk' (va_Nw.use rfl (hKN.2.1 _ (gtb_nest hlk rfl))) (fun x h => by rw [← hdecl]; exact h) hvv hd kk
theorem gfit_ok {ty : FieldType} {v : Value} (h : gfit ty v = true) : narrow ty (gcv B ex v) = gcv B ex v ∧ fits ty (gcv B ex v) = true := by
  cases ty <;> cases v <;> first | exact ⟨rfl, rfl⟩ | (simp [gfit] at h; done) | skip
  rename_i x
  simp only [gfit, Bool.or_eq_true, beq_iff_eq] at h
  rcases h with rfl | rfl
  · exact ⟨(by show narrow .boolean (.int 0) = .int 0; decide), (by show fits .boolean (.int 0) = true; decide)⟩
  · exact ⟨(by show narrow .boolean (.int 1) = .int 1; decide), (by show fits .boolean (.int 1) = true; decide)⟩
theorem gs_put {idx ci sl ne ps a : Nat} {fs : List Value} {v : Value} (X : gCx p s m args meth c cc nL own nm D ex) (hd : decode cc pc = .ok (.putfield idx, 3)) (hck : gchkF own nm true idx 3 [ci, sl, ne, ps] = true) (ha : S.2.2 a = .inr (ci, fs)) (hsl : sl < fs.length) (hfit : gfit (gty ci sl) v = true)
    (k : gG p l e R s m args below meth c Q nL D B ex H0 n0 u0 (pc + 3) L r (S.1, S.2.1, gset S.2.2 a (.inr (ci, fs.set sl v)))) : gG p l e R s m args below meth c Q nL D B ex H0 n0 u0 pc L (v :: .ref a :: r) S := by
  intro ls H locs cells slots hL hR hl hc hs
  obtain ⟨hx, hb, hml, hown, hts, hnm, hKN⟩ := X
  have hne : fs ≠ [] := by
    intro h
    rw [h] at hsl
    simp at hsl
  obtain ⟨h9, hz, hlt, q, hq, hlen, cell, q1, q2, q3, q4⟩ := g_int hR ha hne
  simp only [gchkF, hq, Bool.and_eq_true, beq_self_eq_true, true_and, decide_eq_true_eq, Bool.not_true, Bool.false_or] at hck
  obtain ⟨hk, hdecl, hlk, hfin⟩ := hck
  have hk' : sl < q.2.2 := Nat.ble_eq.mp hk
  have e1 : gcv B ex (.ref a) = .ref (B + a) := by simp [gcv, g_gal h9]
  have hap := va_apart (own := own) (s := s) (args := args) (D := D) (cl := gcl) (tys := []) hts (gcl_in hq) (gty ci) (gcl_ty hq) (gcl_nm hq) hKN.1 hq
  obtain ⟨hS, hfc, kC, hkC, hkind⟩ := hKN.1.1 ci _ hq
  obtain ⟨cf, kf, fi, f, hi, hsl2⟩ := hS sl hk'
  have hst := (u_facts hfc hkC (u_lays hts (gcl_in hq) hk') hi).1
  obtain ⟨hn1, hf1⟩ := gfit_ok (B := B) (ex := ex) hfit
  have hi' : s.fieldFound? q.1 (q.2.1 sl).2.1 (q.2.1 sl).2.2.1 = some (cf, kf, fi, f) := by rw [← hdecl]; exact hi
  have fin : ∀ H' : Heap, H'[B + a]? = some (cell.setSlot f.slot (gcv B ex v)) → H'.size = H.size → (∀ q, q ≠ B + a → H'[q]? = H[q]?) → W p l e R s m args below meth c H' (locs ++ [⟨B + a, f.slot⟩]) cells slots Q (F0 m (pc + 3) ls (r.map (gcv B ex))) := by
    intro H' g1 g2 g3
    refine k ls H' _ cells slots hL (gRH_set hR h9 hz ?_ g2 g3) ?_ hc hs
    · refine ⟨q, hq, by rw [List.length_set]; exact hlen, ?_⟩
      rw [hsl2] at g1
      refine t_OB.to (V := updV (vp_V (fs.map (gcv B ex))) sl (gcv B ex v)) ⟨_, g1, q2, q3, t_set q4 hap hk' _⟩ (fun j _ => ?_)
      rw [List.map_set]
      exact vp_updV_set (by rw [List.length_map]; exact hsl) _ j
    · intro z hz2
      rcases List.mem_append.mp hz2 with h | h
      · exact hl z h
      · rw [List.mem_singleton.mp h]
        exact Nat.le_add_right _ _
  simp only [List.map_cons, e1]
  have hlay := hts _ (gcl_in hq _ (u_in_lay hk'))
  unfold u_lay at hlay
  have hdd := gcl_ty hq sl hk'
  cases hfl : (q.2.1 sl).2.2.2 with
  | false =>
    rw [hfl] at hlay
    simp only [Bool.false_eq_true, if_false] at hlay
    have h6 := u_store hfc hkC hkind hlay hi hdd hn1 hf1
    cases hn : Nat.beq ne 0 with
    | true =>
      rw [hn] at hlk
      simp only [cond_true] at hlk
      exact W.putK hx hb (f := f) ⟨hown, hts _ (gtb_good hlk (gw_field _ _ _ _ _)), ⟨_, _, _, hi'⟩, hst⟩ (by rw [q2]; exact h6) q1 q3 (by rw [hsl2]; exact k2_hasslot (q4 sl hk')) rfl rfl hd fin
    | false =>
      rw [hn] at hlk
      simp only [cond_false] at hlk
      exact va_WputK hx hb (f := f) hown (va_Nw.use rfl (hKN.2.1 _ (gtb_nest hlk rfl))) hi' hst (by rw [q2]; exact h6) q1 q3 (by rw [hsl2]; exact k2_hasslot (q4 sl hk')) rfl rfl hd fin
  | true =>
    rw [hfl] at hfin hlay
    simp only [if_true] at hlay
    simp only [Bool.not_true, Bool.false_or, Bool.and_eq_true, decide_eq_true_eq] at hfin
    obtain ⟨hn, hnm2, hown2⟩ := hfin
    rw [hn] at hlk
    simp only [cond_true] at hlk
    have h6 := u_fits hfc hkC hkind (Or.inr hlay) hi hdd hn1 hf1
    have hcf : m.cls = cf := by
      obtain ⟨_, _, c', _, _, _, -, -, hf', -, -, -, hown3, -⟩ := Cond.laysFinal_spec hlay
      have e2 : c' = cf := by have := hi.symm.trans hf'; simp at this; exact this.1.symm
      rw [hdecl, hown2] at hown3
      rw [← e2]; exact Option.some.inj (hown.symm.trans hown3)
    exact W.putFinK hx hb hown (hts _ (gtb_good hlk (gw_field _ _ _ _ _))) hi' hst hcf (hnm.trans hnm2) (by rw [q2]; exact h6) q1 q3 (by rw [hsl2]; exact k2_hasslot (q4 sl hk')) rfl rfl hd fin
/-! making -/
theorem gs_new {idx ci ps : Nat} {q : vw_C} (X : gCx p s m args meth c cc nL own nm D ex) (hd : decode cc pc = .ok (.new idx, 3)) (hq : gcl[ci]? = some q) (hlk : gtb ps (.classLink own idx q.1) = true) (hn : S.1 < 1000000) (hr1 : S.1 + 1 ≤ n0 + R.cells) (hr2 : S.2.1 + q.2.2 ≤ u0 + R.slots)
    (k : gG p l e R s m args below meth c Q nL D B ex H0 n0 u0 (pc + 3) L (.ref S.1 :: st) (S.1 + 1, S.2.1 + q.2.2, gset S.2.2 S.1 (.inr (ci, gdv ci q.2.2)))) : gG p l e R s m args below meth c Q nL D B ex H0 n0 u0 pc L st S := by
  intro ls H locs cells slots hL hR hl hc hs
  obtain ⟨hx, hb, hml, hown, hts, hnm, hKN⟩ := X
  have hKn := hKN.1.1 ci _ hq
  obtain ⟨hmk1, hmk2⟩ := gcl_mk hq
  refine W.newcK hx hb hown (hts _ (gtb_good hlk (gw_class _ _ _))) (hts _ hmk1) (hts _ hmk2) rfl hd (by omega) (by omega) hKn.2.1 rfl fun H1 kC hkC e1 z1 o1 => ?_
  have e2 : gcv B ex (.ref S.1) = .ref H.size := by
    simp only [gcv]
    rw [g_gal (by omega), hR.1]
  have hat : gat D s B ex H1 S.1 (.inr (ci, gdv ci q.2.2)) := by
    refine ⟨q, hq, by simp [gdv], ?_⟩
    rw [hR.1] at e1
    refine (u_born (gty ci) hts (gcl_in hq) hKn hkC e1 (gcl_ty hq)).to (fun j hj => ?_)
    have h0 : (gdv ci q.2.2)[j]? = some (defaultValue (gty ci j)) := by simp [gdv, hj]
    have h1 : ((gdv ci q.2.2).map (gcv B ex))[j]? = some (gcv B ex (defaultValue (gty ci j))) := by rw [List.getElem?_map, h0]; rfl
    have h2 : gcv B ex (defaultValue (gty ci j)) = defaultValue (gty ci j) := by cases gty ci j <;> rfl
    rw [h2] at h1
    simp [vp_V, h1]
  have kk := k ls H1 locs (cells + 1) (slots + q.2.2) hL (gRH_push _ hR hn hat z1 o1) hl (by dsimp only; omega) (by dsimp only; omega)
  simp only [List.map_cons, e2] at kk
  exact kk
theorem gs_newa {at_ : ArrayType} {ty : FieldType} {ps : Nat} {n : Int32} {a0 : vp_A} (X : gCx p s m args meth c cc nL own nm D ex) (hd : decode cc pc = .ok (.newarray at_, 2)) (hlk : gtb ps (.arrayClass (newarray.typeOf at_)) = true) (hty : newarray.typeOf at_ = ty) (hra : ∀ cA U, U.vm.findClass ("[" ++ ty.toString) = some cA → va_RA U cA ty) (ha0 : ∀ cA : ClassId, vp_cell cA (gcvA B ex a0) = arrV cA n.toNatClampNeg (fun _ => defaultValue ty)) (h0 : ¬ n < 0) (h1 : n.toNatClampNeg ≤ 1000000) (hcb : componentBytes ty ≤ 8) (hn : S.1 < 1000000) (hr1 : S.1 + 1 ≤ n0 + R.cells) (hr2 : S.2.1 + n.toNatClampNeg ≤ u0 + R.slots)
    (k : gG p l e R s m args below meth c Q nL D B ex H0 n0 u0 (pc + 2) L (.ref S.1 :: r) (S.1 + 1, S.2.1 + n.toNatClampNeg, gset S.2.2 S.1 (.inl (ty, a0)))) : gG p l e R s m args below meth c Q nL D B ex H0 n0 u0 pc L (.int n :: r) S := by
  intro ls H locs cells slots hL hR hl hc hs
  obtain ⟨hx, hb, hml, hown, hts, hnm, hKN⟩ := X
  subst hty
  refine va_newaK hx hb (hts _ (gtb_good hlk (gw_arr _))) rfl hd rfl h0 rfl (Nat.le_trans (Nat.mul_le_mul h1 hcb) (by decide)) (by omega) (by omega) rfl fun H1 cA e1 z1 o1 hAr hNm => ?_
  have e2 : gcv B ex (.ref S.1) = .ref H.size := by
    simp only [gcv]
    rw [g_gal (by omega), hR.1]
  have hat : gat D s B ex H1 S.1 (.inl (newarray.typeOf at_, a0)) := by
    refine ⟨cA, hAr, hra cA s hNm, ?_⟩
    rw [ha0, ← hR.1]
    exact e1
  have kk := k ls H1 locs (cells + 1) (slots + n.toNatClampNeg) hL (gRH_push _ hR hn hat z1 o1) hl (by dsimp only; omega) (by dsimp only; omega)
  simp only [List.map_cons, e2] at kk
  exact kk
theorem gs_newq {idx ps : Nat} {q : vw_C} {n : Int32} (X : gCx p s m args meth c cc nL own nm D ex) (hd : decode cc pc = .ok (.anewarray idx, 3)) (hlk : gtb ps (.classLink own idx q.1) = true) (hao : q.1 ∈ gAO) (h0 : ¬ n < 0) (h1 : n.toNatClampNeg ≤ 1000000) (hn : S.1 < 1000000) (hr1 : S.1 + 1 ≤ n0 + R.cells) (hr2 : S.2.1 + n.toNatClampNeg ≤ u0 + R.slots)
    (k : gG p l e R s m args below meth c Q nL D B ex H0 n0 u0 (pc + 3) L (.ref S.1 :: r) (S.1 + 1, S.2.1 + n.toNatClampNeg, gset S.2.2 S.1 (.inl (.object q.1, n.toNatClampNeg, .inr (.inr (.inr (.inr (fun _ => none)))))))) : gG p l e R s m args below meth c Q nL D B ex H0 n0 u0 pc L (.int n :: r) S := by
  intro ls H locs cells slots hL hR hl hc hs
  obtain ⟨hx, hb, hml, hown, hts, hnm, hKN⟩ := X
  refine W.anew hx hb hown (hts _ (gtb_good hlk (gw_class _ _ _))) (va_AO.use (hKN.2.2.1 _ hao)) rfl hd rfl h0 (Nat.le_trans (Nat.mul_le_mul h1 (Nat.le_refl 4)) (by decide)) (by omega) (by omega) fun cA kA comp f1 f2 f3 f4 => ?_
  generalize hH1 : H.push ({ cls := cA, slots := Array.replicate n.toNatClampNeg .null, vm := .none } : Cell) = H1
  have z1 : H1.size = H.size + 1 := by rw [← hH1, Array.size_push]
  have e1 : H1[H.size]? = some (arrV cA n.toNatClampNeg (fun _ => .null)) := by rw [← hH1, Array.getElem?_push_size, ← arrV_new]
  have o1 : ∀ q : Nat, q < H.size → H1[q]? = H[q]? := fun q hq => by rw [← hH1, Array.getElem?_push, if_neg (Nat.ne_of_lt hq)]
  have hAr : ArrOfT s cA (.object q.1) := fun N z => ⟨(fun k h => by cases h), kA, f2, comp, f3⟩
  have e2 : gcv B ex (.ref S.1) = .ref H.size := by
    simp only [gcv]
    rw [g_gal (by omega), hR.1]
  have hat : gat D s B ex H1 S.1 (.inl (.object q.1, n.toNatClampNeg, .inr (.inr (.inr (.inr (fun _ => none)))))) := by
    refine ⟨cA, hAr, ⟨kA, comp, f2, f3, f4, f1⟩, ?_⟩
    rw [← hR.1]
    exact e1
  have kk := k ls H1 locs (cells + 1) (slots + n.toNatClampNeg) hL (gRH_push _ hR hn hat z1 o1) hl (by dsimp only; omega) (by dsimp only; omega)
  simp only [List.map_cons, e2] at kk
  exact kk
/-! arrays -/
theorem gs_iald {ty : FieldType} {i : Int32} {a n : Nat} {f : Nat → Int32} (X : gCx p s m args meth c cc nL own nm D ex) (hty : (ty = .int ∧ decode cc pc = .ok (.iaload, 1)) ∨ (ty = .char ∧ decode cc pc = .ok (.caload, 1)) ∨ (ty = .boolean ∧ decode cc pc = .ok (.baload, 1)) ∨ (ty = .byte ∧ decode cc pc = .ok (.baload, 1))) (ha : S.2.2 a = .inl (ty, n, .inl f)) (hin : ¬ (i < 0 ∨ n ≤ i.toNatClampNeg))
    (k : gG p l e R s m args below meth c Q nL D B ex H0 n0 u0 (pc + 1) L (.int (f i.toNatClampNeg) :: r) S) : gG p l e R s m args below meth c Q nL D B ex H0 n0 u0 pc L (.int i :: .ref a :: r) S := by
  intro ls H locs cells slots hL hR hl hc hs
  obtain ⟨hx, hb, hml, hown, hts, hnm, hKN⟩ := X
  obtain ⟨cell, k1, k2, k3, k4, k5⟩ := g_read hR ha
  have kk := k ls H locs cells slots hL hR hl hc hs
  have hlt : i.toNatClampNeg < n := by omega
  rcases hty with ⟨rfl, hd⟩ | ⟨rfl, hd⟩ | ⟨rfl, hd⟩ | ⟨rfl, hd⟩
  · exact W.iald hx hb k1 k2 k3 (by rw [k4]; exact hin) (k5 _ hlt) rfl rfl hd kk
  · exact W.cald hx hb k1 k2 k3 (by rw [k4]; exact hin) (k5 _ hlt) rfl rfl hd kk
  · exact W.zald hx hb k1 k2 k3 (by rw [k4]; exact hin) (k5 _ hlt) rfl rfl hd kk
  · exact W.bald hx hb k1 k2 k3 (by rw [k4]; exact hin) (k5 _ hlt) rfl rfl hd kk
theorem g_ext9 {H : Heap} {a : Nat} {t : FieldType} {n : Nat} {x} (hR : gRH D s B ex H0 S H) (ha : S.2.2 a = .inl (t, n, .inr x)) : a < 1000000000 := by
  rcases Nat.lt_or_ge a 1000000000 with h | h
  · exact h
  · have hz : S.2.2 a ≠ gz := by
      rw [ha]
      intro h
      simp [gz] at h
    have := hR.2.2.2.2.2 a h hz
    rw [ha] at this
    exact this.elim
theorem gs_lald {i : Int32} {a n : Nat} {f : Nat → Int64} (X : gCx p s m args meth c cc nL own nm D ex) (hd : decode cc pc = .ok (.laload, 1)) (ha : S.2.2 a = .inl (.long, n, .inr (.inl f))) (hin : ¬ (i < 0 ∨ n ≤ i.toNatClampNeg))
    (k : gG p l e R s m args below meth c Q nL D B ex H0 n0 u0 (pc + 1) L (.long (f i.toNatClampNeg) :: r) S) : gG p l e R s m args below meth c Q nL D B ex H0 n0 u0 pc L (.int i :: .ref a :: r) S := by
  intro ls H locs cells slots hL hR hl hc hs
  obtain ⟨hx, hb, hml, hown, hts, hnm, hKN⟩ := X
  have h9 := g_ext9 hR ha
  obtain ⟨hz, hlt0, cA, k1, k2, k3⟩ := g_arr hR ha h9
  have kk := k ls H locs cells slots hL hR hl hc hs
  have hlt : i.toNatClampNeg < n := by omega
  have e1 : gcv B ex (.ref a) = .ref (B + a) := by simp [gcv, g_gal h9]
  simp only [List.map_cons, e1] at kk ⊢
  exact W.lald hx hb k3 (k1 n (fun j => .long (f j))) (fun q => by cases q) (by show ¬ (i < 0 ∨ (arrV _ _ _).slots.size ≤ _); rw [arrV_size]; exact hin) (arrV_read cA (fun j => Value.long (f j)) hlt) rfl rfl hd kk
theorem gs_aald {i : Int32} {a n : Nat} {C : String} {f : Nat → Option Nat} (X : gCx p s m args meth c cc nL own nm D ex) (hd : decode cc pc = .ok (.aaload, 1)) (ha : S.2.2 a = .inl (.object C, n, .inr (.inr (.inr (.inr f))))) (hin : ¬ (i < 0 ∨ n ≤ i.toNatClampNeg))
    (k : gG p l e R s m args below meth c Q nL D B ex H0 n0 u0 (pc + 1) L (va_rf (f i.toNatClampNeg) :: r) S) : gG p l e R s m args below meth c Q nL D B ex H0 n0 u0 pc L (.int i :: .ref a :: r) S := by
  intro ls H locs cells slots hL hR hl hc hs
  obtain ⟨hx, hb, hml, hown, hts, hnm, hKN⟩ := X
  have h9 := g_ext9 hR ha
  obtain ⟨hz, hlt0, cA, k1, k2, k3⟩ := g_arr hR ha h9
  have kk := k ls H locs cells slots hL hR hl hc hs
  have hlt : i.toNatClampNeg < n := by omega
  have e1 : gcv B ex (.ref a) = .ref (B + a) := by simp [gcv, g_gal h9]
  have e3 : gcv B ex (va_rf (f i.toNatClampNeg)) = va_rf ((f i.toNatClampNeg).map (gal B ex)) := by cases f i.toNatClampNeg <;> rfl
  simp only [List.map_cons, e1, e3] at kk ⊢
  exact W.aald (v := va_rf ((f i.toNatClampNeg).map (gal B ex))) (ty := .object C) hx hb k3 (k1 n (fun j => va_rf ((f j).map (gal B ex)))) rfl (fun q => by cases q) (by show ¬ (i < 0 ∨ (arrV _ _ _).slots.size ≤ _); rw [arrV_size]; exact hin) (arrV_read cA (fun j => va_rf ((f j).map (gal B ex))) hlt) rfl rfl hd kk
theorem gs_alen {a n : Nat} {t : FieldType} {x} (X : gCx p s m args meth c cc nL own nm D ex) (hd : decode cc pc = .ok (.arraylength, 1)) (ha : S.2.2 a = .inl (t, n, x))
    (k : gG p l e R s m args below meth c Q nL D B ex H0 n0 u0 (pc + 1) L (.int (Int32.ofNat n) :: r) S) : gG p l e R s m args below meth c Q nL D B ex H0 n0 u0 pc L (.ref a :: r) S := by
  intro ls H locs cells slots hL hR hl hc hs
  obtain ⟨hx, hb, hml, hown, hts, hnm, hKN⟩ := X
  have kk := k ls H locs cells slots hL hR hl hc hs
  rcases x with f | x
  · obtain ⟨cell, k1, k2, k3, k4, k5⟩ := g_read hR ha
    exact W.alen hx hb k1 k2 (by rw [k4]) rfl rfl hd kk
  · have h9 := g_ext9 hR ha
    obtain ⟨hz, hlt0, cA, k1, k2, k3⟩ := g_arr hR ha h9
    have e1 : gcv B ex (.ref a) = .ref (B + a) := by simp [gcv, g_gal h9]
    simp only [List.map_cons, e1] at kk ⊢
    rcases x with f | f | f | f
    · exact W.alen hx hb k3 (k1 n (fun j => .long (f j))) (by show (arrV _ _ _).slots.size.toInt32 = _; rw [arrV_size]; rfl) rfl rfl hd kk
    · exact W.alen hx hb k3 (k1 n (fun j => .float (f j))) (by show (arrV _ _ _).slots.size.toInt32 = _; rw [arrV_size]; rfl) rfl rfl hd kk
    · exact W.alen hx hb k3 (k1 n (fun j => .double (f j))) (by show (arrV _ _ _).slots.size.toInt32 = _; rw [arrV_size]; rfl) rfl rfl hd kk
    · exact W.alen hx hb k3 (k1 n (fun j => va_rf ((f j).map (gal B ex)))) (by show (arrV _ _ _).slots.size.toInt32 = _; rw [arrV_size]; rfl) rfl rfl hd kk
theorem g_locs {locs : List Loc} {a i : Nat} (hl : ∀ q ∈ locs, B ≤ q.base) : ∀ q ∈ locs ++ [(⟨B + a, i⟩ : Loc)], B ≤ q.base := by
  intro z hz2
  rcases List.mem_append.mp hz2 with h | h
  · exact hl z h
  · rw [List.mem_singleton.mp h]
    exact Nat.le_add_right _ _
theorem g_stored {cA : ClassId} {n j : Nat} {f : Nat → Int32} {x : Int32} : (arrV cA n (fun j => .int (f j))).setSlot j (.int x) = arrV cA n (fun q => .int (upd f j x q)) := by
  rw [arrV_store]
  congr 1
  funext q
  by_cases hq : q = j
  · subst hq
    simp [updV, upd]
  · simp [updV, upd, hq]
theorem gs_iast {ty : FieldType} {x i : Int32} {a n : Nat} {f : Nat → Int32} (X : gCx p s m args meth c cc nL own nm D ex) (hty : (ty = .int ∧ decode cc pc = .ok (.iastore, 1)) ∨ (ty = .char ∧ decode cc pc = .ok (.castore, 1) ∧ vp_nar .char x = x) ∨ (ty = .boolean ∧ decode cc pc = .ok (.bastore, 1) ∧ (x = 0 ∨ x = 1))) (ha : S.2.2 a = .inl (ty, n, .inl f)) (h9 : a < 1000000000) (hin : ¬ (i < 0 ∨ n ≤ i.toNatClampNeg))
    (k : gG p l e R s m args below meth c Q nL D B ex H0 n0 u0 (pc + 1) L r (S.1, S.2.1, gset S.2.2 a (.inl (ty, n, .inl (upd f i.toNatClampNeg x))))) : gG p l e R s m args below meth c Q nL D B ex H0 n0 u0 pc L (.int x :: .int i :: .ref a :: r) S := by
  intro ls H locs cells slots hL hR hl hc hs
  obtain ⟨hx, hb, hml, hown, hts, hnm, hKN⟩ := X
  obtain ⟨hz, hlt0, cA, k1, k2, k3⟩ := g_arr hR ha h9
  have e1 : gcv B ex (.ref a) = .ref (B + a) := by simp [gcv, g_gal h9]
  simp only [List.map_cons, e1]
  have hin2 : ¬ (i < 0 ∨ (vp_cell cA (gcvA B ex (n, .inl f))).slots.size ≤ i.toNatClampNeg) := by
    show ¬ (i < 0 ∨ (arrV _ _ _).slots.size ≤ _)
    rw [arrV_size]; exact hin
  have fin : ∀ H' : Heap, H'[B + a]? = some ((vp_cell cA (gcvA B ex (n, .inl f))).setSlot i.toNatClampNeg (.int x)) → H'.size = H.size → (∀ q, q ≠ B + a → H'[q]? = H[q]?) → W p l e R s m args below meth c H' (locs ++ [⟨B + a, i.toNatClampNeg⟩]) cells slots Q (F0 m (pc + 1) ls (r.map (gcv B ex))) := by
    intro H' g1 g2 g3
    refine k ls H' _ cells slots hL (gRH_set hR h9 hz ⟨cA, k1, k2, ?_⟩ g2 g3) (g_locs hl) hc hs
    rw [g1]
    exact congrArg some g_stored
  rcases hty with ⟨rfl, hd⟩ | ⟨rfl, hd, hn⟩ | ⟨rfl, hd, hn⟩
  · exact W.iast hx hb k3 (k1 n (fun j => .int (f j))) (fun q => by cases q) hin2 rfl rfl hd fin
  · refine W.cast hx hb k3 (k1 n (fun j => .int (f j))) (fun q => by cases q) hin2 rfl rfl hd fun H' g1 g2 g3 => fin H' ?_ g2 g3
    rw [g1]
    have e5 : narrow .char (.int x) = .int x := by rw [vp_nar_char] at hn; exact congrArg Value.int hn
    first | rw [e5] | (simp only [narrow] at e5; rw [e5]) | exact congrArg (fun z => some (Cell.setSlot _ _ z)) e5
  · refine W.zast hx hb k3 (k1 n (fun j => .int (f j))) (fun q => by cases q) hin2 rfl rfl hd fun H' g1 g2 g3 => fin H' ?_ g2 g3
    rw [g1]
    rcases hn with rfl | rfl <;> rfl
theorem gs_last {x : Int64} {i : Int32} {a n : Nat} {f : Nat → Int64} (X : gCx p s m args meth c cc nL own nm D ex) (hd : decode cc pc = .ok (.lastore, 1)) (ha : S.2.2 a = .inl (.long, n, .inr (.inl f))) (h9 : a < 1000000000) (hin : ¬ (i < 0 ∨ n ≤ i.toNatClampNeg))
    (k : gG p l e R s m args below meth c Q nL D B ex H0 n0 u0 (pc + 1) L r (S.1, S.2.1, gset S.2.2 a (.inl (.long, n, .inr (.inl (vp_updL f i.toNatClampNeg x)))))) : gG p l e R s m args below meth c Q nL D B ex H0 n0 u0 pc L (.long x :: .int i :: .ref a :: r) S := by
  intro ls H locs cells slots hL hR hl hc hs
  obtain ⟨hx, hb, hml, hown, hts, hnm, hKN⟩ := X
  obtain ⟨hz, hlt0, cA, k1, k2, k3⟩ := g_arr hR ha h9
  have e1 : gcv B ex (.ref a) = .ref (B + a) := by simp [gcv, g_gal h9]
  simp only [List.map_cons, e1]
  refine W.last hx hb k3 (k1 n (fun j => .long (f j))) (fun q => by cases q) (by show ¬ (i < 0 ∨ (arrV _ _ _).slots.size ≤ _); rw [arrV_size]; exact hin) rfl rfl hd fun H' g1 g2 g3 => ?_
  refine k ls H' _ cells slots hL (gRH_set hR h9 hz ⟨cA, k1, k2, ?_⟩ g2 g3) (g_locs hl) hc hs
  rw [g1]
  refine congrArg some ?_
  show (arrV cA n (fun j => .long (f j))).setSlot i.toNatClampNeg (.long x) = arrV cA n (fun j => .long (vp_updL f i.toNatClampNeg x j))
  rw [arrV_store]
  congr 1
  funext q
  by_cases hq : q = i.toNatClampNeg
  · subst hq
    simp [updV, vp_updL]
  · simp [updV, vp_updL, hq]
theorem gs_aast {v : Nat} {i : Int32} {a n ci : Nat} {C : String} {fs : List Value} {f : Nat → Option Nat} (X : gCx p s m args meth c cc nL own nm D ex) (hd : decode cc pc = .ok (.aastore, 1)) (ha : S.2.2 a = .inl (.object C, n, .inr (.inr (.inr (.inr f))))) (hv : S.2.2 v = .inr (ci, fs)) (hC : (gcl[ci]?.map (fun q => q.1)) = some C) (h9 : a < 1000000000) (hin : ¬ (i < 0 ∨ n ≤ i.toNatClampNeg))
    (k : gG p l e R s m args below meth c Q nL D B ex H0 n0 u0 (pc + 1) L r (S.1, S.2.1, gset S.2.2 a (.inl (.object C, n, .inr (.inr (.inr (.inr (va_up f i.toNatClampNeg (some v))))))))) : gG p l e R s m args below meth c Q nL D B ex H0 n0 u0 pc L (.ref v :: .int i :: .ref a :: r) S := by
  intro ls H locs cells slots hL hR hl hc hs
  obtain ⟨hx, hb, hml, hown, hts, hnm, hKN⟩ := X
  obtain ⟨hz, hlt0, cA, k1, k2, k3⟩ := g_arr hR ha h9
  have e1 : gcv B ex (.ref a) = .ref (B + a) := by simp [gcv, g_gal h9]
  cases hq : gcl[ci]? with
  | none => rw [hq] at hC; cases hC
  | some q =>
    rw [hq] at hC
    have hqC : q.1 = C := Option.some.inj hC
    subst hqC
    have hne : S.2.2 v ≠ gz := by
      rw [hv]
      intro h
      simp only [gz, Sum.inr.injEq, Prod.mk.injEq] at h
      rw [h.1] at hq
      simp [gcl] at hq
    have hv9 : v < 1000000000 := by
      rcases Nat.lt_or_ge v 1000000000 with h | h
      · exact h
      · have := hR.2.2.2.2.2 v h hne
        rw [hv] at this
        exact this.elim
    have hvat := hR.2.2.2.2.1 v hv9 hne
    rw [hv] at hvat
    obtain ⟨hvlt, r', hr', hlen', cellV, g1, g2, g3, -⟩ := hvat
    have e4 : gcv B ex (.ref v) = .ref (B + v) := by simp [gcv, g_gal hv9]
    simp only [List.map_cons, e1, e4]
    have hcls := (hKN.1.1 ci q hq).2
    obtain ⟨kA, comp, t1, t2, t3, t4⟩ := k2
    have hcomp : comp = D.1 ci := Option.some.inj (t3.symm.trans hcls.1)
    subst hcomp
    obtain ⟨kC, hkC, -⟩ := hcls.2
    have hlt : i.toNatClampNeg < n := by omega
    have h0 : ¬ i < 0 := fun z => hin (Or.inl z)
    refine W.aast hx hb k3 (fun q h => by cases h) (fun h => by cases h) t1 t2 rfl hkC ⟨h0, by show _ < (arrV _ _ _).slots.size; rw [arrV_size]; exact hlt⟩ g1 (fun q h => by rw [g3] at h; cases h) (by rw [g2]; exact hkC) (by rw [g2]; exact va_assign hcls) rfl rfl hd fun H1 e z oq => ?_
    refine k ls H1 _ cells slots hL (gRH_set hR h9 hz ⟨cA, k1, ⟨kA, _, t1, t2, t3, t4⟩, ?_⟩ z oq) (g_locs hl) hc hs
    rw [e]
    refine congrArg some ?_
    show (arrV cA n (fun j => va_rf ((f j).map (gal B ex)))).setSlot i.toNatClampNeg (.ref (B + v)) = arrV cA n (fun j => va_rf ((va_up f i.toNatClampNeg (some v) j).map (gal B ex)))
    rw [arrV_store]
    congr 1
    funext j
    by_cases hj : j = i.toNatClampNeg
    · subst hj
      simp [updV, va_up, va_rf, g_gal hv9]
    · simp [updV, va_up, hj]
end GSM
end
section
section GSN
variable {p : Program} {l : Launch} {e : Env} {R : Room} {s : State} {m : MethodId} {args : Array Value} {below : List Frame} {meth : Method} {c : Code} {Q : State → Prop}
variable {cc : ByteArray} {nL : Nat} {own nm : String} {D : va_G} {B : Nat} {ex : Nat → Nat} {H0 : Heap} {n0 u0 : Nat} {pc : Nat} {L : gL} {st r : List Value} {S : gS}
theorem g_len {a b : Nat} (h : (a == b) = true) : a = b := by simpa using h
theorem gs_ldc {idx : Nat} {ax : List Nat} {w : Value} (X : gCx p s m args meth c cc nL own nm D ex) (hd : decode cc pc = .ok (.ldc idx, 2)) (hck : gchkK own idx ax w = true) (hck2 : gisL w = false) (hax : ax ≠ []) (k : gG p l e R s m args below meth c Q nL D B ex H0 n0 u0 (pc + 2) L (w :: st) S) : gG p l e R s m args below meth c Q nL D B ex H0 n0 u0 pc L st S := by
  intro ls H locs cells slots hL hR hl hc hs
  obtain ⟨hx, hb, hml, hown, hts, hnm, hKN⟩ := X
  have kk := k ls H locs cells slots hL hR hl hc hs
  cases ax with
  | nil => exact absurd rfl hax
  | cons ps t => cases t with
    | cons a b => cases hck
    | nil => cases w with
      | int v => exact lv_ldc hx hb hown (hts _ (gtb_good hck (gw_const _ _ _))) hd kk
      | long v => cases hck2
      | ref a =>
        have h5 : own = RX4 ∧ ((idx = 64 ∧ a = 2000000001) ∨ (idx = 52 ∧ a = 2000000002)) := of_decide_eq_true hck
        obtain ⟨rfl, h | h⟩ := h5
        · obtain ⟨rfl, rfl⟩ := h
          exact va_ldcS hx hb hown hKN.2.2.2.1 hd kk
        · obtain ⟨rfl, rfl⟩ := h
          exact va_ldcS hx hb hown hKN.2.2.2.2 hd kk
      | float v => cases hck
      | double v => cases hck
      | null => cases hck
      | retAddr v => cases hck
theorem gs_ldcw {idx : Nat} {ax : List Nat} {w : Value} (X : gCx p s m args meth c cc nL own nm D ex) (hd : decode cc pc = .ok (.ldc_w idx, 3)) (hck : gchkK own idx ax w = true) (hck2 : gisI w = true) (hax : ax ≠ []) (k : gG p l e R s m args below meth c Q nL D B ex H0 n0 u0 (pc + 3) L (w :: st) S) : gG p l e R s m args below meth c Q nL D B ex H0 n0 u0 pc L st S := by
  intro ls H locs cells slots hL hR hl hc hs
  obtain ⟨hx, hb, hml, hown, hts, hnm, hKN⟩ := X
  have kk := k ls H locs cells slots hL hR hl hc hs
  cases ax with
  | nil => exact absurd rfl hax
  | cons ps t => cases t with
    | cons a b => cases hck
    | nil => cases w with
      | int v => exact lv_ldcw hx hb hown (hts _ (gtb_good hck (gw_const _ _ _))) hd kk
      | long v => cases hck2
      | ref a => cases hck2
      | float v => cases hck
      | double v => cases hck
      | null => cases hck
      | retAddr v => cases hck
theorem gs_ldc2 {idx : Nat} {ax : List Nat} {w : Value} (X : gCx p s m args meth c cc nL own nm D ex) (hd : decode cc pc = .ok (.ldc2_w idx, 3)) (hck : gchkK own idx ax w = true) (hck2 : gisL w = true) (hax : ax ≠ []) (k : gG p l e R s m args below meth c Q nL D B ex H0 n0 u0 (pc + 3) L (w :: st) S) : gG p l e R s m args below meth c Q nL D B ex H0 n0 u0 pc L st S := by
  intro ls H locs cells slots hL hR hl hc hs
  obtain ⟨hx, hb, hml, hown, hts, hnm, hKN⟩ := X
  have kk := k ls H locs cells slots hL hR hl hc hs
  cases ax with
  | nil => exact absurd rfl hax
  | cons ps t => cases t with
    | cons a b => cases hck
    | nil => cases w with
      | int v => cases hck2
      | long v => exact lv_ldc2 hx hb hown (hts _ (gtb_good hck (gw_constL _ _ _))) hd kk
      | ref a => cases hck2
      | float v => cases hck
      | double v => cases hck
      | null => cases hck
      | retAddr v => cases hck
theorem g_sw {x lo hi : Int} {ax : List Nat} {offs : Array Int} {d : Int} (h1 : (pc : Int) + d = (gax ax 0 : Int)) (h2 : offs.toList.map (fun o => (pc : Int) + o) = ax.tail.map Int.ofNat) (h3 : (offs.size : Int) = hi - lo + 1) :
    (x < lo ∨ hi < x) ∧ gsw x lo hi ax = gax ax 0 ∨ ¬ x < lo ∧ ¬ hi < x ∧ ∃ off, offs[(x - lo).toNat]? = some off ∧ (pc : Int) + off = (gsw x lo hi ax : Int) := by
  by_cases h : x < lo ∨ hi < x
  · exact Or.inl ⟨h, by simp [gsw, h]⟩
  · right
    have hlt : (x - lo).toNat < offs.size := by omega
    refine ⟨fun z => h (Or.inl z), fun z => h (Or.inr z), offs[(x - lo).toNat], by simp [hlt], ?_⟩
    simp only [gsw, h, if_false]
    cases ax with
    | nil =>
      have h4 := congrArg List.length h2
      simp only [List.length_map, Array.length_toList, List.tail_nil, List.length_nil] at h4
      omega
    | cons a t =>
      simp only [List.tail_cons] at h2
      simp only [gax]
      have e1 : (offs.toList.map (fun o => (pc : Int) + o))[(x - lo).toNat]? = some ((pc : Int) + offs[(x - lo).toNat]) := by
        rw [List.getElem?_map]
        simp [hlt]
      rw [h2, List.getElem?_map] at e1
      have key : ∀ (t : List Nat) (n : Nat) (z : Int), Option.map Int.ofNat t[n]? = some z → z = (gax t n : Int) := by
        intro t
        induction t with
        | nil => intro n z h; simp at h
        | cons b t ih =>
          intro n z h
          cases n with
          | zero => simp at h; simp [gax, h]
          | succ n => simp only [List.getElem?_cons_succ] at h; simpa [gax] using ih n z h
      exact key t _ _ e1
set_option maxHeartbeats 4000000 in
theorem gstep_sim {i : Instr} {len : Nat} {ax : List Nat} {w : Value} {o : Nat × gL × List Value × gS} (X : gCx p s m args meth c cc nL own nm D ex) (hst : gstep i len ax w pc L st S = some o) (hd : decode cc pc = .ok (i, len)) (hck : gchk own nm (pc, i, len, ax, w) = true) (hr1 : o.2.2.2.1 ≤ n0 + R.cells) (hr2 : o.2.2.2.2.1 ≤ u0 + R.slots) (k : gG p l e R s m args below meth c Q nL D B ex H0 n0 u0 o.1 o.2.1 o.2.2.1 o.2.2.2) : gG p l e R s m args below meth c Q nL D B ex H0 n0 u0 pc L st S := by
  have X0 := X
  obtain ⟨hx, hb, hml, hown, hts, hnm, hKN⟩ := X0
  cases i
  case iconst n =>
    simp only [gchk, Bool.and_eq_true, decide_eq_true_eq] at hck
    obtain ⟨h1, rfl⟩ := hck
    have h1 := g_len h1
    subst h1
    have ho := gpush_inv hst
    subst ho
    exact fun ls H locs cells slots hL hR hl hc hs => lv_iconst hx hb hd rfl (k ls H locs cells slots hL hR hl hc hs)
  case lconst n =>
    simp only [gchk, Bool.and_eq_true, decide_eq_true_eq] at hck
    obtain ⟨h1, rfl⟩ := hck
    have h1 := g_len h1
    subst h1
    have ho := gpush_inv hst
    subst ho
    exact fun ls H locs cells slots hL hR hl hc hs => lv_lconst hx hb hd rfl (k ls H locs cells slots hL hR hl hc hs)
  case bipush n =>
    simp only [gchk, Bool.and_eq_true, decide_eq_true_eq] at hck
    obtain ⟨h1, rfl⟩ := hck
    have h1 := g_len h1
    subst h1
    have ho := gpush_inv hst
    subst ho
    exact fun ls H locs cells slots hL hR hl hc hs => lv_bipush hx hb hd rfl (k ls H locs cells slots hL hR hl hc hs)
  case sipush n =>
    simp only [gchk, Bool.and_eq_true, decide_eq_true_eq] at hck
    obtain ⟨h1, rfl⟩ := hck
    have h1 := g_len h1
    subst h1
    have ho := gpush_inv hst
    subst ho
    exact fun ls H locs cells slots hL hR hl hc hs => lv_sipush hx hb hd rfl (k ls H locs cells slots hL hR hl hc hs)
  case ldc n =>
    simp only [gchk, Bool.and_eq_true] at hck
    obtain ⟨h1, h2, h3⟩ := hck
    have h1 := g_len h1
    subst h1
    cases ax with
    | nil => cases hst
    | cons a t =>
      have ho := gpush_inv (len := 2) hst
      subst ho
      exact gs_ldc X hd h2 (by simpa using h3) (by simp) k
  case ldc_w n =>
    simp only [gchk, Bool.and_eq_true] at hck
    obtain ⟨h1, h2, h3⟩ := hck
    have h1 := g_len h1
    subst h1
    cases ax with
    | nil => cases hst
    | cons a t =>
      have ho := gpush_inv (len := 3) hst
      subst ho
      exact gs_ldcw X hd h2 h3 (by simp) k
  case ldc2_w n =>
    simp only [gchk, Bool.and_eq_true] at hck
    obtain ⟨h1, h2, h3⟩ := hck
    have h1 := g_len h1
    subst h1
    cases ax with
    | nil => cases hst
    | cons a t =>
      have ho := gpush_inv (len := 3) hst
      subst ho
      exact gs_ldc2 X hd h2 h3 (by simp) k
  case iload_n n =>
    simp only [gchk, Bool.and_eq_true] at hck
    obtain ⟨h1, h2⟩ := hck
    have h1 := g_len h1
    subst h1
    obtain ⟨x, hg, rfl⟩ := giload_inv hst
    exact fun ls H locs cells slots hL hR hl hc hs => lv_iload_n hx hb hd (Nat.eq_of_beq_eq_true h2) (hL.2.2.2 _ _ hg) (k ls H locs cells slots hL hR hl hc hs)
  case lload_n n =>
    simp only [gchk, Bool.and_eq_true] at hck
    obtain ⟨h1, h2⟩ := hck
    have h1 := g_len h1
    subst h1
    obtain ⟨x, hg, rfl⟩ := glload_inv hst
    exact fun ls H locs cells slots hL hR hl hc hs => lv_lload_n hx hb hd (Nat.eq_of_beq_eq_true h2) (hL.2.2.2 _ _ hg) (k ls H locs cells slots hL hR hl hc hs)
  case aload_n n =>
    simp only [gchk, Bool.and_eq_true] at hck
    obtain ⟨h1, h2⟩ := hck
    have h1 := g_len h1
    subst h1
    obtain ⟨x, hg, rfl⟩ := galoadL_inv hst
    exact fun ls H locs cells slots hL hR hl hc hs => lv_aload_n hx hb hd (Nat.eq_of_beq_eq_true h2) (hL.2.2.2 _ _ hg) (k ls H locs cells slots hL hR hl hc hs)
  case iload n =>
    simp only [gchk, Bool.and_eq_true] at hck
    obtain ⟨h1, h2⟩ := hck
    have h1 := g_len h1
    subst h1
    have h2 := Nat.eq_of_beq_eq_true h2
    obtain ⟨x, hg, rfl⟩ := giload_inv hst
    rw [← h2] at hg
    exact fun ls H locs cells slots hL hR hl hc hs => lv_iload hx hb hd (hL.2.2.2 _ _ hg) (k ls H locs cells slots hL hR hl hc hs)
  case lload n =>
    simp only [gchk, Bool.and_eq_true] at hck
    obtain ⟨h1, h2⟩ := hck
    have h1 := g_len h1
    subst h1
    have h2 := Nat.eq_of_beq_eq_true h2
    obtain ⟨x, hg, rfl⟩ := glload_inv hst
    rw [← h2] at hg
    exact fun ls H locs cells slots hL hR hl hc hs => lv_lload hx hb hd (hL.2.2.2 _ _ hg) (k ls H locs cells slots hL hR hl hc hs)
  case aload n =>
    simp only [gchk, Bool.and_eq_true] at hck
    obtain ⟨h1, h2⟩ := hck
    have h1 := g_len h1
    subst h1
    have h2 := Nat.eq_of_beq_eq_true h2
    obtain ⟨x, hg, rfl⟩ := galoadL_inv hst
    rw [← h2] at hg
    exact fun ls H locs cells slots hL hR hl hc hs => lv_aload hx hb hd (hL.2.2.2 _ _ hg) (k ls H locs cells slots hL hR hl hc hs)
  case istore_n n =>
    simp only [gchk, Bool.and_eq_true] at hck
    obtain ⟨h1, h2⟩ := hck
    have h1 := g_len h1
    subst h1
    obtain ⟨x, r, rfl, hok, hlt, rfl⟩ := gistore_inv hst
    exact fun ls H locs cells slots hL hR hl hc hs => lv_istore_n hx hb hd (Nat.eq_of_beq_eq_true h2) (gLR_has hL) (by rw [← hL.2.1]; exact hlt) rfl (fun ls2 hl2 => k ls2 H locs cells slots (gLR_store1 hL hlt hok hl2) hR hl hc hs)
  case astore_n n =>
    simp only [gchk, Bool.and_eq_true] at hck
    obtain ⟨h1, h2⟩ := hck
    have h1 := g_len h1
    subst h1
    obtain ⟨x, r, rfl, hok, hlt, rfl⟩ := gastoreL_inv hst
    exact fun ls H locs cells slots hL hR hl hc hs => lv_astore_n hx hb hd (Nat.eq_of_beq_eq_true h2) (gLR_has hL) (by rw [← hL.2.1]; exact hlt) rfl (fun ls2 hl2 => k ls2 H locs cells slots (gLR_store1 hL hlt hok hl2) hR hl hc hs)
  case lstore_n n =>
    simp only [gchk, Bool.and_eq_true] at hck
    obtain ⟨h1, h2⟩ := hck
    have h1 := g_len h1
    subst h1
    obtain ⟨x, r, rfl, hok, hlt, rfl⟩ := glstore_inv hst
    exact fun ls H locs cells slots hL hR hl hc hs => lv_lstore_n hx hb hd (Nat.eq_of_beq_eq_true h2) (gLR_has hL) (by rw [← hL.2.1]; exact hlt) rfl (fun ls2 hl2 => k ls2 H locs cells slots (gLR_store2 hL hlt hok hl2) hR hl hc hs)
  case istore n =>
    simp only [gchk, Bool.and_eq_true] at hck
    obtain ⟨h1, h2⟩ := hck
    have h1 := g_len h1
    subst h1
    have h2 := Nat.eq_of_beq_eq_true h2
    subst h2
    obtain ⟨x, r, rfl, hok, hlt, rfl⟩ := gistore_inv hst
    exact fun ls H locs cells slots hL hR hl hc hs => lv_istore hx hb hd (gLR_has hL) (by rw [← hL.2.1]; exact hlt) rfl (fun ls2 hl2 => k ls2 H locs cells slots (gLR_store1 hL hlt hok hl2) hR hl hc hs)
  case astore n =>
    simp only [gchk, Bool.and_eq_true] at hck
    obtain ⟨h1, h2⟩ := hck
    have h1 := g_len h1
    subst h1
    have h2 := Nat.eq_of_beq_eq_true h2
    subst h2
    obtain ⟨x, r, rfl, hok, hlt, rfl⟩ := gastoreL_inv hst
    exact fun ls H locs cells slots hL hR hl hc hs => lv_astore hx hb hd (gLR_has hL) (by rw [← hL.2.1]; exact hlt) rfl (fun ls2 hl2 => k ls2 H locs cells slots (gLR_store1 hL hlt hok hl2) hR hl hc hs)
  case lstore n =>
    simp only [gchk, Bool.and_eq_true] at hck
    obtain ⟨h1, h2⟩ := hck
    have h1 := g_len h1
    subst h1
    have h2 := Nat.eq_of_beq_eq_true h2
    subst h2
    obtain ⟨x, r, rfl, hok, hlt, rfl⟩ := glstore_inv hst
    exact fun ls H locs cells slots hL hR hl hc hs => lv_lstore hx hb hd (gLR_has hL) (by rw [← hL.2.1]; exact hlt) rfl (fun ls2 hl2 => k ls2 H locs cells slots (gLR_store2 hL hlt hok hl2) hR hl hc hs)
  case iinc n z =>
    simp only [gchk, Bool.and_eq_true, decide_eq_true_eq] at hck
    obtain ⟨h1, h2, rfl⟩ := hck
    have h1 := g_len h1
    subst h1
    have h2 := Nat.eq_of_beq_eq_true h2
    subst h2
    obtain ⟨x, y, hg, hw, hok, hlt, rfl⟩ := giinc_inv hst
    cases hw
    intro ls H locs cells slots hL hR hl hc hs
    have hm : (gax ax 0, Value.int x) ∈ gpl B ex 0 L := (mem_gpl L 0 _ _).mpr ⟨gax ax 0, .int x, by omega, hg, rfl⟩
    obtain ⟨kq, hkq⟩ := List.getElem?_of_mem hm
    exact lv_iinc hx hb hd (gLR_has hL) hkq rfl (by rw [← hL.2.1]; exact hlt) rfl (fun ls2 hl2 => k ls2 H locs cells slots (gLR_store1 hL hlt hok hl2) hR hl hc hs)
  case iadd =>
    have h1 := g_len hck
    subst h1
    obtain ⟨x, y, r, rfl, rfl⟩ := gii_inv hst
    exact fun ls H locs cells slots hL hR hl hc hs => lv_iadd hx hb hd (k ls H locs cells slots hL hR hl hc hs)
  case isub =>
    have h1 := g_len hck
    subst h1
    obtain ⟨x, y, r, rfl, rfl⟩ := gii_inv hst
    exact fun ls H locs cells slots hL hR hl hc hs => lv_isub hx hb hd (k ls H locs cells slots hL hR hl hc hs)
  case imul =>
    have h1 := g_len hck
    subst h1
    obtain ⟨x, y, r, rfl, rfl⟩ := gii_inv hst
    exact fun ls H locs cells slots hL hR hl hc hs => lv_imul hx hb hd (k ls H locs cells slots hL hR hl hc hs)
  case iand =>
    have h1 := g_len hck
    subst h1
    obtain ⟨x, y, r, rfl, rfl⟩ := gii_inv hst
    exact fun ls H locs cells slots hL hR hl hc hs => lv_iand hx hb hd (k ls H locs cells slots hL hR hl hc hs)
  case ior =>
    have h1 := g_len hck
    subst h1
    obtain ⟨x, y, r, rfl, rfl⟩ := gii_inv hst
    exact fun ls H locs cells slots hL hR hl hc hs => lv_ior hx hb hd (k ls H locs cells slots hL hR hl hc hs)
  case ixor =>
    have h1 := g_len hck
    subst h1
    obtain ⟨x, y, r, rfl, rfl⟩ := gii_inv hst
    exact fun ls H locs cells slots hL hR hl hc hs => lv_ixor hx hb hd (k ls H locs cells slots hL hR hl hc hs)
  case ishl =>
    have h1 := g_len hck
    subst h1
    obtain ⟨x, y, r, rfl, rfl⟩ := gii_inv hst
    exact fun ls H locs cells slots hL hR hl hc hs => lv_ishl hx hb hd (k ls H locs cells slots hL hR hl hc hs)
  case ishr =>
    have h1 := g_len hck
    subst h1
    obtain ⟨x, y, r, rfl, rfl⟩ := gii_inv hst
    exact fun ls H locs cells slots hL hR hl hc hs => lv_ishr hx hb hd (k ls H locs cells slots hL hR hl hc hs)
  case iushr =>
    have h1 := g_len hck
    subst h1
    obtain ⟨x, y, r, rfl, rfl⟩ := gii_inv hst
    exact fun ls H locs cells slots hL hR hl hc hs => lv_iushr hx hb hd rfl (k ls H locs cells slots hL hR hl hc hs)
  case ladd =>
    have h1 := g_len hck
    subst h1
    obtain ⟨x, y, r, rfl, rfl⟩ := gll_inv hst
    exact fun ls H locs cells slots hL hR hl hc hs => lv_ladd hx hb hd (k ls H locs cells slots hL hR hl hc hs)
  case lsub =>
    have h1 := g_len hck
    subst h1
    obtain ⟨x, y, r, rfl, rfl⟩ := gll_inv hst
    exact fun ls H locs cells slots hL hR hl hc hs => lv_lsub hx hb hd (k ls H locs cells slots hL hR hl hc hs)
  case lmul =>
    have h1 := g_len hck
    subst h1
    obtain ⟨x, y, r, rfl, rfl⟩ := gll_inv hst
    exact fun ls H locs cells slots hL hR hl hc hs => lv_lmul hx hb hd (k ls H locs cells slots hL hR hl hc hs)
  case land =>
    have h1 := g_len hck
    subst h1
    obtain ⟨x, y, r, rfl, rfl⟩ := gll_inv hst
    exact fun ls H locs cells slots hL hR hl hc hs => lv_land hx hb hd (k ls H locs cells slots hL hR hl hc hs)
  case lor =>
    have h1 := g_len hck
    subst h1
    obtain ⟨x, y, r, rfl, rfl⟩ := gll_inv hst
    exact fun ls H locs cells slots hL hR hl hc hs => lv_lor hx hb hd (k ls H locs cells slots hL hR hl hc hs)
  case lshl =>
    have h1 := g_len hck
    subst h1
    obtain ⟨x, y, r, rfl, rfl⟩ := gli_inv hst
    exact fun ls H locs cells slots hL hR hl hc hs => lv_lshl hx hb hd rfl (k ls H locs cells slots hL hR hl hc hs)
  case lshr =>
    have h1 := g_len hck
    subst h1
    obtain ⟨x, y, r, rfl, rfl⟩ := gli_inv hst
    exact fun ls H locs cells slots hL hR hl hc hs => lv_lshr hx hb hd rfl (k ls H locs cells slots hL hR hl hc hs)
  case lushr =>
    have h1 := g_len hck
    subst h1
    obtain ⟨x, y, r, rfl, rfl⟩ := gli_inv hst
    exact fun ls H locs cells slots hL hR hl hc hs => lv_lushr hx hb hd rfl (k ls H locs cells slots hL hR hl hc hs)
  case idiv =>
    have h1 := g_len hck
    subst h1
    simp only [gstep] at hst
    split at hst
    · split at hst
      · cases hst
      · rename_i hne
        cases hst
        exact fun ls H locs cells slots hL hR hl hc hs => lv_idiv hx hb hd hne (k ls H locs cells slots hL hR hl hc hs)
    · cases hst
  case irem =>
    have h1 := g_len hck
    subst h1
    simp only [gstep] at hst
    split at hst
    · split at hst
      · cases hst
      · rename_i hne
        cases hst
        exact fun ls H locs cells slots hL hR hl hc hs => lv_irem hx hb hd hne (k ls H locs cells slots hL hR hl hc hs)
    · cases hst
  case ldiv =>
    have h1 := g_len hck
    subst h1
    simp only [gstep] at hst
    split at hst
    · split at hst
      · cases hst
      · rename_i hne
        cases hst
        exact fun ls H locs cells slots hL hR hl hc hs => lv_ldiv hx hb hd hne (k ls H locs cells slots hL hR hl hc hs)
    · cases hst
  case lcmp =>
    have h1 := g_len hck
    subst h1
    simp only [gstep] at hst
    split at hst
    · cases hst
      exact fun ls H locs cells slots hL hR hl hc hs => W.lcmp hx hb hd (k ls H locs cells slots hL hR hl hc hs)
    · cases hst
  case i2l =>
    have h1 := g_len hck
    subst h1
    simp only [gstep] at hst
    split at hst
    · cases hst
      exact fun ls H locs cells slots hL hR hl hc hs => lv_i2l hx hb hd rfl (k ls H locs cells slots hL hR hl hc hs)
    · cases hst
  case l2i =>
    have h1 := g_len hck
    subst h1
    simp only [gstep] at hst
    split at hst
    · cases hst
      exact fun ls H locs cells slots hL hR hl hc hs => lv_l2i hx hb hd rfl (k ls H locs cells slots hL hR hl hc hs)
    · cases hst
  case i2c =>
    have h1 := g_len hck
    subst h1
    simp only [gstep] at hst
    split at hst
    · cases hst
      exact fun ls H locs cells slots hL hR hl hc hs => lv_i2c hx hb hd rfl (k ls H locs cells slots hL hR hl hc hs)
    · cases hst
  case dup =>
    have h1 := g_len hck
    subst h1
    simp only [gstep] at hst
    split at hst
    · cases hst
      exact fun ls H locs cells slots hL hR hl hc hs => lv_dup hx hb hd rfl (k ls H locs cells slots hL hR hl hc hs)
    · cases hst
      exact fun ls H locs cells slots hL hR hl hc hs => lv_dup hx hb hd rfl (k ls H locs cells slots hL hR hl hc hs)
    · cases hst
  case dup2 =>
    have h1 := g_len hck
    subst h1
    simp only [gstep] at hst
    split at hst
    · cases hst
      exact fun ls H locs cells slots hL hR hl hc hs => lv_dup2_11 hx hb hd rfl rfl (k ls H locs cells slots hL hR hl hc hs)
    · cases hst
  case ifCond cn off =>
    simp only [gchk, Bool.and_eq_true, decide_eq_true_eq] at hck
    obtain ⟨h1, h2⟩ := hck
    have h1 := g_len h1
    subst h1
    simp only [gstep] at hst
    split at hst
    · cases hst
      intro ls H locs cells slots hL hR hl hc hs
      have kk := k ls H locs cells slots hL hR hl hc hs
      cases cn
      · exact lv_if_eq hx hb hd h2 (fun hq => by simpa only [gbr, if_pos hq] using kk) (fun hq => by simpa only [gbr, if_neg hq] using kk)
      · exact lv_if_ne hx hb hd h2 (fun hq => by simpa only [gbr, if_pos hq] using kk) (fun hq => by simpa only [gbr, if_neg (not_not_intro hq)] using kk)
      · exact lv_if_lt hx hb hd h2 (fun hq => by simpa only [gbr, if_pos hq] using kk) (fun hq => by simpa only [gbr, if_neg hq] using kk)
      · exact lv_if_ge hx hb hd h2 (fun hq => by simpa only [gbr, if_pos hq] using kk) (fun hq => by simpa only [gbr, if_neg hq] using kk)
      · exact lv_if_gt hx hb hd h2 (fun hq => by simpa only [gbr, if_pos hq] using kk) (fun hq => by simpa only [gbr, if_neg hq] using kk)
      · exact lv_if_le hx hb hd h2 (fun hq => by simpa only [gbr, if_pos hq] using kk) (fun hq => by simpa only [gbr, if_neg hq] using kk)
    · cases hst
  case if_icmp cn off =>
    simp only [gchk, Bool.and_eq_true, decide_eq_true_eq] at hck
    obtain ⟨h1, h2⟩ := hck
    have h1 := g_len h1
    subst h1
    simp only [gstep] at hst
    split at hst
    · cases hst
      intro ls H locs cells slots hL hR hl hc hs
      have kk := k ls H locs cells slots hL hR hl hc hs
      cases cn
      · exact lv_icmp_eq hx hb hd h2 (fun hq => by simpa only [gbr, if_pos hq] using kk) (fun hq => by simpa only [gbr, if_neg hq] using kk)
      · exact lv_icmp_ne hx hb hd h2 (fun hq => by simpa only [gbr, if_pos hq] using kk) (fun hq => by simpa only [gbr, if_neg (not_not_intro hq)] using kk)
      · exact lv_icmp_lt hx hb hd h2 (fun hq => by simpa only [gbr, if_pos hq] using kk) (fun hq => by simpa only [gbr, if_neg hq] using kk)
      · exact lv_icmp_ge hx hb hd h2 (fun hq => by simpa only [gbr, if_pos hq] using kk) (fun hq => by simpa only [gbr, if_neg hq] using kk)
      · exact lv_icmp_gt hx hb hd h2 (fun hq => by simpa only [gbr, if_pos hq] using kk) (fun hq => by simpa only [gbr, if_neg hq] using kk)
      · exact lv_icmp_le hx hb hd h2 (fun hq => by simpa only [gbr, if_pos hq] using kk) (fun hq => by simpa only [gbr, if_neg hq] using kk)
    · cases hst
  case goto off =>
    simp only [gchk, Bool.and_eq_true, decide_eq_true_eq] at hck
    obtain ⟨h1, h2⟩ := hck
    have h1 := g_len h1
    subst h1
    cases hst
    exact fun ls H locs cells slots hL hR hl hc hs => lv_goto hx hb hd h2 (k ls H locs cells slots hL hR hl hc hs)
  case tableswitch d lo hi offs =>
    simp only [gchk, Bool.and_eq_true, decide_eq_true_eq] at hck
    obtain ⟨⟨h1, h2⟩, h3⟩ := hck
    simp only [gstep] at hst
    split at hst
    · rename_i x r
      cases hst
      intro ls H locs cells slots hL hR hl hc hs
      have kk := k ls H locs cells slots hL hR hl hc hs
      rcases g_sw (x := x.toInt) h1 h2 h3 with ⟨ho, he⟩ | ⟨ho1, ho2, off, he1, he2⟩
      · dsimp only at kk
        rw [he] at kk
        exact lv_tableOut hx hb hd ho h1 kk
      · exact lv_tableIn hx hb hd ho1 ho2 he1 he2 kk
    · cases hst
  case getfield idx =>
    simp only [gstep] at hst
    split at hst
    · rename_i ci sl ne ps
      have hc2 : gchkF own nm false idx len [ci, sl, ne, ps] = true := hck
      have h1 : len = 3 := by simp only [gchkF, Bool.and_eq_true] at hc2; exact g_len hc2.1
      subst h1
      obtain ⟨a, r, fs, v, rfl, ha, hv, rfl⟩ := gget_inv hst
      exact gs_get X hd hc2 ha hv k
    · cases hst
  case putfield idx =>
    simp only [gstep] at hst
    split at hst
    · rename_i ci sl ne ps
      have hc2 : gchkF own nm true idx len [ci, sl, ne, ps] = true := hck
      have h1 : len = 3 := by simp only [gchkF, Bool.and_eq_true] at hc2; exact g_len hc2.1
      subst h1
      obtain ⟨v, a, r, fs, rfl, ha, hs2, hf, rfl⟩ := gput_inv hst
      exact gs_put X hd hc2 ha hs2 hf k
    · cases hst
  case new idx =>
    simp only [gstep] at hst
    split at hst
    · rename_i ci ps
      obtain ⟨q, hq, hn, rfl⟩ := gnew_inv hst
      simp only [gchk, hq, Bool.and_eq_true] at hck
      have h1 := g_len hck.1
      subst h1
      exact gs_new X hd hq hck.2 hn hr1 hr2 k
    · cases hst
  case anewarray idx =>
    simp only [gstep] at hst
    split at hst
    · rename_i ci ps
      obtain ⟨n, r, q, rfl, h0, h9, hn, hq, rfl⟩ := gnewq_inv hst
      simp only [gchk, hq, Bool.and_eq_true, decide_eq_true_eq] at hck
      have h1 := g_len hck.1
      subst h1
      exact gs_newq X hd hck.2.1 hck.2.2 h0 h9 hn hr1 hr2 k
    · cases hst
  case newarray t =>
    simp only [gstep, gnewa] at hst
    split at hst
    · rename_i n r
      split at hst
      · cases hst
      · rename_i hcn
        have h0 : ¬ n < 0 := fun z => hcn (Or.inl z)
        have h9 : n.toNatClampNeg ≤ 1000000 := by omega
        have hn : S.1 < 1000000 := by omega
        simp only [gchk, Bool.and_eq_true] at hck
        obtain ⟨h1, h2⟩ := hck
        have h1 := g_len h1
        subst h1
        split at h2
        · split at hst
          · cases hst
            exact gs_newa X hd h2 rfl (fun _ _ h => h) (fun _ => rfl) h0 h9 (by decide) hn hr1 hr2 k
          · cases hst
            exact gs_newa X hd h2 rfl (fun _ _ h => h) (fun _ => rfl) h0 h9 (by decide) hn hr1 hr2 k
          · cases hst
            exact gs_newa X hd h2 rfl (fun _ _ h => h) (fun _ => rfl) h0 h9 (by decide) hn hr1 hr2 k
          · cases hst
            exact gs_newa X hd h2 rfl (fun _ _ h => h) (fun _ => rfl) h0 h9 (by decide) hn hr1 hr2 k
          · cases hst
        · cases h2
    · cases hst
  case iaload =>
    have h1 := g_len hck
    subst h1
    obtain ⟨i, a, r, n, f, rfl, ha, hin, rfl⟩ := giald_inv hst
    exact gs_iald X (Or.inl ⟨rfl, hd⟩) ha hin k
  case caload =>
    have h1 := g_len hck
    subst h1
    obtain ⟨i, a, r, n, f, rfl, ha, hin, rfl⟩ := giald_inv hst
    exact gs_iald X (Or.inr (Or.inl ⟨rfl, hd⟩)) ha hin k
  case baload =>
    have h1 := g_len hck
    subst h1
    obtain ⟨i, a, r, t, n, f, rfl, ht, ha, hin, rfl⟩ := gbald_inv hst
    rcases ht with rfl | rfl
    · exact gs_iald X (Or.inr (Or.inr (Or.inl ⟨rfl, hd⟩))) ha hin k
    · exact gs_iald X (Or.inr (Or.inr (Or.inr ⟨rfl, hd⟩))) ha hin k
  case laload =>
    have h1 := g_len hck
    subst h1
    obtain ⟨i, a, r, n, f, rfl, ha, hin, rfl⟩ := glald_inv hst
    exact gs_lald X hd ha hin k
  case aaload =>
    have h1 := g_len hck
    subst h1
    obtain ⟨i, a, r, C, n, f, rfl, ha, hin, rfl⟩ := gaald_inv hst
    exact gs_aald X hd ha hin k
  case iastore =>
    have h1 := g_len hck
    subst h1
    obtain ⟨x, i, a, r, n, f, rfl, ha, hin, hok, h9, rfl⟩ := giast_inv hst
    exact gs_iast X (Or.inl ⟨rfl, hd⟩) ha h9 hin k
  case castore =>
    have h1 := g_len hck
    subst h1
    obtain ⟨x, i, a, r, n, f, rfl, ha, hin, hok, h9, rfl⟩ := giast_inv hst
    exact gs_iast X (Or.inr (Or.inl ⟨rfl, hd, hok⟩)) ha h9 hin k
  case bastore =>
    have h1 := g_len hck
    subst h1
    obtain ⟨x, i, a, r, n, f, rfl, ha, hin, hok, h9, rfl⟩ := giast_inv hst
    exact gs_iast X (Or.inr (Or.inr ⟨rfl, hd, hok⟩)) ha h9 hin k
  case lastore =>
    have h1 := g_len hck
    subst h1
    obtain ⟨x, i, a, r, n, f, rfl, ha, hin, h9, rfl⟩ := glast_inv hst
    exact gs_last X hd ha h9 hin k
  case aastore =>
    have h1 := g_len hck
    subst h1
    obtain ⟨v, i, a, r, C, n, f, ci, fs, rfl, ha, hv, hC, hin, h9, rfl⟩ := gaast_inv hst
    exact gs_aast X hd ha hv hC h9 hin k
  case arraylength =>
    have h1 := g_len hck
    subst h1
    obtain ⟨a, r, t, n, x, rfl, ha, rfl⟩ := galen_inv hst
    exact gs_alen X hd ha k
  all_goals (have h9 : (none : gO) = some o := hst; cases h9)
end GSN
end
section
/-! ===== calls ===== -/
def gchkJ (MT : List gR) (own : String) (kd idx len : Nat) (ax : List Nat) : Bool := match ax with
  | [j, na, ne, ps, p1, p2] => len == 3 && (match MT[j]? with
    | none => false
    | some cr => (bif Nat.beq ne 0 then gtb ps (.methodLink own idx cr.1) else gtb ps (.methodLinkNest own idx cr.1 RX9)) && (decide ((parseMethodDescriptor cr.1.desc).map (fun d => d.parameters.length) = some (na - (if kd = 0 then 0 else 1))) && (decide (kd = 0 ∨ 1 ≤ na) &&
      (match kd with
        | 0 => gtb p1 (.static cr.1)
        | 1 => gtb p1 (.instanceMethod cr.1) && decide (lw_tbl[p2]? = some (.selects cr.1.cls cr.1 cr.1))
        | _ => gtb p1 (.instanceMethod cr.1) && decide (cr.1.name = "<init>" ∧ cr.2.2.2.1 = none)))))
  | _ => false
def gchkB (own : String) (kd idx len : Nat) (ax : List Nat) : Bool := match ax with
  | [j, na, ne, ps, _, _] => len == 3 && (decide ((j, kd, na, ne) ∈ [(1000, 2, 1, 0), (1001, 1, 2, 0), (1002, 1, 2, 0), (1003, 0, 4, 0)]) && gtb ps (.methodLink own idx (match j with
    | 1000 => objectInit
    | 1001 => ⟨"java/lang/String", "charAt", "(I)C"⟩
    | 1002 => ⟨"java/lang/String", "indexOf", "(I)I"⟩
    | _ => ⟨"GiftShopsLaw", "look", "(LGiftShops;II[J)I"⟩)))
  | _ => false
def gchkA (MT : List gR) (own : String) (kd idx len : Nat) (ax : List Nat) : Bool := match ax with
  | [] => true
  | j :: r => bif Nat.ble 1000 j then gchkB own kd idx len (j :: r) else gchkJ MT own kd idx len (j :: r)
def gchkI (MT : List gR) (own : String) (q : Nat × gI) : Bool := match q with
  | (_, i, len, ax, _) => match i with
    | .invokevirtual idx => gchkA MT own 1 idx len ax
    | .invokespecial idx => gchkA MT own 2 idx len ax
    | .invokestatic idx => gchkA MT own 0 idx len ax
    | _ => true
def gMOK (MT : List gR) (row : gR) : Prop := Cond.code row.1 row.2.1 row.2.2.1 row.2.2.2.1 ∈ gGW ∧ Cond.initialized row.1.cls ∈ gGW ∧ plainName row.1.cls = true ∧ (row.1.cls ≠ "java/lang/invoke/MethodHandle" ∧ row.1.cls ≠ "java/lang/invoke/VarHandle") ∧ (∀ q ∈ row.2.2.2.2, decode row.2.1 q.1 = .ok (q.2.1, q.2.2.1)) ∧ (∀ q ∈ row.2.2.2.2, gchk row.1.cls row.1.name q = true) ∧ (∀ q ∈ row.2.2.2.2, gchkI MT row.1.cls q = true) ∧ row.2.2.1 ≤ 20
theorem glook_mem : ∀ {code : List (Nat × gI)} {pc : Nat} {i : gI}, glook code pc = some i → (pc, i) ∈ code := by
  intro code
  induction code with
  | nil => intro pc i h; cases h
  | cons q r ih =>
    intro pc i h
    simp only [glook] at h
    cases hb : Nat.beq q.1 pc with
    | true =>
      rw [hb] at h
      simp only [cond_true] at h
      have e : q.1 = pc := Nat.eq_of_beq_eq_true hb
      subst e
      cases h
      exact List.mem_cons_self
    | false =>
      rw [hb] at h
      exact List.mem_cons_of_mem _ (ih h)
def gPc (D : va_G) (B : Nat) (ex : Nat → Nat) (H0 : Heap) (as : List Value) (S : gS) : Array Value → State → Prop := fun a U => a = (as.map (gcv B ex)).toArray ∧ gKN D ex U ∧ gRH D U B ex H0 S U.heap
def gQc (D : va_G) (B : Nat) (ex : Nat → Nat) (H0 : Heap) (v : Option Value) (S' : gS) : Array Value → State → Outcome → State → Prop := fun _ _ o t => o = .returned (v.map (gcv B ex)) ∧ gRH D t B ex H0 S' t.heap
def grm (d : Nat) (S S' : gS) : Room := { frames := d, cells := S'.1 - S.1, slots := S'.2.1 - S.2.1, locals := 40 * d }
def gws (row : gR) : List Cond := .code row.1 row.2.1 row.2.2.1 row.2.2.2.1 :: gGW
def gMet (l : Launch) (D : va_G) (B : Nat) (ex : Nat → Nat) (H0 : Heap) (d : Nat) (row : gR) (as : List Value) (S : gS) (v : Option Value) (S' : gS) : Prop := Met l row.1 (gws row) (grm d S S') (gPc D B ex H0 as S) (gQc D B ex H0 v S') (S'.1 - S.1) (S'.2.1 - S.2.1) (fun q => B ≤ q)
theorem gPc_blind {D : va_G} {B : Nat} {ex : Nat → Nat} {H0 : Heap} {as : List Value} {S : gS} : FrameBlind (gPc D B ex H0 as S) := by
  intro a U g mk h
  obtain ⟨h1, h2, h3⟩ := h
  exact ⟨h1, gKN_warm (s := U) (U := U.calling g mk a) (State.WarmedH.refl U) h2, gRH_moved (u := U) (U := U.calling g mk a) (Vm.Alike.refl U.vm) h3⟩
theorem gGW_good {w : Cond} (h : w ∈ gGW) : (w.onTables && w.keeps) = true ∨ ∃ ty, w = .arrayClass ty := good_of_word (List.mem_filter.mp h).2
theorem gws_good {row : gR} (h : Cond.code row.1 row.2.1 row.2.2.1 row.2.2.2.1 ∈ gGW) : GoodIn gGW (gws row) := by
  intro w hw
  rcases List.mem_cons.mp hw with rfl | hw
  · exact ⟨h, gGW_good h⟩
  · exact ⟨hw, gGW_good hw⟩
section GCL
variable {p : Program} {l : Launch} {e : Env} {R : Room} {s : State} {m : MethodId} {args : Array Value} {below : List Frame} {meth : Method} {c : Code} {Q : State → Prop}
variable {cc : ByteArray} {nL : Nat} {own nm : String} {D : va_G} {B : Nat} {ex : Nat → Nat} {H0 : Heap} {n0 u0 : Nat} {pc : Nat} {L : gL} {st r : List Value} {S : gS}
theorem g_callX {H : Heap} {locs : List Loc} {cells slots mc ms : Nat} {ls : Array Slot} {st0 rest : List Value} {free : Addr → Prop} {Qa : State → Outcome → State → Prop} (hr : va_Run p l e R s m args below meth c H locs cells slots mc ms (F0 m pc ls st0) rest Qa free)
    (kk : ∀ (v : Option Value) (st₀ t : State) (L : List Loc), st₀.heap = H → s.vm.Alike t.vm → (∀ q ∈ L, free q.base) → Qa st₀ (.returned v) t → W p l e R s m args below meth c t.heap (locs ++ L) (cells + mc) (slots + ms) Q (F0 m (pc + 3) ls (v.toList ++ rest))) : W p l e R s m args below meth c H locs cells slots Q (F0 m pc ls st0) := by
  intro T hT X
  obtain ⟨v, st₀, t, T', L, h0, X', hL, e1, e2, hq, st⟩ := hr T hT X
  obtain ⟨t2, a1, b1⟩ := kk v st₀ t L h0 (by rw [← e2]; exact X'.warmed.alike) hL hq T' e1 X'
  exact ⟨t2, st t2 a1, b1⟩
theorem gcat_cv (st : List Value) : ((st.map (gcv B ex)).map (fun v => v.category)).sum = gcat st := by
  rw [List.map_map]
  have : (fun v => Value.category v) ∘ gcv B ex = fun v => v.category := by funext v; exact gcv_cat B ex v
  rw [this]; rfl
theorem g_mapval (v : Option Value) : (v.map (gcv B ex)).toList = v.toList.map (gcv B ex) := by cases v <;> rfl
/-- a call of an own method, by its contract -/
theorem gs_call {MT : List gR} {i : Instr} {kd idx j na d : Nat} {ax : List Nat} {cr : gR} {v1 : Option Value} {S1 : gS} (X : gCx p s m args meth c cc nL own nm D ex) (hi : (kd = 1 ∧ i = .invokevirtual idx) ∨ (kd = 2 ∧ i = .invokespecial idx) ∨ (kd = 0 ∧ i = .invokestatic idx)) (hd : decode cc pc = .ok (i, 3)) (hj : MT[j]? = some cr) (hck : gchkJ MT own kd idx 3 (j :: na :: ax) = true) (hok : gMOK MT cr)
    (hna : na ≤ st.length) (hcat : gcat (st.drop na) ≤ 8) (hkind : gkind i S cr.1.cls (st.take na).reverse) (hM : gMet l D B ex H0 d cr (st.take na).reverse S v1 S1) (hm1 : S.1 ≤ S1.1) (hm2 : S.2.1 ≤ S1.2.1) (hdr : d + 1 ≤ R.frames) (hdl : 40 * (d + 1) ≤ R.locals) (hr1 : S1.1 ≤ n0 + R.cells) (hr2 : S1.2.1 ≤ u0 + R.slots)
    (k : gG p l e R s m args below meth c Q nL D B ex H0 n0 u0 (pc + 3) L (v1.toList ++ st.drop na) S1) : gG p l e R s m args below meth c Q nL D B ex H0 n0 u0 pc L st S := by
  intro ls H locs cells slots hL hR hl hc hs
  obtain ⟨hx, hb, hml, hown, hts, hnm, hKN⟩ := X
  obtain ⟨hcode, hini, hpl, hMH, -, -, -, hmax⟩ := hok
  have hst : st.map (gcv B ex) = ((st.take na).reverse.map (gcv B ex)).reverse ++ (st.drop na).map (gcv B ex) := by
    rw [List.map_reverse, List.reverse_reverse, ← List.map_append, List.take_append_drop]
  have hroom : 2 * (F0 m pc ls (st.map (gcv B ex))).monitorRoom + (((st.drop na).map (gcv B ex)).map fun v => v.category).sum ≤ 8 := lv_room (by rw [gcat_cv]; exact hcat)
  have hlen9 : (st.take na).length = na := by rw [List.length_take]; omega
  have kk : ∀ (v : Option Value) (st₀ t : State) (L1 : List Loc), st₀.heap = H → s.vm.Alike t.vm → (∀ q ∈ L1, B ≤ q.base) → gQc D B ex H0 v1 S1 (((st.take na).reverse.map (gcv B ex)).toArray) st₀ (.returned v) t → W p l e R s m args below meth c t.heap (locs ++ L1) (cells + (S1.1 - S.1)) (slots + (S1.2.1 - S.2.1)) Q (F0 m (pc + 3) ls (v.toList ++ (st.drop na).map (gcv B ex))) := by
    intro v st₀ t L1 h0 hal hL1 hq
    obtain ⟨h1, h2⟩ := hq
    cases h1
    have k1 := k ls t.heap (locs ++ L1) (cells + (S1.1 - S.1)) (slots + (S1.2.1 - S.2.1)) hL (gRH_moved hal.symm h2) (fun q hq => (List.mem_append.mp hq).elim (hl q) (hL1 q)) (by omega) (by omega)
    rw [List.map_append] at k1
    rw [g_mapval]
    exact k1
  have hpre : ∀ U : State, U.heap = H → s.WarmedH U.vm → gPc D B ex H0 (st.take na).reverse S ((st.take na).reverse.map (gcv B ex)).toArray U := fun U hU hW => ⟨rfl, gKN_warm hW hKN, by rw [hU]; exact gRH_moved hW.alike hR⟩
  unfold gchkJ at hck
  split at hck
  case h_2 => cases hck
  rename_i j2 na2 ne ps p1 p2 heq
  cases heq
  rw [hj] at hck
  simp only [Bool.and_eq_true, decide_eq_true_eq, beq_self_eq_true, true_and] at hck
  obtain ⟨hlk, hpar, hk1, hkd⟩ := hck
  have hRR : (grm d S S1).frames + 1 ≤ R.frames ∧ 8 + (cr.2.2.1 + 11) + (grm d S S1).locals ≤ R.locals := ⟨hdr, by show 8 + (cr.2.2.1 + 11) + 40 * d ≤ R.locals; omega⟩
  have hF : CallFix p m c cc nL s args gGW own := ⟨hx, hb, hml, hown, hts⟩
  have hf2 : cells + (S1.1 - S.1) ≤ R.cells ∧ slots + (S1.2.1 - S.2.1) ≤ R.slots := ⟨by omega, by omega⟩
  rw [hst]
  rcases hi with ⟨rfl, rfl⟩ | ⟨rfl, rfl⟩ | ⟨rfl, rfl⟩
  · -- invokevirtual
    simp only [Nat.one_ne_zero, if_false] at hpar
    simp only [Bool.and_eq_true, decide_eq_true_eq] at hkd
    obtain ⟨hin, hsel⟩ := hkd
    have hselw : Cond.selects cr.1.cls cr.1 cr.1 ∈ gGW := List.mem_filter.mpr ⟨List.mem_of_getElem? hsel, rfl⟩
    have hin2 := hts _ (gtb_good hin rfl)
    have hsel2 := hts _ hselw
    simp only [gkind] at hkind
    cases has : (st.take na).reverse with
    | nil => rw [has] at hkind; exact hkind.elim
    | cons a0 as =>
      rw [has] at hkind hM kk hpre
      cases a0 with
      | ref a =>
        simp only [grcv] at hkind
        have hlen2 : as.length = na - 1 := by
          have := congrArg List.length has
          rw [List.length_reverse, hlen9] at this
          simp at this
          omega
        cases hcell : S.2.2 a with
        | inl x => rw [hcell] at hkind; exact hkind.elim
        | inr x =>
          obtain ⟨ci, fs⟩ := x
          rw [hcell] at hkind
          simp only at hkind
          cases hq : gcl[ci]? with
          | none => rw [hq] at hkind; cases hkind
          | some q =>
            rw [hq] at hkind
            have hqC : q.1 = cr.1.cls := Option.some.inj hkind
            have hne : S.2.2 a ≠ gz := by
              rw [hcell]
              intro h
              simp only [gz, Sum.inr.injEq, Prod.mk.injEq] at h
              rw [h.1] at hq
              simp [gcl] at hq
            have h9 : a < 1000000000 := by
              rcases Nat.lt_or_ge a 1000000000 with h | h
              · exact h
              · have := hR.2.2.2.2.2 a h hne
                rw [hcell] at this
                exact this.elim
            have hat := hR.2.2.2.2.1 a h9 hne
            rw [hcell] at hat
            obtain ⟨-, r', hr', -, cellB, g1, g2, g3, -⟩ := hat
            have hrecv : ∃ cellB : Cell, H[B + a]? = some cellB ∧ cellB.vm.isStatics = false ∧ s.vm.findClass cr.1.cls = some cellB.cls := ⟨cellB, g1, by rw [g3]; rfl, by rw [g2, ← hqC]; exact (hKN.1.1 ci q hq).2.1⟩
            have e1 : gcv B ex (.ref a) = .ref (B + a) := by simp [gcv, g_gal h9]
            simp only [List.map_cons, e1] at kk hpre ⊢
            rw [List.reverse_cons, List.append_assoc]
            cases hn : Nat.beq ne 0 with
            | true =>
              rw [hn] at hlk
              simp only [cond_true] at hlk
              refine g_callX (va_runV (As := as.map (gcv B ex)) (rest := (st.drop na).map (gcv B ex)) (b := B + a) (C := cr.1.cls) hF hM ⟨callB_of (na - 1) hts (gws_good hcode) rfl rfl rfl (hts _ hini) (hts _ (gtb_good hlk rfl)) ⟨hMH.1, hMH.2, hpar⟩ hRR, hin2, hsel2⟩ ⟨gPc_blind, hrecv, hpre⟩ rfl (by rw [List.length_map]; exact hlen2) hL.1 rfl hroom hd hf2) kk
            | false =>
              rw [hn] at hlk
              simp only [cond_false] at hlk
              refine g_callX (va_runVN (As := as.map (gcv B ex)) (rest := (st.drop na).map (gcv B ex)) (b := B + a) (C := cr.1.cls) hF hM ⟨va_cnB (na - 1) hts (gws_good hcode) rfl rfl rfl (hKN.2.1 _ (gtb_nest hlk rfl)) (hts _ hini) ⟨hMH.1, hMH.2, hpar⟩ hRR, hin2, hsel2⟩ ⟨gPc_blind, hrecv, hpre⟩ rfl (by rw [List.length_map]; exact hlen2) hL.1 rfl hroom hd hf2) kk
      | int x => exact hkind.elim
      | long x => exact hkind.elim
      | float x => exact hkind.elim
      | double x => exact hkind.elim
      | null => exact hkind.elim
      | retAddr x => exact hkind.elim
  · -- invokespecial <init>
    simp only [Nat.succ_ne_zero, if_false] at hpar
    simp only [Bool.and_eq_true, decide_eq_true_eq] at hkd
    obtain ⟨hin, hinit, hret⟩ := hkd
    have hin2 := hts _ (gtb_good hin rfl)
    simp only [gkind] at hkind
    obtain ⟨a, as, has⟩ := hkind
    rw [has] at hM kk hpre ⊢
    have hlen2 : as.length = na - 1 := by
      have := congrArg List.length has
      rw [List.length_reverse, hlen9] at this
      simp at this
      omega
    have hws : gws cr = Cond.code cr.1 cr.2.1 cr.2.2.1 none :: gGW := by rw [gws, hret]
    have e1 : gcv B ex (.ref a) = .ref (gal B ex a) := rfl
    simp only [List.map_cons, e1] at kk hpre ⊢
    rw [List.reverse_cons, List.append_assoc]
    cases hn : Nat.beq ne 0 with
    | true =>
      rw [hn] at hlk
      simp only [cond_true] at hlk
      refine g_callX (va_runI (As := as.map (gcv B ex)) (rest := (st.drop na).map (gcv B ex)) (b := gal B ex a) hF hM ⟨callB_of (na - 1) hts (gws_good hcode) hws rfl rfl (hts _ hini) (hts _ (gtb_good hlk rfl)) ⟨hMH.1, hMH.2, hpar⟩ hRR, hinit, hin2⟩ ⟨gPc_blind, hpre⟩ rfl (by rw [List.length_map]; exact hlen2) hL.1 rfl hroom hd hf2) kk
    | false =>
      rw [hn] at hlk
      simp only [cond_false] at hlk
      refine g_callX (va_runIN (As := as.map (gcv B ex)) (rest := (st.drop na).map (gcv B ex)) (b := gal B ex a) hF hM ⟨va_cnB (na - 1) hts (gws_good hcode) hws rfl rfl (hKN.2.1 _ (gtb_nest hlk rfl)) (hts _ hini) ⟨hMH.1, hMH.2, hpar⟩ hRR, hinit, hin2⟩ ⟨gPc_blind, hpre⟩ rfl (by rw [List.length_map]; exact hlen2) hL.1 rfl hroom hd hf2) kk
  · -- invokestatic
    simp only [if_true, Nat.sub_zero] at hpar
    have hstt := hts _ (gtb_good hkd rfl)
    have hlen2 : ((st.take na).reverse.map (gcv B ex)).length = na := by rw [List.length_map, List.length_reverse]; exact hlen9
    cases hn : Nat.beq ne 0 with
    | true =>
      rw [hn] at hlk
      simp only [cond_true] at hlk
      refine g_callX (va_runS (As := (st.take na).reverse.map (gcv B ex)) (rest := (st.drop na).map (gcv B ex)) hF hM ⟨callB_of na hts (gws_good hcode) rfl rfl rfl (hts _ hini) (hts _ (gtb_good hlk rfl)) ⟨hMH.1, hMH.2, hpar⟩ hRR, hstt⟩ ⟨gPc_blind, hpre⟩ rfl hlen2 hL.1 rfl hroom hd hf2) kk
    | false =>
      rw [hn] at hlk
      simp only [cond_false] at hlk
      refine g_callX (va_runSN (As := (st.take na).reverse.map (gcv B ex)) (rest := (st.drop na).map (gcv B ex)) hF hM ⟨va_cnB na hts (gws_good hcode) rfl rfl rfl (hKN.2.1 _ (gtb_nest hlk rfl)) (hts _ hini) ⟨hMH.1, hMH.2, hpar⟩ hRR, hstt, trivial⟩ ⟨gPc_blind, hpre⟩ rfl hlen2 hL.1 rfl hroom hd hf2) kk
end GCL
end
section
/-! ===== a run of the small machine is a run of the JVM ===== -/
/-- at a method's end -/
def gK (p : Program) (l : Launch) (e : Env) (R : Room) (s : State) (m : MethodId) (args : Array Value) (below : List Frame) (meth : Method) (c : Code) (Q : State → Prop) (D : va_G) (B : Nat) (ex : Nat → Nat) (H0 : Heap) (n0 u0 : Nat) (row : gR) (v : Option Value) (S' : gS) : Prop :=
  ∀ (pc : Nat) (ls : Array Slot) (H : Heap) (locs : List Loc) (cells slots : Nat), ((v = none ∧ row.2.2.2.1 = none ∧ decode row.2.1 pc = .ok (.return_, 1)) ∨ ∃ x, v = some (.int x) ∧ grok row.2.2.2.1 x ∧ decode row.2.1 pc = .ok (.ireturn, 1)) → gRH D s B ex H0 S' H → (∀ q ∈ locs, B ≤ q.base) → n0 + cells = S'.1 → u0 + slots = S'.2.1 → W p l e R s m args below meth c H locs cells slots Q (F0 m pc ls (v.toList.map (gcv B ex)))
def gBmono (BI : gB) : Prop := ∀ j as S v S', BI j as S v S' → S.1 ≤ S'.1 ∧ S.2.1 ≤ S'.2.1
/-- a call of one of the methods that are told by hand -/
def gWB (l : Launch) (D : va_G) (B : Nat) (ex : Nat → Nat) (H0 : Heap) (BI : gB) : Prop :=
  ∀ (p : Program) (e : Env) (R : Room) (s : State) (m : MethodId) (args : Array Value) (below : List Frame) (meth : Method) (c : Code) (Q : State → Prop) (cc : ByteArray) (nL : Nat) (own nm : String) (n0 u0 pc : Nat) (L : gL) (rest : List Value) (S : gS) (i : Instr) (kd idx j na : Nat) (ax : List Nat) (as : List Value) (v1 : Option Value) (S1 : gS),
    gCx p s m args meth c cc nL own nm D ex → ((kd = 1 ∧ i = .invokevirtual idx) ∨ (kd = 2 ∧ i = .invokespecial idx) ∨ (kd = 0 ∧ i = .invokestatic idx)) → decode cc pc = .ok (i, 3) → gchkB own kd idx 3 (j :: na :: ax) = true → as.length = na → gcat rest ≤ 8 → 10 ≤ R.frames → 400 ≤ R.locals → BI j as S v1 S1 → S1.1 ≤ n0 + R.cells → S1.2.1 ≤ u0 + R.slots →
    gG p l e R s m args below meth c Q nL D B ex H0 n0 u0 (pc + 3) L (v1.toList ++ rest) S1 → gG p l e R s m args below meth c Q nL D B ex H0 n0 u0 pc L (as.reverse ++ rest) S
theorem gcell_mono {i : Instr} {len : Nat} {ax : List Nat} {w : Value} {pc : Nat} {L : gL} {st : List Value} {S : gS} {o : Nat × gL × List Value × gS} (hst : gstep i len ax w pc L st S = some o) : S.1 ≤ o.2.2.2.1 ∧ S.2.1 ≤ o.2.2.2.2.1 := by
  have hid : ∀ {a : Nat × gL × List Value × gS}, a.2.2.2 = S → S.1 ≤ a.2.2.2.1 ∧ S.2.1 ≤ a.2.2.2.2.1 := fun h => by rw [h]; exact ⟨Nat.le_refl _, Nat.le_refl _⟩
  cases i
  case iconst n => rw [gpush_inv hst]; exact hid rfl
  case lconst n => rw [gpush_inv hst]; exact hid rfl
  case bipush n => rw [gpush_inv hst]; exact hid rfl
  case sipush n => rw [gpush_inv hst]; exact hid rfl
  case ldc n => cases ax with
    | nil => cases hst
    | cons a t => rw [gpush_inv (len := 2) hst]; exact hid rfl
  case ldc_w n => cases ax with
    | nil => cases hst
    | cons a t => rw [gpush_inv (len := 3) hst]; exact hid rfl
  case ldc2_w n => cases ax with
    | nil => cases hst
    | cons a t => rw [gpush_inv (len := 3) hst]; exact hid rfl
  case iload_n n => obtain ⟨x, -, rfl⟩ := giload_inv hst; exact hid rfl
  case iload n => obtain ⟨x, -, rfl⟩ := giload_inv hst; exact hid rfl
  case lload_n n => obtain ⟨x, -, rfl⟩ := glload_inv hst; exact hid rfl
  case lload n => obtain ⟨x, -, rfl⟩ := glload_inv hst; exact hid rfl
  case aload_n n => obtain ⟨x, -, rfl⟩ := galoadL_inv hst; exact hid rfl
  case aload n => obtain ⟨x, -, rfl⟩ := galoadL_inv hst; exact hid rfl
  case istore_n n => obtain ⟨x, r, -, -, -, rfl⟩ := gistore_inv hst; exact hid rfl
  case istore n => obtain ⟨x, r, -, -, -, rfl⟩ := gistore_inv hst; exact hid rfl
  case lstore_n n => obtain ⟨x, r, -, -, -, rfl⟩ := glstore_inv hst; exact hid rfl
  case lstore n => obtain ⟨x, r, -, -, -, rfl⟩ := glstore_inv hst; exact hid rfl
  case astore_n n => obtain ⟨x, r, -, -, -, rfl⟩ := gastoreL_inv hst; exact hid rfl
  case astore n => obtain ⟨x, r, -, -, -, rfl⟩ := gastoreL_inv hst; exact hid rfl
  case iinc n z => obtain ⟨x, y, -, -, -, -, rfl⟩ := giinc_inv hst; exact hid rfl
  case getfield idx =>
    simp only [gstep] at hst
    split at hst
    · obtain ⟨a, r, fs, v, -, -, -, rfl⟩ := gget_inv hst; exact hid rfl
    · cases hst
  case putfield idx =>
    simp only [gstep] at hst
    split at hst
    · obtain ⟨v, a, r, fs, -, -, -, -, rfl⟩ := gput_inv hst; exact ⟨Nat.le_refl _, Nat.le_refl _⟩
    · cases hst
  case new idx =>
    simp only [gstep] at hst
    split at hst
    · obtain ⟨q, -, -, rfl⟩ := gnew_inv hst; exact ⟨Nat.le_add_right _ _, Nat.le_add_right _ _⟩
    · cases hst
  case anewarray idx =>
    simp only [gstep] at hst
    split at hst
    · obtain ⟨n, r, q, -, -, -, -, -, rfl⟩ := gnewq_inv hst; exact ⟨Nat.le_add_right _ _, Nat.le_add_right _ _⟩
    · cases hst
  case newarray t =>
    simp only [gstep, gnewa] at hst
    split at hst
    · split at hst
      · cases hst
      · split at hst <;> first | (cases hst; exact ⟨Nat.le_add_right _ _, Nat.le_add_right _ _⟩) | cases hst
    · cases hst
  case iaload => obtain ⟨i, a, r, n, f, -, -, -, rfl⟩ := giald_inv hst; exact hid rfl
  case caload => obtain ⟨i, a, r, n, f, -, -, -, rfl⟩ := giald_inv hst; exact hid rfl
  case baload => obtain ⟨i, a, r, t, n, f, -, -, -, -, rfl⟩ := gbald_inv hst; exact hid rfl
  case laload => obtain ⟨i, a, r, n, f, -, -, -, rfl⟩ := glald_inv hst; exact hid rfl
  case aaload => obtain ⟨i, a, r, C, n, f, -, -, -, rfl⟩ := gaald_inv hst; exact hid rfl
  case iastore => obtain ⟨x, i, a, r, n, f, -, -, -, -, -, rfl⟩ := giast_inv hst; exact ⟨Nat.le_refl _, Nat.le_refl _⟩
  case castore => obtain ⟨x, i, a, r, n, f, -, -, -, -, -, rfl⟩ := giast_inv hst; exact ⟨Nat.le_refl _, Nat.le_refl _⟩
  case bastore => obtain ⟨x, i, a, r, n, f, -, -, -, -, -, rfl⟩ := giast_inv hst; exact ⟨Nat.le_refl _, Nat.le_refl _⟩
  case lastore => obtain ⟨x, i, a, r, n, f, -, -, -, -, rfl⟩ := glast_inv hst; exact ⟨Nat.le_refl _, Nat.le_refl _⟩
  case aastore => obtain ⟨v, i, a, r, C, n, f, ci, fs, -, -, -, -, -, -, rfl⟩ := gaast_inv hst; exact ⟨Nat.le_refl _, Nat.le_refl _⟩
  case arraylength => obtain ⟨a, r, t, n, x, -, -, rfl⟩ := galen_inv hst; exact hid rfl
  all_goals first
    | (obtain ⟨x, y, r, -, rfl⟩ := gii_inv hst; exact hid rfl)
    | (obtain ⟨x, y, r, -, rfl⟩ := gll_inv hst; exact hid rfl)
    | (obtain ⟨x, y, r, -, rfl⟩ := gli_inv hst; exact hid rfl)
    | (have h9 : (none : gO) = some o := hst; cases h9; done)
    | (simp only [gstep] at hst; split at hst <;> first | (cases hst; exact hid rfl) | (cases hst; done) | (split at hst <;> first | (cases hst; exact hid rfl) | (cases hst; done)))
    | (cases hst; exact hid rfl)
theorem gER_mono {MT : List gR} {BI : gB} (hB : gBmono BI) : ∀ (f d k pc : Nat) (L : gL) (st : List Value) (S : gS) (v : Option Value) (S' : gS), gER MT BI f d k pc L st S v S' → S.1 ≤ S'.1 ∧ S.2.1 ≤ S'.2.1 := by
  intro f
  induction f with
  | zero => intro d k pc L st S v S' h; exact h.elim
  | succ f ih =>
    intro d k pc L st S v S' h
    unfold gER at h
    split at h
    · exact h.elim
    · split at h
      · exact h.elim
      · rename_i q hl
        split at h
        · obtain ⟨-, -, rfl, -⟩ := h
          exact ⟨Nat.le_refl _, Nat.le_refl _⟩
        · obtain ⟨x, -, -, rfl, -⟩ := h
          exact ⟨Nat.le_refl _, Nat.le_refl _⟩
        · unfold gcallP at h
          split at h
          · obtain ⟨-, -, v1, S1, h1, h2⟩ := h
            have k2 := ih _ _ _ _ _ _ _ _ h2
            split at h1
            · have k1 := hB _ _ _ _ _ h1.2
              exact ⟨Nat.le_trans k1.1 k2.1, Nat.le_trans k1.2 k2.2⟩
            · obtain ⟨-, cr, -, -, -, h3⟩ := h1
              have k1 := ih _ _ _ _ _ _ _ _ h3
              exact ⟨Nat.le_trans k1.1 k2.1, Nat.le_trans k1.2 k2.2⟩
          · exact h.elim
        · split at h
          · exact h.elim
          · rename_i o hs
            have k1 := gcell_mono hs
            have k2 := ih _ _ _ _ _ _ _ _ h
            exact ⟨Nat.le_trans k1.1 k2.1, Nat.le_trans k1.2 k2.2⟩
/-! a method's entry -/
theorem gpad_len : ∀ (L : gL) (n : Nat), (gpad L n).length = n := by
  intro L n
  induction n generalizing L with
  | zero => cases L <;> rfl
  | succ n ih => cases L <;> simp [gpad, ih]
theorem gl_pad : ∀ (n : Nat) (L : gL) (i : Nat) (v : Value), gl (gpad L n) i = some v → gl L i = some v := by
  intro n
  induction n with
  | zero => intro L i v h; cases L <;> simp [gpad, gl] at h
  | succ n ih =>
    intro L i v h
    cases L with
    | nil =>
      cases i with
      | zero => simp [gpad, gl] at h
      | succ i =>
        simp only [gpad, gl] at h
        have := ih [] i v h
        simp [gl] at this
    | cons a r =>
      cases i with
      | zero => simpa [gpad, gl] using h
      | succ i => exact ih r i v (by simpa [gpad, gl] using h)
theorem lg_sl_len (v : Value) (r : List Value) : (lg_sl (v :: r)).length = (if v.category = 2 then 2 else 1) + (lg_sl r).length := by
  unfold lg_sl
  rw [List.flatMap_cons, List.length_append]
  split <;> rfl
theorem gent_sl {B : Nat} {ex : Nat → Nat} : ∀ (as : List Value), (lg_sl (as.map (gcv B ex))).length = (gent as).length := by
  intro as
  induction as with
  | nil => rfl
  | cons v r ih =>
    rw [List.map_cons, lg_sl_len, ih, gcv_cat]
    cases v <;> simp [gent, Value.category] <;> omega
theorem gent_args {B : Nat} {ex : Nat → Nat} : ∀ (as : List Value) (i j : Nat) (v : Value), gl (gent as) j = some v → (i + j, gcv B ex v) ∈ lv_args i (as.map (gcv B ex)) := by
  intro as
  induction as with
  | nil => intro i j v h; simp [gent, gl] at h
  | cons a r ih =>
    intro i j v h
    have one : ∀ (a : Value), a.category = 1 → gl (some a :: gent r) j = some v → (i + j, gcv B ex v) ∈ lv_args i ((a :: r).map (gcv B ex)) := by
      intro a ha h
      simp only [List.map_cons, lv_args, gcv_cat, ha]
      cases j with
      | zero => simp only [gl] at h; cases h; exact List.mem_cons_self
      | succ j =>
        refine List.mem_cons_of_mem _ ?_
        have := ih (i + 1) j v h
        simpa [Nat.add_assoc, Nat.add_comm 1 j] using this
    have two : ∀ (a : Value), a.category = 2 → gl (some a :: none :: gent r) j = some v → (i + j, gcv B ex v) ∈ lv_args i ((a :: r).map (gcv B ex)) := by
      intro a ha h
      simp only [List.map_cons, lv_args, gcv_cat, ha, if_true]
      match j, h with
      | 0, h => simp only [gl] at h; cases h; exact List.mem_cons_self
      | 1, h => simp [gl] at h
      | j + 2, h =>
        refine List.mem_cons_of_mem _ ?_
        have := ih (i + 2) j v h
        rw [show i + (j + 2) = i + 2 + j by omega]
        exact this
    cases a with
    | long x => exact two _ rfl h
    | double x => exact two _ rfl h
    | int x => exact one _ rfl h
    | float x => exact one _ rfl h
    | null => exact one _ rfl h
    | ref x => exact one _ rfl h
    | retAddr x => exact one _ rfl h
theorem g_entry {B : Nat} {ex : Nat → Nat} {as : List Value} {n : Nat} (h : (gent as).length ≤ n) : gLR B ex ((lg_sl (as.map (gcv B ex)) ++ List.replicate (n - (lg_sl (as.map (gcv B ex))).length) Slot.unset).toArray) n (gpad (gent as) n) := by
  have h1 := lv_entry (as.map (gcv B ex)) (n := n) (by rw [gent_sl]; exact h)
  refine ⟨h1.1, gpad_len _ _, h1.2.1, fun i v hv => ?_⟩
  have h2 := gent_args (B := B) (ex := ex) as 0 i v (gl_pad _ _ _ _ hv)
  rw [Nat.zero_add] at h2
  exact h1.2.2 (i, gcv B ex v) h2
end
section
section GMN
variable {l : Launch} {D : va_G} {B : Nat} {ex : Nat → Nat} {H0 : Heap} {MT : List gR} {BI : gB}
/-- what a run from a frame gives, for every method of the table -/
def gRuns (l : Launch) (D : va_G) (B : Nat) (ex : Nat → Nat) (H0 : Heap) (MT : List gR) (d k pc : Nat) (L : gL) (st : List Value) (S : gS) (v : Option Value) (S' : gS) : Prop :=
  ∀ (row : gR), MT[k]? = some row → ∀ (p : Program) (e : Env) (R : Room) (s : State) (m : MethodId) (args : Array Value) (below : List Frame) (meth : Method) (c : Code) (Q : State → Prop) (n0 u0 : Nat),
    gCx p s m args meth c row.2.1 row.2.2.1 row.1.cls row.1.name D ex → d ≤ R.frames → 40 * d ≤ R.locals → S'.1 ≤ n0 + R.cells → S'.2.1 ≤ u0 + R.slots → gK p l e R s m args below meth c Q D B ex H0 n0 u0 row v S' →
    gG p l e R s m args below meth c Q row.2.2.1 D B ex H0 n0 u0 pc L st S
theorem gmet_of {d k : Nat} {cr : gR} {as : List Value} {S S1 : gS} {v1 : Option Value} (hok : gMOK MT cr) (hk : MT[k]? = some cr) (hm1 : S.1 ≤ S1.1) (hm2 : S.2.1 ≤ S1.2.1) (hlen : (gent as).length ≤ cr.2.2.1) (h : gRuns l D B ex H0 MT d k 0 (gpad (gent as) cr.2.2.1) [] S v1 S1) : gMet l D B ex H0 d cr as S v1 S1 := by
  obtain ⟨hcode, hini, hpl, hMH, hdec, hchk, hchi, hmax⟩ := hok
  refine Met.ofW (cc := cr.2.1) (maxL := cr.2.2.1) (ret := cr.2.2.2.1) hpl rfl ?_
  intro p e s m args below meth c s₁ Bd hml hv
  obtain ⟨rfl, hKN, hRH⟩ := hv
  have hx := Bd.exec
  have hb := Bd.bytes
  have hr := Bd.returns
  have hts0 := atoms_spec (ws := gws cr) Bd.pre
  have hts : ∀ w ∈ gGW, w.before _ s = true := fun w hw => hts0 w (List.mem_cons_of_mem _ hw)
  have hown : s.vm.findClass cr.1.cls = some m.cls := findClass_of_methodNamed Bd.named
  have hlocks := Bd.notSynchronized
  have hnm : meth.name = cr.1.name := (name_of_methodNamed Bd.named Bd.method).1
  rw [lg_entry_eq]
  refine h cr hk p e (headSpec (gws cr) (grm d S S1)).room s m _ below meth c (MQ below (gQc D B ex H0 v1 S1) _ s (S1.1 - S.1) (S1.2.1 - S.2.1) (fun q => B ≤ q)) S.1 S.2.1 ⟨hx, hb, hml, hown, hts, hnm, hKN⟩ (Nat.le_refl _) (Nat.le_refl _) (by show S1.1 ≤ S.1 + (S1.1 - S.1); omega) (by show S1.2.1 ≤ S.2.1 + (S1.2.1 - S.2.1); omega) ?_ _ s.heap [] 0 0 (g_entry hlen) hRH (fun q h => by cases h) (Nat.add_zero _) (Nat.add_zero _)
  intro pc ls H locs cells slots hret hR hl hc hs
  have e1 : cells = S1.1 - S.1 := by omega
  have e2 : slots = S1.2.1 - S.2.1 := by omega
  subst e1; subst e2
  rcases hret with ⟨rfl, hn, hd⟩ | ⟨x, rfl, hg, hd⟩
  · exact W.vret hx hb (hr.trans hn) (fun t ht hW => ⟨rfl, by rw [ht]; exact gRH_moved hW.alike hR⟩) hl hd
  · cases hrt : cr.2.2.2.1 with
    | none => rw [hrt] at hg; exact hg.elim
    | some ty =>
      rw [hrt] at hg hr
      cases ty with
      | int => exact W.iret hx hb hr (fun t ht hW => ⟨rfl, by rw [ht]; exact gRH_moved hW.alike hR⟩) hl hd
      | boolean =>
        refine W.zret hx hb hr ?_ (fun t ht hW => ⟨rfl, by rw [ht]; exact gRH_moved hW.alike hR⟩) hl hd
        rcases hg with rfl | rfl <;> decide
      | char =>
        refine W.zret hx hb hr ?_ (fun t ht hW => ⟨rfl, by rw [ht]; exact gRH_moved hW.alike hR⟩) hl hd
        have hg' : vp_nar .char x = x := hg
        rw [vp_nar_char] at hg'
        exact congrArg Value.int hg'
      | byte => exact hg.elim
      | short => exact hg.elim
      | long => exact hg.elim
      | float => exact hg.elim
      | double => exact hg.elim
      | object n => exact hg.elim
      | array n => exact hg.elim
theorem gcls_call {i : Instr} (h : gcls i = 3) : ∃ kd idx, (kd = 1 ∧ i = .invokevirtual idx) ∨ (kd = 2 ∧ i = .invokespecial idx) ∨ (kd = 0 ∧ i = .invokestatic idx) := by
  cases i <;> first | exact ⟨1, _, Or.inl ⟨rfl, rfl⟩⟩ | exact ⟨2, _, Or.inr (Or.inl ⟨rfl, rfl⟩)⟩ | exact ⟨0, _, Or.inr (Or.inr ⟨rfl, rfl⟩)⟩ | (cases h; done)
theorem gcls_ret1 {i : Instr} (h : gcls i = 1) : i = .return_ := by
  cases i <;> first | rfl | (cases h; done)
theorem gcls_ret2 {i : Instr} (h : gcls i = 2) : i = .ireturn := by
  cases i <;> first | rfl | (cases h; done)
theorem gchkI_call {MT : List gR} {own : String} {pc : Nat} {i : Instr} {len : Nat} {ax : List Nat} {w : Value} {kd idx : Nat} (hi : (kd = 1 ∧ i = .invokevirtual idx) ∨ (kd = 2 ∧ i = .invokespecial idx) ∨ (kd = 0 ∧ i = .invokestatic idx)) (h : gchkI MT own (pc, i, len, ax, w) = true) : gchkA MT own kd idx len ax = true := by
  rcases hi with ⟨rfl, rfl⟩ | ⟨rfl, rfl⟩ | ⟨rfl, rfl⟩ <;> exact h
theorem gsim (hMT : ∀ row ∈ MT, gMOK MT row) (hB : gBmono BI) (hWB : gWB l D B ex H0 BI) : ∀ (f d k pc : Nat) (L : gL) (st : List Value) (S : gS) (v : Option Value) (S' : gS), gER MT BI f d k pc L st S v S' → gRuns l D B ex H0 MT d k pc L st S v S' := by
  intro f
  induction f with
  | zero => intro d k pc L st S v S' h; exact h.elim
  | succ f ih =>
    intro d k pc L st S v S' h row hrow p e R s m args below meth c Q n0 u0 X hd1 hd2 hr1 hr2 hK
    have hm := gER_mono hB _ _ _ _ _ _ _ _ _ h
    have hok := hMT row (List.mem_of_getElem? hrow)
    have hok0 := hok
    obtain ⟨hcode, hini, hpl, hMH, hdec, hchk, hchi, hmax⟩ := hok
    unfold gER at h
    rw [hrow] at h
    dsimp only at h
    split at h
    · exact h.elim
    · rename_i q hl
      obtain ⟨i, len, ax, w⟩ := q
      dsimp only at h
      have hmem := glook_mem hl
      have hdc := hdec _ hmem
      have hck := hchk _ hmem
      have hci := hchi _ hmem
      dsimp only at hdc hck hci
      split at h
      · rename_i hcl
        have e1 := gcls_ret1 hcl
        subst e1
        have h1 := g_len hck
        subst h1
        obtain ⟨rfl, rfl, rfl, hn⟩ := h
        intro ls H locs cells slots hL hR hl2 hc hs
        exact hK pc ls H locs cells slots (Or.inl ⟨rfl, hn, hdc⟩) hR hl2 hc hs
      · rename_i hcl
        have e1 := gcls_ret2 hcl
        subst e1
        have h1 := g_len hck
        subst h1
        obtain ⟨x, rfl, rfl, rfl, hg⟩ := h
        intro ls H locs cells slots hL hR hl2 hc hs
        exact hK pc ls H locs cells slots (Or.inr ⟨x, rfl, hg, hdc⟩) hR hl2 hc hs
      · rename_i hcl
        obtain ⟨kd, idx, hi⟩ := gcls_call hcl
        have hca := gchkI_call hi hci
        unfold gcallP at h
        split at h
        · rename_i j na t
          obtain ⟨hna, hcat, v1, S1, hcall, hgo⟩ := h
          have hm1 := gER_mono hB _ _ _ _ _ _ _ _ _ hgo
          have hgo2 := ih d k (pc + 3) L _ S1 v S' hgo row hrow p e R s m args below meth c Q n0 u0 X hd1 hd2 hr1 hr2 hK
          split at hcall
          · rename_i hj
            have hjb : Nat.ble 1000 j = true := Nat.ble_eq.mpr hj
            simp only [gchkA, hjb, cond_true] at hca
            have hl3 : len = 3 := by
              unfold gchkB at hca
              split at hca
              · rw [Bool.and_eq_true] at hca
                exact g_len hca.1
              · cases hca
            subst hl3
            have hst : st = ((st.take na).reverse).reverse ++ st.drop na := by rw [List.reverse_reverse, List.take_append_drop]
            rw [hst]
            refine hWB p e R s m args below meth c Q row.2.1 row.2.2.1 row.1.cls row.1.name n0 u0 pc L (st.drop na) S i kd idx j na t (st.take na).reverse v1 S1 X hi hdc hca ?_ hcat (by omega) (by omega) hcall.2 (by omega) (by omega) hgo2
            rw [List.length_reverse, List.length_take]; omega
          · rename_i hj
            have hjb : Nat.ble 1000 j = false := by
              cases hq : Nat.ble 1000 j with
              | false => rfl
              | true => exact absurd (Nat.ble_eq.mp hq) hj
            simp only [gchkA, hjb, cond_false] at hca
            have hl3 : len = 3 := by
              unfold gchkJ at hca
              split at hca
              · rw [Bool.and_eq_true] at hca
                exact g_len hca.1
              · cases hca
            subst hl3
            obtain ⟨hd0, cr, hcr, hlen, hkind, hce⟩ := hcall
            have hm0 := gER_mono hB _ _ _ _ _ _ _ _ _ hce
            have hokc := hMT cr (List.mem_of_getElem? hcr)
            have hM := gmet_of (l := l) (D := D) (B := B) (ex := ex) (H0 := H0) (as := (st.take na).reverse) hokc hcr hm0.1 hm0.2 hlen (ih (d - 1) j 0 _ [] S v1 S1 hce)
            exact gs_call (d := d - 1) X hi hdc hcr hca hokc hna hcat hkind hM hm0.1 hm0.2 (by omega) (by omega) (by omega) (by omega) hgo2
        · exact h.elim
      · split at h
        · exact h.elim
        · rename_i o hs
          have hm1 := gER_mono hB _ _ _ _ _ _ _ _ _ h
          exact gstep_sim X hs hdc hck (by omega) (by omega) (ih d k o.1 o.2.1 o.2.2.1 o.2.2.2 v S' h row hrow p e R s m args below meth c Q n0 u0 X hd1 hd2 hr1 hr2 hK)
end GMN
end
