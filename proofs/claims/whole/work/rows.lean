section
-- ===== PART A: goes FIRST, ahead of the names: the tables' words, and 'selects' of the private methods out of them =====
/-- a private method of a class that the tables say can be made, by its rows of tables_1 -/
def lw_okq (q : MethodName × Nat) : Prop := (q.1.cls ≠ "java/lang/invoke/MethodHandle" ∧ q.1.cls ≠ "java/lang/invoke/VarHandle") ∧ Cond.instantiable q.1.cls q.2 ∈ tables_1 ∧ Cond.privateMethod q.1 ∈ tables_1 ∧ Cond.instanceMethod q.1 ∈ tables_1
theorem lw_p0 : lw_okq (⟨"GiftShops$Tape", "addBytes", "(J)V"⟩, 2) := ⟨⟨by decide +kernel, by decide +kernel⟩, List.mem_of_getElem? (i := 64) (by decide +kernel), List.mem_of_getElem? (i := 300) (by decide +kernel), List.mem_of_getElem? (i := 301) (by decide +kernel)⟩
theorem lw_p1 : lw_okq (⟨"GiftShops$Parser", "readInto", "(LGiftShops$Rules;)I"⟩, 3) := ⟨⟨by decide +kernel, by decide +kernel⟩, List.mem_of_getElem? (i := 108) (by decide +kernel), List.mem_of_getElem? (i := 308) (by decide +kernel), List.mem_of_getElem? (i := 309) (by decide +kernel)⟩
theorem lw_p2 : lw_okq (⟨"GiftShops$Rules", "clear", "()V"⟩, 6) := ⟨⟨by decide +kernel, by decide +kernel⟩, List.mem_of_getElem? (i := 81) (by decide +kernel), List.mem_of_getElem? (i := 312) (by decide +kernel), List.mem_of_getElem? (i := 313) (by decide +kernel)⟩
theorem lw_p3 : lw_okq (⟨"GiftShops$Scanner", "begin", "()V"⟩, 5) := ⟨⟨by decide +kernel, by decide +kernel⟩, List.mem_of_getElem? (i := 114) (by decide +kernel), List.mem_of_getElem? (i := 316) (by decide +kernel), List.mem_of_getElem? (i := 317) (by decide +kernel)⟩
theorem lw_p4 : lw_okq (⟨"GiftShops$Scanner", "next", "()V"⟩, 5) := ⟨⟨by decide +kernel, by decide +kernel⟩, List.mem_of_getElem? (i := 114) (by decide +kernel), List.mem_of_getElem? (i := 320) (by decide +kernel), List.mem_of_getElem? (i := 321) (by decide +kernel)⟩
theorem lw_p5 : lw_okq (⟨"GiftShops$Scanner", "behindRun", "(CC)I"⟩, 5) := ⟨⟨by decide +kernel, by decide +kernel⟩, List.mem_of_getElem? (i := 114) (by decide +kernel), List.mem_of_getElem? (i := 327) (by decide +kernel), List.mem_of_getElem? (i := 328) (by decide +kernel)⟩
theorem lw_p6 : lw_okq (⟨"GiftShops$Scanner", "wordToken", "()I"⟩, 5) := ⟨⟨by decide +kernel, by decide +kernel⟩, List.mem_of_getElem? (i := 114) (by decide +kernel), List.mem_of_getElem? (i := 331) (by decide +kernel), List.mem_of_getElem? (i := 332) (by decide +kernel)⟩
theorem lw_p7 : lw_okq (⟨"GiftShops$Scanner", "spells", "(I)Z"⟩, 5) := ⟨⟨by decide +kernel, by decide +kernel⟩, List.mem_of_getElem? (i := 114) (by decide +kernel), List.mem_of_getElem? (i := 335) (by decide +kernel), List.mem_of_getElem? (i := 336) (by decide +kernel)⟩
theorem lw_p8 : lw_okq (⟨"GiftShops$Scanner", "numberToken", "()I"⟩, 5) := ⟨⟨by decide +kernel, by decide +kernel⟩, List.mem_of_getElem? (i := 114) (by decide +kernel), List.mem_of_getElem? (i := 380) (by decide +kernel), List.mem_of_getElem? (i := 381) (by decide +kernel)⟩
theorem lw_p9 : lw_okq (⟨"GiftShops$Parser", "readLine", "()Z"⟩, 3) := ⟨⟨by decide +kernel, by decide +kernel⟩, List.mem_of_getElem? (i := 108) (by decide +kernel), List.mem_of_getElem? (i := 451) (by decide +kernel), List.mem_of_getElem? (i := 452) (by decide +kernel)⟩
theorem lw_p10 : lw_okq (⟨"GiftShops$Scanner", "isWay", "()Z"⟩, 5) := ⟨⟨by decide +kernel, by decide +kernel⟩, List.mem_of_getElem? (i := 114) (by decide +kernel), List.mem_of_getElem? (i := 455) (by decide +kernel), List.mem_of_getElem? (i := 456) (by decide +kernel)⟩
theorem lw_p11 : lw_okq (⟨"GiftShops$Parser", "wrong", "(I)Z"⟩, 3) := ⟨⟨by decide +kernel, by decide +kernel⟩, List.mem_of_getElem? (i := 108) (by decide +kernel), List.mem_of_getElem? (i := 459) (by decide +kernel), List.mem_of_getElem? (i := 460) (by decide +kernel)⟩
theorem lw_p12 : lw_okq (⟨"GiftShops$Scanner", "wayTold", "()I"⟩, 5) := ⟨⟨by decide +kernel, by decide +kernel⟩, List.mem_of_getElem? (i := 114) (by decide +kernel), List.mem_of_getElem? (i := 463) (by decide +kernel), List.mem_of_getElem? (i := 464) (by decide +kernel)⟩
theorem lw_p13 : lw_okq (⟨"GiftShops$Parser", "take", "(I)Z"⟩, 3) := ⟨⟨by decide +kernel, by decide +kernel⟩, List.mem_of_getElem? (i := 108) (by decide +kernel), List.mem_of_getElem? (i := 468) (by decide +kernel), List.mem_of_getElem? (i := 469) (by decide +kernel)⟩
theorem lw_p14 : lw_okq (⟨"GiftShops$Parser", "readTests", "(I)Z"⟩, 3) := ⟨⟨by decide +kernel, by decide +kernel⟩, List.mem_of_getElem? (i := 108) (by decide +kernel), List.mem_of_getElem? (i := 472) (by decide +kernel), List.mem_of_getElem? (i := 473) (by decide +kernel)⟩
theorem lw_p15 : lw_okq (⟨"GiftShops$Parser", "readTest", "(I)Z"⟩, 3) := ⟨⟨by decide +kernel, by decide +kernel⟩, List.mem_of_getElem? (i := 108) (by decide +kernel), List.mem_of_getElem? (i := 476) (by decide +kernel), List.mem_of_getElem? (i := 477) (by decide +kernel)⟩
def lw_privs_1 : List (MethodName × Nat) := [(⟨"GiftShops$Tape", "addBytes", "(J)V"⟩, 2), (⟨"GiftShops$Parser", "readInto", "(LGiftShops$Rules;)I"⟩, 3), (⟨"GiftShops$Rules", "clear", "()V"⟩, 6), (⟨"GiftShops$Scanner", "begin", "()V"⟩, 5), (⟨"GiftShops$Scanner", "next", "()V"⟩, 5), (⟨"GiftShops$Scanner", "behindRun", "(CC)I"⟩, 5), (⟨"GiftShops$Scanner", "wordToken", "()I"⟩, 5), (⟨"GiftShops$Scanner", "spells", "(I)Z"⟩, 5), (⟨"GiftShops$Scanner", "numberToken", "()I"⟩, 5), (⟨"GiftShops$Parser", "readLine", "()Z"⟩, 3), (⟨"GiftShops$Scanner", "isWay", "()Z"⟩, 5), (⟨"GiftShops$Parser", "wrong", "(I)Z"⟩, 3), (⟨"GiftShops$Scanner", "wayTold", "()I"⟩, 5), (⟨"GiftShops$Parser", "take", "(I)Z"⟩, 3), (⟨"GiftShops$Parser", "readTests", "(I)Z"⟩, 3), (⟨"GiftShops$Parser", "readTest", "(I)Z"⟩, 3)]
theorem lw_r1 : ∀ q ∈ lw_privs_1, lw_okq q := List.forall_mem_cons.mpr ⟨lw_p0, List.forall_mem_cons.mpr ⟨lw_p1, List.forall_mem_cons.mpr ⟨lw_p2, List.forall_mem_cons.mpr ⟨lw_p3, List.forall_mem_cons.mpr ⟨lw_p4, List.forall_mem_cons.mpr ⟨lw_p5, List.forall_mem_cons.mpr ⟨lw_p6, List.forall_mem_cons.mpr ⟨lw_p7, List.forall_mem_cons.mpr ⟨lw_p8, List.forall_mem_cons.mpr ⟨lw_p9, List.forall_mem_cons.mpr ⟨lw_p10, List.forall_mem_cons.mpr ⟨lw_p11, List.forall_mem_cons.mpr ⟨lw_p12, List.forall_mem_cons.mpr ⟨lw_p13, List.forall_mem_cons.mpr ⟨lw_p14, List.forall_mem_cons.mpr ⟨lw_p15, fun _ h => absurd h List.not_mem_nil⟩⟩⟩⟩⟩⟩⟩⟩⟩⟩⟩⟩⟩⟩⟩⟩
theorem lw_p16 : lw_okq (⟨"GiftShops$Parser", "readSum", "(I)Z"⟩, 3) := ⟨⟨by decide +kernel, by decide +kernel⟩, List.mem_of_getElem? (i := 108) (by decide +kernel), List.mem_of_getElem? (i := 480) (by decide +kernel), List.mem_of_getElem? (i := 481) (by decide +kernel)⟩
theorem lw_p17 : lw_okq (⟨"GiftShops$Parser", "readPart", "(I)Z"⟩, 3) := ⟨⟨by decide +kernel, by decide +kernel⟩, List.mem_of_getElem? (i := 108) (by decide +kernel), List.mem_of_getElem? (i := 484) (by decide +kernel), List.mem_of_getElem? (i := 485) (by decide +kernel)⟩
theorem lw_p18 : lw_okq (⟨"GiftShops$Scanner", "isFact", "()Z"⟩, 5) := ⟨⟨by decide +kernel, by decide +kernel⟩, List.mem_of_getElem? (i := 114) (by decide +kernel), List.mem_of_getElem? (i := 488) (by decide +kernel), List.mem_of_getElem? (i := 489) (by decide +kernel)⟩
theorem lw_p19 : lw_okq (⟨"GiftShops$Rules", "add", "(I)V"⟩, 6) := ⟨⟨by decide +kernel, by decide +kernel⟩, List.mem_of_getElem? (i := 81) (by decide +kernel), List.mem_of_getElem? (i := 492) (by decide +kernel), List.mem_of_getElem? (i := 493) (by decide +kernel)⟩
theorem lw_p20 : lw_okq (⟨"GiftShops$Scanner", "factTold", "()I"⟩, 5) := ⟨⟨by decide +kernel, by decide +kernel⟩, List.mem_of_getElem? (i := 114) (by decide +kernel), List.mem_of_getElem? (i := 496) (by decide +kernel), List.mem_of_getElem? (i := 497) (by decide +kernel)⟩
theorem lw_p21 : lw_okq (⟨"GiftShops$Rules", "endLine", "(I)V"⟩, 6) := ⟨⟨by decide +kernel, by decide +kernel⟩, List.mem_of_getElem? (i := 81) (by decide +kernel), List.mem_of_getElem? (i := 500) (by decide +kernel), List.mem_of_getElem? (i := 501) (by decide +kernel)⟩
theorem lw_p22 : lw_okq (⟨"GiftShops", "sortFor", "(LGiftShops$Thing;I)V"⟩, 18) := ⟨⟨by decide +kernel, by decide +kernel⟩, List.mem_of_getElem? (i := 24) (by decide +kernel), List.mem_of_getElem? (i := 509) (by decide +kernel), List.mem_of_getElem? (i := 510) (by decide +kernel)⟩
theorem lw_p23 : lw_okq (⟨"GiftShops", "wayByText", "(LGiftShops$Thing;)I"⟩, 18) := ⟨⟨by decide +kernel, by decide +kernel⟩, List.mem_of_getElem? (i := 24) (by decide +kernel), List.mem_of_getElem? (i := 513) (by decide +kernel), List.mem_of_getElem? (i := 514) (by decide +kernel)⟩
theorem lw_p24 : lw_okq (⟨"GiftShops", "seasonNow", "()I"⟩, 18) := ⟨⟨by decide +kernel, by decide +kernel⟩, List.mem_of_getElem? (i := 24) (by decide +kernel), List.mem_of_getElem? (i := 517) (by decide +kernel), List.mem_of_getElem? (i := 518) (by decide +kernel)⟩
theorem lw_p25 : lw_okq (⟨"GiftShops$Rules", "wayFor", "([I)I"⟩, 6) := ⟨⟨by decide +kernel, by decide +kernel⟩, List.mem_of_getElem? (i := 81) (by decide +kernel), List.mem_of_getElem? (i := 521) (by decide +kernel), List.mem_of_getElem? (i := 522) (by decide +kernel)⟩
theorem lw_p26 : lw_okq (⟨"GiftShops$Rules", "valueOf", "(II[I)I"⟩, 6) := ⟨⟨by decide +kernel, by decide +kernel⟩, List.mem_of_getElem? (i := 81) (by decide +kernel), List.mem_of_getElem? (i := 525) (by decide +kernel), List.mem_of_getElem? (i := 526) (by decide +kernel)⟩
theorem lw_p27 : lw_okq (⟨"GiftShops$Shop", "hasRoom", "()Z"⟩, 5) := ⟨⟨by decide +kernel, by decide +kernel⟩, List.mem_of_getElem? (i := 37) (by decide +kernel), List.mem_of_getElem? (i := 532) (by decide +kernel), List.mem_of_getElem? (i := 533) (by decide +kernel)⟩
theorem lw_p28 : lw_okq (⟨"GiftShops", "comeOnShelf", "(LGiftShops$Thing;II)V"⟩, 18) := ⟨⟨by decide +kernel, by decide +kernel⟩, List.mem_of_getElem? (i := 24) (by decide +kernel), List.mem_of_getElem? (i := 536) (by decide +kernel), List.mem_of_getElem? (i := 537) (by decide +kernel)⟩
theorem lw_p29 : lw_okq (⟨"GiftShops", "endWeek", "()V"⟩, 18) := ⟨⟨by decide +kernel, by decide +kernel⟩, List.mem_of_getElem? (i := 24) (by decide +kernel), List.mem_of_getElem? (i := 553) (by decide +kernel), List.mem_of_getElem? (i := 554) (by decide +kernel)⟩
theorem lw_p30 : lw_okq (⟨"GiftShops", "endWeekOnShelf", "(LGiftShops$Thing;)V"⟩, 18) := ⟨⟨by decide +kernel, by decide +kernel⟩, List.mem_of_getElem? (i := 24) (by decide +kernel), List.mem_of_getElem? (i := 557) (by decide +kernel), List.mem_of_getElem? (i := 558) (by decide +kernel)⟩
theorem lw_p31 : lw_okq (⟨"GiftShops", "leaveShelf", "(LGiftShops$Thing;I)V"⟩, 18) := ⟨⟨by decide +kernel, by decide +kernel⟩, List.mem_of_getElem? (i := 24) (by decide +kernel), List.mem_of_getElem? (i := 561) (by decide +kernel), List.mem_of_getElem? (i := 562) (by decide +kernel)⟩
def lw_privs_2 : List (MethodName × Nat) := [(⟨"GiftShops$Parser", "readSum", "(I)Z"⟩, 3), (⟨"GiftShops$Parser", "readPart", "(I)Z"⟩, 3), (⟨"GiftShops$Scanner", "isFact", "()Z"⟩, 5), (⟨"GiftShops$Rules", "add", "(I)V"⟩, 6), (⟨"GiftShops$Scanner", "factTold", "()I"⟩, 5), (⟨"GiftShops$Rules", "endLine", "(I)V"⟩, 6), (⟨"GiftShops", "sortFor", "(LGiftShops$Thing;I)V"⟩, 18), (⟨"GiftShops", "wayByText", "(LGiftShops$Thing;)I"⟩, 18), (⟨"GiftShops", "seasonNow", "()I"⟩, 18), (⟨"GiftShops$Rules", "wayFor", "([I)I"⟩, 6), (⟨"GiftShops$Rules", "valueOf", "(II[I)I"⟩, 6), (⟨"GiftShops$Shop", "hasRoom", "()Z"⟩, 5), (⟨"GiftShops", "comeOnShelf", "(LGiftShops$Thing;II)V"⟩, 18), (⟨"GiftShops", "endWeek", "()V"⟩, 18), (⟨"GiftShops", "endWeekOnShelf", "(LGiftShops$Thing;)V"⟩, 18), (⟨"GiftShops", "leaveShelf", "(LGiftShops$Thing;I)V"⟩, 18)]
theorem lw_r2 : ∀ q ∈ lw_privs_2, lw_okq q := List.forall_mem_cons.mpr ⟨lw_p16, List.forall_mem_cons.mpr ⟨lw_p17, List.forall_mem_cons.mpr ⟨lw_p18, List.forall_mem_cons.mpr ⟨lw_p19, List.forall_mem_cons.mpr ⟨lw_p20, List.forall_mem_cons.mpr ⟨lw_p21, List.forall_mem_cons.mpr ⟨lw_p22, List.forall_mem_cons.mpr ⟨lw_p23, List.forall_mem_cons.mpr ⟨lw_p24, List.forall_mem_cons.mpr ⟨lw_p25, List.forall_mem_cons.mpr ⟨lw_p26, List.forall_mem_cons.mpr ⟨lw_p27, List.forall_mem_cons.mpr ⟨lw_p28, List.forall_mem_cons.mpr ⟨lw_p29, List.forall_mem_cons.mpr ⟨lw_p30, List.forall_mem_cons.mpr ⟨lw_p31, fun _ h => absurd h List.not_mem_nil⟩⟩⟩⟩⟩⟩⟩⟩⟩⟩⟩⟩⟩⟩⟩⟩
theorem lw_p32 : lw_okq (⟨"GiftShops", "beginSeason", "()V"⟩, 18) := ⟨⟨by decide +kernel, by decide +kernel⟩, List.mem_of_getElem? (i := 24) (by decide +kernel), List.mem_of_getElem? (i := 565) (by decide +kernel), List.mem_of_getElem? (i := 566) (by decide +kernel)⟩
theorem lw_p33 : lw_okq (⟨"GiftShops", "firstShopWithRoom", "()I"⟩, 18) := ⟨⟨by decide +kernel, by decide +kernel⟩, List.mem_of_getElem? (i := 24) (by decide +kernel), List.mem_of_getElem? (i := 569) (by decide +kernel), List.mem_of_getElem? (i := 570) (by decide +kernel)⟩
theorem lw_p34 : lw_okq (⟨"GiftShops", "liesOnShelf", "(I)Z"⟩, 18) := ⟨⟨by decide +kernel, by decide +kernel⟩, List.mem_of_getElem? (i := 24) (by decide +kernel), List.mem_of_getElem? (i := 577) (by decide +kernel), List.mem_of_getElem? (i := 578) (by decide +kernel)⟩
theorem lw_p35 : lw_okq (⟨"GiftShops", "priceNow", "(LGiftShops$Thing;)I"⟩, 18) := ⟨⟨by decide +kernel, by decide +kernel⟩, List.mem_of_getElem? (i := 24) (by decide +kernel), List.mem_of_getElem? (i := 581) (by decide +kernel), List.mem_of_getElem? (i := 582) (by decide +kernel)⟩
theorem lw_p36 : lw_okq (⟨"GiftShops", "worthIn", "(LGiftShops$Thing;I)I"⟩, 18) := ⟨⟨by decide +kernel, by decide +kernel⟩, List.mem_of_getElem? (i := 24) (by decide +kernel), List.mem_of_getElem? (i := 635) (by decide +kernel), List.mem_of_getElem? (i := 636) (by decide +kernel)⟩
theorem lw_p37 : lw_okq (⟨"GiftShops$Shop", "expected", "(II)I"⟩, 5) := ⟨⟨by decide +kernel, by decide +kernel⟩, List.mem_of_getElem? (i := 37) (by decide +kernel), List.mem_of_getElem? (i := 639) (by decide +kernel), List.mem_of_getElem? (i := 640) (by decide +kernel)⟩
theorem lw_p38 : lw_okq (⟨"GiftShops", "betterShop", "(LGiftShops$Thing;)I"⟩, 18) := ⟨⟨by decide +kernel, by decide +kernel⟩, List.mem_of_getElem? (i := 24) (by decide +kernel), List.mem_of_getElem? (i := 647) (by decide +kernel), List.mem_of_getElem? (i := 648) (by decide +kernel)⟩
theorem lw_p39 : lw_okq (⟨"GiftShops$Roads", "tell", "(III)Z"⟩, 2) := ⟨⟨by decide +kernel, by decide +kernel⟩, List.mem_of_getElem? (i := 149) (by decide +kernel), List.mem_of_getElem? (i := 663) (by decide +kernel), List.mem_of_getElem? (i := 664) (by decide +kernel)⟩
theorem lw_p40 : lw_okq (⟨"GiftShops$Roads", "shortestRound", "(I)I"⟩, 2) := ⟨⟨by decide +kernel, by decide +kernel⟩, List.mem_of_getElem? (i := 149) (by decide +kernel), List.mem_of_getElem? (i := 672) (by decide +kernel), List.mem_of_getElem? (i := 673) (by decide +kernel)⟩
theorem lw_p41 : lw_okq (⟨"GiftShops$Roads", "fillPart", "(I)V"⟩, 2) := ⟨⟨by decide +kernel, by decide +kernel⟩, List.mem_of_getElem? (i := 149) (by decide +kernel), List.mem_of_getElem? (i := 676) (by decide +kernel), List.mem_of_getElem? (i := 677) (by decide +kernel)⟩
theorem lw_p42 : lw_okq (⟨"GiftShops$Roads", "leastInto", "(II)I"⟩, 2) := ⟨⟨by decide +kernel, by decide +kernel⟩, List.mem_of_getElem? (i := 149) (by decide +kernel), List.mem_of_getElem? (i := 680) (by decide +kernel), List.mem_of_getElem? (i := 681) (by decide +kernel)⟩
theorem lw_p43 : lw_okq (⟨"GiftShops$Turns", "addHelper", "(I)I"⟩, 5) := ⟨⟨by decide +kernel, by decide +kernel⟩, List.mem_of_getElem? (i := 162) (by decide +kernel), List.mem_of_getElem? (i := 690) (by decide +kernel), List.mem_of_getElem? (i := 691) (by decide +kernel)⟩
theorem lw_p44 : lw_okq (⟨"GiftShops$Turns", "leastTurns", "(I)I"⟩, 5) := ⟨⟨by decide +kernel, by decide +kernel⟩, List.mem_of_getElem? (i := 162) (by decide +kernel), List.mem_of_getElem? (i := 699) (by decide +kernel), List.mem_of_getElem? (i := 700) (by decide +kernel)⟩
theorem lw_p45 : lw_okq (⟨"GiftShops$Turns", "eachDayHasTwo", "(I)Z"⟩, 5) := ⟨⟨by decide +kernel, by decide +kernel⟩, List.mem_of_getElem? (i := 162) (by decide +kernel), List.mem_of_getElem? (i := 703) (by decide +kernel), List.mem_of_getElem? (i := 704) (by decide +kernel)⟩
theorem lw_p46 : lw_okq (⟨"GiftShops$Turns", "helpersOn", "(I)I"⟩, 5) := ⟨⟨by decide +kernel, by decide +kernel⟩, List.mem_of_getElem? (i := 162) (by decide +kernel), List.mem_of_getElem? (i := 707) (by decide +kernel), List.mem_of_getElem? (i := 708) (by decide +kernel)⟩
theorem lw_p47 : lw_okq (⟨"GiftShops$Turns", "fillPlace", "(II)I"⟩, 5) := ⟨⟨by decide +kernel, by decide +kernel⟩, List.mem_of_getElem? (i := 162) (by decide +kernel), List.mem_of_getElem? (i := 711) (by decide +kernel), List.mem_of_getElem? (i := 712) (by decide +kernel)⟩
def lw_privs_3 : List (MethodName × Nat) := [(⟨"GiftShops", "beginSeason", "()V"⟩, 18), (⟨"GiftShops", "firstShopWithRoom", "()I"⟩, 18), (⟨"GiftShops", "liesOnShelf", "(I)Z"⟩, 18), (⟨"GiftShops", "priceNow", "(LGiftShops$Thing;)I"⟩, 18), (⟨"GiftShops", "worthIn", "(LGiftShops$Thing;I)I"⟩, 18), (⟨"GiftShops$Shop", "expected", "(II)I"⟩, 5), (⟨"GiftShops", "betterShop", "(LGiftShops$Thing;)I"⟩, 18), (⟨"GiftShops$Roads", "tell", "(III)Z"⟩, 2), (⟨"GiftShops$Roads", "shortestRound", "(I)I"⟩, 2), (⟨"GiftShops$Roads", "fillPart", "(I)V"⟩, 2), (⟨"GiftShops$Roads", "leastInto", "(II)I"⟩, 2), (⟨"GiftShops$Turns", "addHelper", "(I)I"⟩, 5), (⟨"GiftShops$Turns", "leastTurns", "(I)I"⟩, 5), (⟨"GiftShops$Turns", "eachDayHasTwo", "(I)Z"⟩, 5), (⟨"GiftShops$Turns", "helpersOn", "(I)I"⟩, 5), (⟨"GiftShops$Turns", "fillPlace", "(II)I"⟩, 5)]
theorem lw_r3 : ∀ q ∈ lw_privs_3, lw_okq q := List.forall_mem_cons.mpr ⟨lw_p32, List.forall_mem_cons.mpr ⟨lw_p33, List.forall_mem_cons.mpr ⟨lw_p34, List.forall_mem_cons.mpr ⟨lw_p35, List.forall_mem_cons.mpr ⟨lw_p36, List.forall_mem_cons.mpr ⟨lw_p37, List.forall_mem_cons.mpr ⟨lw_p38, List.forall_mem_cons.mpr ⟨lw_p39, List.forall_mem_cons.mpr ⟨lw_p40, List.forall_mem_cons.mpr ⟨lw_p41, List.forall_mem_cons.mpr ⟨lw_p42, List.forall_mem_cons.mpr ⟨lw_p43, List.forall_mem_cons.mpr ⟨lw_p44, List.forall_mem_cons.mpr ⟨lw_p45, List.forall_mem_cons.mpr ⟨lw_p46, List.forall_mem_cons.mpr ⟨lw_p47, fun _ h => absurd h List.not_mem_nil⟩⟩⟩⟩⟩⟩⟩⟩⟩⟩⟩⟩⟩⟩⟩⟩
theorem lw_p48 : lw_okq (⟨"GiftShops$Turns", "findHelper", "(III)Z"⟩, 5) := ⟨⟨by decide +kernel, by decide +kernel⟩, List.mem_of_getElem? (i := 162) (by decide +kernel), List.mem_of_getElem? (i := 715) (by decide +kernel), List.mem_of_getElem? (i := 716) (by decide +kernel)⟩
theorem lw_p49 : lw_okq (⟨"GiftShops$Turns", "handOver", "(III)Z"⟩, 5) := ⟨⟨by decide +kernel, by decide +kernel⟩, List.mem_of_getElem? (i := 162) (by decide +kernel), List.mem_of_getElem? (i := 725) (by decide +kernel), List.mem_of_getElem? (i := 726) (by decide +kernel)⟩
theorem lw_p50 : lw_okq (⟨"GiftShops", "validSales", "()I"⟩, 18) := ⟨⟨by decide +kernel, by decide +kernel⟩, List.mem_of_getElem? (i := 24) (by decide +kernel), List.mem_of_getElem? (i := 741) (by decide +kernel), List.mem_of_getElem? (i := 742) (by decide +kernel)⟩
theorem lw_p51 : lw_okq (⟨"GiftShops", "validSum", "()I"⟩, 18) := ⟨⟨by decide +kernel, by decide +kernel⟩, List.mem_of_getElem? (i := 24) (by decide +kernel), List.mem_of_getElem? (i := 745) (by decide +kernel), List.mem_of_getElem? (i := 746) (by decide +kernel)⟩
theorem lw_p52 : lw_okq (⟨"GiftShops", "thingsThatAre", "(I)I"⟩, 18) := ⟨⟨by decide +kernel, by decide +kernel⟩, List.mem_of_getElem? (i := 24) (by decide +kernel), List.mem_of_getElem? (i := 749) (by decide +kernel), List.mem_of_getElem? (i := 750) (by decide +kernel)⟩
theorem lw_p53 : lw_okq (⟨"java/lang/Throwable", "fillInStackTrace", "(I)Ljava/lang/Throwable;"⟩, 6) := ⟨⟨by decide +kernel, by decide +kernel⟩, List.mem_of_getElem? (i := 797) (by decide +kernel), List.mem_of_getElem? (i := 795) (by decide +kernel), List.mem_of_getElem? (i := 796) (by decide +kernel)⟩
theorem lw_p54 : lw_okq (⟨"GiftShopsModel", "lay", "(J)V"⟩, 54) := ⟨⟨by decide +kernel, by decide +kernel⟩, List.mem_of_getElem? (i := 836) (by decide +kernel), List.mem_of_getElem? (i := 834) (by decide +kernel), List.mem_of_getElem? (i := 835) (by decide +kernel)⟩
theorem lw_p55 : lw_okq (⟨"GiftShopsModel", "cutAll", "()V"⟩, 54) := ⟨⟨by decide +kernel, by decide +kernel⟩, List.mem_of_getElem? (i := 836) (by decide +kernel), List.mem_of_getElem? (i := 1025) (by decide +kernel), List.mem_of_getElem? (i := 1026) (by decide +kernel)⟩
theorem lw_p56 : lw_okq (⟨"GiftShopsModel", "line", "()V"⟩, 54) := ⟨⟨by decide +kernel, by decide +kernel⟩, List.mem_of_getElem? (i := 836) (by decide +kernel), List.mem_of_getElem? (i := 1044) (by decide +kernel), List.mem_of_getElem? (i := 1045) (by decide +kernel)⟩
theorem lw_p57 : lw_okq (⟨"GiftShopsModel", "isWord", "(I)Z"⟩, 54) := ⟨⟨by decide +kernel, by decide +kernel⟩, List.mem_of_getElem? (i := 836) (by decide +kernel), List.mem_of_getElem? (i := 1048) (by decide +kernel), List.mem_of_getElem? (i := 1049) (by decide +kernel)⟩
theorem lw_p58 : lw_okq (⟨"GiftShopsModel", "wrong", "(I)V"⟩, 54) := ⟨⟨by decide +kernel, by decide +kernel⟩, List.mem_of_getElem? (i := 836) (by decide +kernel), List.mem_of_getElem? (i := 1052) (by decide +kernel), List.mem_of_getElem? (i := 1053) (by decide +kernel)⟩
theorem lw_p59 : lw_okq (⟨"GiftShopsModel", "takeWord", "(I)V"⟩, 54) := ⟨⟨by decide +kernel, by decide +kernel⟩, List.mem_of_getElem? (i := 836) (by decide +kernel), List.mem_of_getElem? (i := 1056) (by decide +kernel), List.mem_of_getElem? (i := 1057) (by decide +kernel)⟩
theorem lw_p60 : lw_okq (⟨"GiftShopsModel", "hasWord", "(I)Z"⟩, 54) := ⟨⟨by decide +kernel, by decide +kernel⟩, List.mem_of_getElem? (i := 836) (by decide +kernel), List.mem_of_getElem? (i := 1060) (by decide +kernel), List.mem_of_getElem? (i := 1061) (by decide +kernel)⟩
theorem lw_p61 : lw_okq (⟨"GiftShopsModel", "opens", "()V"⟩, 54) := ⟨⟨by decide +kernel, by decide +kernel⟩, List.mem_of_getElem? (i := 836) (by decide +kernel), List.mem_of_getElem? (i := 1064) (by decide +kernel), List.mem_of_getElem? (i := 1065) (by decide +kernel)⟩
theorem lw_p62 : lw_okq (⟨"GiftShopsModel", "part", "()Z"⟩, 54) := ⟨⟨by decide +kernel, by decide +kernel⟩, List.mem_of_getElem? (i := 836) (by decide +kernel), List.mem_of_getElem? (i := 1068) (by decide +kernel), List.mem_of_getElem? (i := 1069) (by decide +kernel)⟩
theorem lw_p63 : lw_okq (⟨"GiftShopsModel", "partWord", "()I"⟩, 54) := ⟨⟨by decide +kernel, by decide +kernel⟩, List.mem_of_getElem? (i := 836) (by decide +kernel), List.mem_of_getElem? (i := 1072) (by decide +kernel), List.mem_of_getElem? (i := 1073) (by decide +kernel)⟩
def lw_privs_4 : List (MethodName × Nat) := [(⟨"GiftShops$Turns", "findHelper", "(III)Z"⟩, 5), (⟨"GiftShops$Turns", "handOver", "(III)Z"⟩, 5), (⟨"GiftShops", "validSales", "()I"⟩, 18), (⟨"GiftShops", "validSum", "()I"⟩, 18), (⟨"GiftShops", "thingsThatAre", "(I)I"⟩, 18), (⟨"java/lang/Throwable", "fillInStackTrace", "(I)Ljava/lang/Throwable;"⟩, 6), (⟨"GiftShopsModel", "lay", "(J)V"⟩, 54), (⟨"GiftShopsModel", "cutAll", "()V"⟩, 54), (⟨"GiftShopsModel", "line", "()V"⟩, 54), (⟨"GiftShopsModel", "isWord", "(I)Z"⟩, 54), (⟨"GiftShopsModel", "wrong", "(I)V"⟩, 54), (⟨"GiftShopsModel", "takeWord", "(I)V"⟩, 54), (⟨"GiftShopsModel", "hasWord", "(I)Z"⟩, 54), (⟨"GiftShopsModel", "opens", "()V"⟩, 54), (⟨"GiftShopsModel", "part", "()Z"⟩, 54), (⟨"GiftShopsModel", "partWord", "()I"⟩, 54)]
theorem lw_r4 : ∀ q ∈ lw_privs_4, lw_okq q := List.forall_mem_cons.mpr ⟨lw_p48, List.forall_mem_cons.mpr ⟨lw_p49, List.forall_mem_cons.mpr ⟨lw_p50, List.forall_mem_cons.mpr ⟨lw_p51, List.forall_mem_cons.mpr ⟨lw_p52, List.forall_mem_cons.mpr ⟨lw_p53, List.forall_mem_cons.mpr ⟨lw_p54, List.forall_mem_cons.mpr ⟨lw_p55, List.forall_mem_cons.mpr ⟨lw_p56, List.forall_mem_cons.mpr ⟨lw_p57, List.forall_mem_cons.mpr ⟨lw_p58, List.forall_mem_cons.mpr ⟨lw_p59, List.forall_mem_cons.mpr ⟨lw_p60, List.forall_mem_cons.mpr ⟨lw_p61, List.forall_mem_cons.mpr ⟨lw_p62, List.forall_mem_cons.mpr ⟨lw_p63, fun _ h => absurd h List.not_mem_nil⟩⟩⟩⟩⟩⟩⟩⟩⟩⟩⟩⟩⟩⟩⟩⟩
theorem lw_p64 : lw_okq (⟨"GiftShopsModel", "isSign", "(I)Z"⟩, 54) := ⟨⟨by decide +kernel, by decide +kernel⟩, List.mem_of_getElem? (i := 836) (by decide +kernel), List.mem_of_getElem? (i := 1076) (by decide +kernel), List.mem_of_getElem? (i := 1077) (by decide +kernel)⟩
theorem lw_p65 : lw_okq (⟨"GiftShopsModel", "hasSign", "(I)Z"⟩, 54) := ⟨⟨by decide +kernel, by decide +kernel⟩, List.mem_of_getElem? (i := 836) (by decide +kernel), List.mem_of_getElem? (i := 1080) (by decide +kernel), List.mem_of_getElem? (i := 1081) (by decide +kernel)⟩
theorem lw_p66 : lw_okq (⟨"GiftShopsModel", "emit", "(II)V"⟩, 54) := ⟨⟨by decide +kernel, by decide +kernel⟩, List.mem_of_getElem? (i := 836) (by decide +kernel), List.mem_of_getElem? (i := 1084) (by decide +kernel), List.mem_of_getElem? (i := 1085) (by decide +kernel)⟩
theorem lw_p67 : lw_okq (⟨"GiftShopsModel", "goesOnBehind", "()Z"⟩, 54) := ⟨⟨by decide +kernel, by decide +kernel⟩, List.mem_of_getElem? (i := 836) (by decide +kernel), List.mem_of_getElem? (i := 1088) (by decide +kernel), List.mem_of_getElem? (i := 1089) (by decide +kernel)⟩
theorem lw_p68 : lw_okq (⟨"GiftShopsModel", "takeSign", "(I)V"⟩, 54) := ⟨⟨by decide +kernel, by decide +kernel⟩, List.mem_of_getElem? (i := 836) (by decide +kernel), List.mem_of_getElem? (i := 1092) (by decide +kernel), List.mem_of_getElem? (i := 1093) (by decide +kernel)⟩
theorem lw_p69 : lw_okq (⟨"GiftShopsModel", "isThing", "(I)Z"⟩, 54) := ⟨⟨by decide +kernel, by decide +kernel⟩, List.mem_of_getElem? (i := 836) (by decide +kernel), List.mem_of_getElem? (i := 1118) (by decide +kernel), List.mem_of_getElem? (i := 1119) (by decide +kernel)⟩
theorem lw_p70 : lw_okq (⟨"GiftShopsModel", "sorts", "(II)V"⟩, 54) := ⟨⟨by decide +kernel, by decide +kernel⟩, List.mem_of_getElem? (i := 836) (by decide +kernel), List.mem_of_getElem? (i := 1122) (by decide +kernel), List.mem_of_getElem? (i := 1123) (by decide +kernel)⟩
theorem lw_p71 : lw_okq (⟨"GiftShopsModel", "wayOf", "(I)I"⟩, 54) := ⟨⟨by decide +kernel, by decide +kernel⟩, List.mem_of_getElem? (i := 836) (by decide +kernel), List.mem_of_getElem? (i := 1126) (by decide +kernel), List.mem_of_getElem? (i := 1127) (by decide +kernel)⟩
theorem lw_p72 : lw_okq (⟨"GiftShopsModel", "seasonNow", "()I"⟩, 54) := ⟨⟨by decide +kernel, by decide +kernel⟩, List.mem_of_getElem? (i := 836) (by decide +kernel), List.mem_of_getElem? (i := 1130) (by decide +kernel), List.mem_of_getElem? (i := 1131) (by decide +kernel)⟩
theorem lw_p73 : lw_okq (⟨"GiftShopsModel", "valueOf", "(I)I"⟩, 54) := ⟨⟨by decide +kernel, by decide +kernel⟩, List.mem_of_getElem? (i := 836) (by decide +kernel), List.mem_of_getElem? (i := 1134) (by decide +kernel), List.mem_of_getElem? (i := 1135) (by decide +kernel)⟩
theorem lw_p74 : lw_okq (⟨"GiftShopsModel", "hasRoom", "(I)Z"⟩, 54) := ⟨⟨by decide +kernel, by decide +kernel⟩, List.mem_of_getElem? (i := 836) (by decide +kernel), List.mem_of_getElem? (i := 1138) (by decide +kernel), List.mem_of_getElem? (i := 1139) (by decide +kernel)⟩
theorem lw_p75 : lw_okq (⟨"GiftShopsModel", "onShelf", "(I)I"⟩, 54) := ⟨⟨by decide +kernel, by decide +kernel⟩, List.mem_of_getElem? (i := 836) (by decide +kernel), List.mem_of_getElem? (i := 1142) (by decide +kernel), List.mem_of_getElem? (i := 1143) (by decide +kernel)⟩
theorem lw_p76 : lw_okq (⟨"GiftShopsModel", "comesOn", "(II)V"⟩, 54) := ⟨⟨by decide +kernel, by decide +kernel⟩, List.mem_of_getElem? (i := 836) (by decide +kernel), List.mem_of_getElem? (i := 1146) (by decide +kernel), List.mem_of_getElem? (i := 1147) (by decide +kernel)⟩
theorem lw_p77 : lw_okq (⟨"GiftShopsModel", "week", "()V"⟩, 54) := ⟨⟨by decide +kernel, by decide +kernel⟩, List.mem_of_getElem? (i := 836) (by decide +kernel), List.mem_of_getElem? (i := 1162) (by decide +kernel), List.mem_of_getElem? (i := 1163) (by decide +kernel)⟩
theorem lw_p78 : lw_okq (⟨"GiftShopsModel", "firstWithRoom", "()I"⟩, 54) := ⟨⟨by decide +kernel, by decide +kernel⟩, List.mem_of_getElem? (i := 836) (by decide +kernel), List.mem_of_getElem? (i := 1166) (by decide +kernel), List.mem_of_getElem? (i := 1167) (by decide +kernel)⟩
theorem lw_p79 : lw_okq (⟨"GiftShopsModel", "isOn", "(I)Z"⟩, 54) := ⟨⟨by decide +kernel, by decide +kernel⟩, List.mem_of_getElem? (i := 836) (by decide +kernel), List.mem_of_getElem? (i := 1174) (by decide +kernel), List.mem_of_getElem? (i := 1175) (by decide +kernel)⟩
def lw_privs_5 : List (MethodName × Nat) := [(⟨"GiftShopsModel", "isSign", "(I)Z"⟩, 54), (⟨"GiftShopsModel", "hasSign", "(I)Z"⟩, 54), (⟨"GiftShopsModel", "emit", "(II)V"⟩, 54), (⟨"GiftShopsModel", "goesOnBehind", "()Z"⟩, 54), (⟨"GiftShopsModel", "takeSign", "(I)V"⟩, 54), (⟨"GiftShopsModel", "isThing", "(I)Z"⟩, 54), (⟨"GiftShopsModel", "sorts", "(II)V"⟩, 54), (⟨"GiftShopsModel", "wayOf", "(I)I"⟩, 54), (⟨"GiftShopsModel", "seasonNow", "()I"⟩, 54), (⟨"GiftShopsModel", "valueOf", "(I)I"⟩, 54), (⟨"GiftShopsModel", "hasRoom", "(I)Z"⟩, 54), (⟨"GiftShopsModel", "onShelf", "(I)I"⟩, 54), (⟨"GiftShopsModel", "comesOn", "(II)V"⟩, 54), (⟨"GiftShopsModel", "week", "()V"⟩, 54), (⟨"GiftShopsModel", "firstWithRoom", "()I"⟩, 54), (⟨"GiftShopsModel", "isOn", "(I)Z"⟩, 54)]
theorem lw_r5 : ∀ q ∈ lw_privs_5, lw_okq q := List.forall_mem_cons.mpr ⟨lw_p64, List.forall_mem_cons.mpr ⟨lw_p65, List.forall_mem_cons.mpr ⟨lw_p66, List.forall_mem_cons.mpr ⟨lw_p67, List.forall_mem_cons.mpr ⟨lw_p68, List.forall_mem_cons.mpr ⟨lw_p69, List.forall_mem_cons.mpr ⟨lw_p70, List.forall_mem_cons.mpr ⟨lw_p71, List.forall_mem_cons.mpr ⟨lw_p72, List.forall_mem_cons.mpr ⟨lw_p73, List.forall_mem_cons.mpr ⟨lw_p74, List.forall_mem_cons.mpr ⟨lw_p75, List.forall_mem_cons.mpr ⟨lw_p76, List.forall_mem_cons.mpr ⟨lw_p77, List.forall_mem_cons.mpr ⟨lw_p78, List.forall_mem_cons.mpr ⟨lw_p79, fun _ h => absurd h List.not_mem_nil⟩⟩⟩⟩⟩⟩⟩⟩⟩⟩⟩⟩⟩⟩⟩⟩
theorem lw_p80 : lw_okq (⟨"GiftShopsModel", "priceOf", "(I)I"⟩, 54) := ⟨⟨by decide +kernel, by decide +kernel⟩, List.mem_of_getElem? (i := 836) (by decide +kernel), List.mem_of_getElem? (i := 1178) (by decide +kernel), List.mem_of_getElem? (i := 1179) (by decide +kernel)⟩
theorem lw_p81 : lw_okq (⟨"GiftShopsModel", "weighs", "(III)I"⟩, 54) := ⟨⟨by decide +kernel, by decide +kernel⟩, List.mem_of_getElem? (i := 836) (by decide +kernel), List.mem_of_getElem? (i := 1202) (by decide +kernel), List.mem_of_getElem? (i := 1203) (by decide +kernel)⟩
theorem lw_p82 : lw_okq (⟨"GiftShopsModel", "whereTo", "(I)I"⟩, 54) := ⟨⟨by decide +kernel, by decide +kernel⟩, List.mem_of_getElem? (i := 836) (by decide +kernel), List.mem_of_getElem? (i := 1210) (by decide +kernel), List.mem_of_getElem? (i := 1211) (by decide +kernel)⟩
theorem lw_p83 : lw_okq (⟨"GiftShopsModel", "goes", "(II)I"⟩, 54) := ⟨⟨by decide +kernel, by decide +kernel⟩, List.mem_of_getElem? (i := 836) (by decide +kernel), List.mem_of_getElem? (i := 1230) (by decide +kernel), List.mem_of_getElem? (i := 1231) (by decide +kernel)⟩
theorem lw_p84 : lw_okq (⟨"GiftShopsModel", "canBe", "(I)Z"⟩, 54) := ⟨⟨by decide +kernel, by decide +kernel⟩, List.mem_of_getElem? (i := 836) (by decide +kernel), List.mem_of_getElem? (i := 1242) (by decide +kernel), List.mem_of_getElem? (i := 1243) (by decide +kernel)⟩
theorem lw_p85 : lw_okq (⟨"GiftShopsModel", "finds", "(I)Z"⟩, 54) := ⟨⟨by decide +kernel, by decide +kernel⟩, List.mem_of_getElem? (i := 836) (by decide +kernel), List.mem_of_getElem? (i := 1246) (by decide +kernel), List.mem_of_getElem? (i := 1247) (by decide +kernel)⟩
theorem lw_p86 : lw_okq (⟨"GiftShopsModel", "loadOf", "(I)I"⟩, 54) := ⟨⟨by decide +kernel, by decide +kernel⟩, List.mem_of_getElem? (i := 836) (by decide +kernel), List.mem_of_getElem? (i := 1250) (by decide +kernel), List.mem_of_getElem? (i := 1251) (by decide +kernel)⟩
theorem lw_p87 : lw_okq (⟨"GiftShopsModel", "givesWay", "(I)Z"⟩, 54) := ⟨⟨by decide +kernel, by decide +kernel⟩, List.mem_of_getElem? (i := 836) (by decide +kernel), List.mem_of_getElem? (i := 1254) (by decide +kernel), List.mem_of_getElem? (i := 1255) (by decide +kernel)⟩
theorem lw_p88 : lw_okq (⟨"GiftShopsModel", "thingsThat", "(I)I"⟩, 54) := ⟨⟨by decide +kernel, by decide +kernel⟩, List.mem_of_getElem? (i := 836) (by decide +kernel), List.mem_of_getElem? (i := 1274) (by decide +kernel), List.mem_of_getElem? (i := 1275) (by decide +kernel)⟩
def lw_privs_6 : List (MethodName × Nat) := [(⟨"GiftShopsModel", "priceOf", "(I)I"⟩, 54), (⟨"GiftShopsModel", "weighs", "(III)I"⟩, 54), (⟨"GiftShopsModel", "whereTo", "(I)I"⟩, 54), (⟨"GiftShopsModel", "goes", "(II)I"⟩, 54), (⟨"GiftShopsModel", "canBe", "(I)Z"⟩, 54), (⟨"GiftShopsModel", "finds", "(I)Z"⟩, 54), (⟨"GiftShopsModel", "loadOf", "(I)I"⟩, 54), (⟨"GiftShopsModel", "givesWay", "(I)Z"⟩, 54), (⟨"GiftShopsModel", "thingsThat", "(I)I"⟩, 54)]
theorem lw_r6 : ∀ q ∈ lw_privs_6, lw_okq q := List.forall_mem_cons.mpr ⟨lw_p80, List.forall_mem_cons.mpr ⟨lw_p81, List.forall_mem_cons.mpr ⟨lw_p82, List.forall_mem_cons.mpr ⟨lw_p83, List.forall_mem_cons.mpr ⟨lw_p84, List.forall_mem_cons.mpr ⟨lw_p85, List.forall_mem_cons.mpr ⟨lw_p86, List.forall_mem_cons.mpr ⟨lw_p87, List.forall_mem_cons.mpr ⟨lw_p88, fun _ h => absurd h List.not_mem_nil⟩⟩⟩⟩⟩⟩⟩⟩⟩
def lw_privs : List (MethodName × Nat) := lw_privs_1 ++ (lw_privs_2 ++ (lw_privs_3 ++ (lw_privs_4 ++ (lw_privs_5 ++ (lw_privs_6)))))
def lw_tbl : List Cond := k2_sels lw_privs ++ tables_1
theorem lw_privs_ok : ∀ q ∈ lw_privs, lw_okq q := by
  show ∀ q ∈ lw_privs_1 ++ (lw_privs_2 ++ (lw_privs_3 ++ (lw_privs_4 ++ (lw_privs_5 ++ (lw_privs_6))))), lw_okq q
  exact List.forall_mem_append.mpr ⟨lw_r1, List.forall_mem_append.mpr ⟨lw_r2, List.forall_mem_append.mpr ⟨lw_r3, List.forall_mem_append.mpr ⟨lw_r4, List.forall_mem_append.mpr ⟨lw_r5, lw_r6⟩⟩⟩⟩⟩
end
section
def RX0 : String := "GiftShops$Parser"
def TX0 : u_T := fun k => match k with
  | 0 => ("GiftShops$Parser", "scanner", "LGiftShops$Scanner;", true)
  | 1 => ("GiftShops$Parser", "into", "LGiftShops$Rules;", false)
  | _ => ("GiftShops$Parser", "fault", "I", false)
def tyX0 : Nat → FieldType := fun k => match k with
  | 0 => .object "GiftShops$Scanner"
  | 1 => .object "GiftShops$Rules"
  | _ => .int
abbrev wsX00 : List Cond := u_ws RX0 TX0 3
theorem nmX0 : ∀ a, a < 3 → ∀ b, b < 3 → a ≠ b → (TX0 a).2.1 ≠ (TX0 b).2.1 := by decide +kernel
theorem tyX0_ok : ∀ k, k < 3 → parseFieldDescriptor (TX0 k).2.2.1 = some (tyX0 k) := by decide +kernel
theorem iX0 : ∀ w ∈ wsX00, w ∈ lw_tbl := by decide +kernel
def RX1 : String := "GiftShops$Roads"
def TX1 : u_T := fun k => match k with
  | 0 => ("GiftShops$Roads", "lengths", "[I", true)
  | _ => ("GiftShops$Roads", "endingAt", "[I", true)
def tyX1 : Nat → FieldType := fun k => match k with
  | 0 => .array .int
  | _ => .array .int
abbrev wsX10 : List Cond := u_ws RX1 TX1 2
theorem nmX1 : ∀ a, a < 2 → ∀ b, b < 2 → a ≠ b → (TX1 a).2.1 ≠ (TX1 b).2.1 := by decide +kernel
theorem tyX1_ok : ∀ k, k < 2 → parseFieldDescriptor (TX1 k).2.2.1 = some (tyX1 k) := by decide +kernel
theorem iX1 : ∀ w ∈ wsX10, w ∈ lw_tbl := by decide +kernel
def RX2 : String := "GiftShops$Rules"
def TX2 : u_T := fun k => match k with
  | 0 => ("GiftShops$Rules", "codes", "[I", true)
  | 1 => ("GiftShops$Rules", "ends", "[I", true)
  | 2 => ("GiftShops$Rules", "ways", "[I", true)
  | 3 => ("GiftShops$Rules", "stack", "[I", true)
  | 4 => ("GiftShops$Rules", "size", "I", false)
  | _ => ("GiftShops$Rules", "lines", "I", false)
def tyX2 : Nat → FieldType := fun k => match k with
  | 0 => .array .int
  | 1 => .array .int
  | 2 => .array .int
  | 3 => .array .int
  | 4 => .int
  | _ => .int
abbrev wsX20 : List Cond := u_ws RX2 TX2 6
theorem nmX2 : ∀ a, a < 6 → ∀ b, b < 6 → a ≠ b → (TX2 a).2.1 ≠ (TX2 b).2.1 := by decide +kernel
theorem tyX2_ok : ∀ k, k < 6 → parseFieldDescriptor (TX2 k).2.2.1 = some (tyX2 k) := by decide +kernel
theorem iX2 : ∀ w ∈ wsX20, w ∈ lw_tbl := by decide +kernel
def RX3 : String := "GiftShops$Sale"
def TX3 : u_T := fun k => match k with
  | 0 => ("GiftShops$Sale", "thing", "LGiftShops$Thing;", true)
  | 1 => ("GiftShops$Sale", "shop", "I", true)
  | 2 => ("GiftShops$Sale", "since", "I", true)
  | 3 => ("GiftShops$Sale", "price", "I", true)
  | 4 => ("GiftShops$Sale", "week", "I", true)
  | _ => ("GiftShops$Sale", "isVoid", "Z", false)
def tyX3 : Nat → FieldType := fun k => match k with
  | 0 => .object "GiftShops$Thing"
  | 1 => .int
  | 2 => .int
  | 3 => .int
  | 4 => .int
  | _ => .boolean
abbrev wsX30 : List Cond := u_ws RX3 TX3 6
theorem nmX3 : ∀ a, a < 6 → ∀ b, b < 6 → a ≠ b → (TX3 a).2.1 ≠ (TX3 b).2.1 := by decide +kernel
theorem tyX3_ok : ∀ k, k < 6 → parseFieldDescriptor (TX3 k).2.2.1 = some (tyX3 k) := by decide +kernel
theorem iX3 : ∀ w ∈ wsX30, w ∈ lw_tbl := by decide +kernel
def RX4 : String := "GiftShops$Scanner"
def TX4 : u_T := fun k => match k with
  | 0 => ("GiftShops$Scanner", "tape", "LGiftShops$Tape;", true)
  | 1 => ("GiftShops$Scanner", "token", "I", false)
  | 2 => ("GiftShops$Scanner", "start", "I", false)
  | 3 => ("GiftShops$Scanner", "end", "I", false)
  | _ => ("GiftShops$Scanner", "number", "I", false)
def tyX4 : Nat → FieldType := fun k => match k with
  | 0 => .object "GiftShops$Tape"
  | 1 => .int
  | 2 => .int
  | 3 => .int
  | _ => .int
abbrev wsX40 : List Cond := u_ws RX4 TX4 5
theorem nmX4 : ∀ a, a < 5 → ∀ b, b < 5 → a ≠ b → (TX4 a).2.1 ≠ (TX4 b).2.1 := by decide +kernel
theorem tyX4_ok : ∀ k, k < 5 → parseFieldDescriptor (TX4 k).2.2.1 = some (tyX4 k) := by decide +kernel
theorem iX4 : ∀ w ∈ wsX40, w ∈ lw_tbl := by decide +kernel
def RX5 : String := "GiftShops$Shop"
def TX5 : u_T := fun k => match k with
  | 0 => ("GiftShops$Shop", "room", "I", false)
  | 1 => ("GiftShops$Shop", "lying", "I", false)
  | 2 => ("GiftShops$Shop", "lost", "I", false)
  | 3 => ("GiftShops$Shop", "sold", "[I", true)
  | _ => ("GiftShops$Shop", "lain", "[I", true)
def tyX5 : Nat → FieldType := fun k => match k with
  | 0 => .int
  | 1 => .int
  | 2 => .int
  | 3 => .array .int
  | _ => .array .int
abbrev wsX50 : List Cond := u_ws RX5 TX5 5
theorem nmX5 : ∀ a, a < 5 → ∀ b, b < 5 → a ≠ b → (TX5 a).2.1 ≠ (TX5 b).2.1 := by decide +kernel
theorem tyX5_ok : ∀ k, k < 5 → parseFieldDescriptor (TX5 k).2.2.1 = some (tyX5 k) := by decide +kernel
theorem iX5 : ∀ w ∈ wsX50, w ∈ lw_tbl := by decide +kernel
def RX6 : String := "GiftShops$Tape"
def TX6 : u_T := fun k => match k with
  | 0 => ("GiftShops$Tape", "signs", "[C", true)
  | _ => ("GiftShops$Tape", "length", "I", false)
def tyX6 : Nat → FieldType := fun k => match k with
  | 0 => .array .char
  | _ => .int
abbrev wsX60 : List Cond := u_ws RX6 TX6 2
theorem nmX6 : ∀ a, a < 2 → ∀ b, b < 2 → a ≠ b → (TX6 a).2.1 ≠ (TX6 b).2.1 := by decide +kernel
theorem tyX6_ok : ∀ k, k < 2 → parseFieldDescriptor (TX6 k).2.2.1 = some (tyX6 k) := by decide +kernel
theorem iX6 : ∀ w ∈ wsX60, w ∈ lw_tbl := by decide +kernel
def RX7 : String := "GiftShops$Thing"
def TX7 : u_T := fun k => match k with
  | 0 => ("GiftShops$Thing", "giver", "I", true)
  | 1 => ("GiftShops$Thing", "kind", "I", true)
  | 2 => ("GiftShops$Thing", "state", "I", true)
  | 3 => ("GiftShops$Thing", "season", "I", true)
  | 4 => ("GiftShops$Thing", "place", "I", false)
  | 5 => ("GiftShops$Thing", "shop", "I", false)
  | 6 => ("GiftShops$Thing", "since", "I", false)
  | 7 => ("GiftShops$Thing", "moves", "I", false)
  | _ => ("GiftShops$Thing", "lastSale", "I", false)
def tyX7 : Nat → FieldType := fun k => match k with
  | 0 => .int
  | 1 => .int
  | 2 => .int
  | 3 => .int
  | 4 => .int
  | 5 => .int
  | 6 => .int
  | 7 => .int
  | _ => .int
abbrev wsX70 : List Cond := u_ws RX7 TX7 9
theorem nmX7 : ∀ a, a < 9 → ∀ b, b < 9 → a ≠ b → (TX7 a).2.1 ≠ (TX7 b).2.1 := by decide +kernel
theorem tyX7_ok : ∀ k, k < 9 → parseFieldDescriptor (TX7 k).2.2.1 = some (tyX7 k) := by decide +kernel
theorem iX7 : ∀ w ∈ wsX70, w ∈ lw_tbl := by decide +kernel
def RX8 : String := "GiftShops$Turns"
def TX8 : u_T := fun k => match k with
  | 0 => ("GiftShops$Turns", "canCome", "[I", true)
  | 1 => ("GiftShops$Turns", "turnsOf", "[I", true)
  | 2 => ("GiftShops$Turns", "helpers", "I", false)
  | 3 => ("GiftShops$Turns", "triedHelpers", "I", false)
  | _ => ("GiftShops$Turns", "triedDays", "I", false)
def tyX8 : Nat → FieldType := fun k => match k with
  | 0 => .array .int
  | 1 => .array .int
  | 2 => .int
  | 3 => .int
  | _ => .int
abbrev wsX80 : List Cond := u_ws RX8 TX8 5
theorem nmX8 : ∀ a, a < 5 → ∀ b, b < 5 → a ≠ b → (TX8 a).2.1 ≠ (TX8 b).2.1 := by decide +kernel
theorem tyX8_ok : ∀ k, k < 5 → parseFieldDescriptor (TX8 k).2.2.1 = some (tyX8 k) := by decide +kernel
theorem iX8 : ∀ w ∈ wsX80, w ∈ lw_tbl := by decide +kernel
def RX9 : String := "GiftShops"
def TX9 : u_T := fun k => match k with
  | 0 => ("GiftShops", "things", "[LGiftShops$Thing;", true)
  | 1 => ("GiftShops", "thingCount", "I", false)
  | 2 => ("GiftShops", "sales", "[LGiftShops$Sale;", true)
  | 3 => ("GiftShops", "saleCount", "I", false)
  | 4 => ("GiftShops", "shops", "[LGiftShops$Shop;", true)
  | 5 => ("GiftShops", "bases", "[I", true)
  | 6 => ("GiftShops", "tape", "LGiftShops$Tape;", true)
  | 7 => ("GiftShops", "parser", "LGiftShops$Parser;", true)
  | 8 => ("GiftShops", "rules", "LGiftShops$Rules;", false)
  | 9 => ("GiftShops", "spareRules", "LGiftShops$Rules;", false)
  | 10 => ("GiftShops", "facts", "[I", true)
  | 11 => ("GiftShops", "doubles", "[I", true)
  | 12 => ("GiftShops", "agreed", "[I", true)
  | 13 => ("GiftShops", "rates", "[I", true)
  | 14 => ("GiftShops", "roads", "LGiftShops$Roads;", true)
  | 15 => ("GiftShops", "turns", "LGiftShops$Turns;", true)
  | 16 => ("GiftShops", "now", "I", false)
  | _ => ("GiftShops", "vanCost", "I", false)
def tyX9 : Nat → FieldType := fun k => match k with
  | 0 => .array (.object "GiftShops$Thing")
  | 1 => .int
  | 2 => .array (.object "GiftShops$Sale")
  | 3 => .int
  | 4 => .array (.object "GiftShops$Shop")
  | 5 => .array .int
  | 6 => .object "GiftShops$Tape"
  | 7 => .object "GiftShops$Parser"
  | 8 => .object "GiftShops$Rules"
  | 9 => .object "GiftShops$Rules"
  | 10 => .array .int
  | 11 => .array .int
  | 12 => .array .int
  | 13 => .array .int
  | 14 => .object "GiftShops$Roads"
  | 15 => .object "GiftShops$Turns"
  | 16 => .int
  | _ => .int
abbrev wsX90 : List Cond := u_ws RX9 TX9 18
theorem nmX9 : ∀ a, a < 18 → ∀ b, b < 18 → a ≠ b → (TX9 a).2.1 ≠ (TX9 b).2.1 := by decide +kernel
theorem tyX9_ok : ∀ k, k < 18 → parseFieldDescriptor (TX9 k).2.2.1 = some (tyX9 k) := by decide +kernel
theorem iX9 : ∀ w ∈ wsX90, w ∈ lw_tbl := by decide +kernel
def RX10 : String := "GiftShopsModel"
def TX10 : u_T := fun k => match k with
  | 0 => ("GiftShopsModel", "thrown", "I", false)
  | 1 => ("GiftShopsModel", "tape", "[I", true)
  | 2 => ("GiftShopsModel", "taped", "I", false)
  | 3 => ("GiftShopsModel", "size", "I", false)
  | 4 => ("GiftShopsModel", "sortOf", "[I", true)
  | 5 => ("GiftShopsModel", "place", "[I", true)
  | 6 => ("GiftShopsModel", "value", "[J", true)
  | 7 => ("GiftShopsModel", "at", "I", false)
  | 8 => ("GiftShopsModel", "fault", "I", false)
  | 9 => ("GiftShopsModel", "words", "[J", true)
  | 10 => ("GiftShopsModel", "lines", "[I", true)
  | 11 => ("GiftShopsModel", "lineWay", "[I", true)
  | 12 => ("GiftShopsModel", "lineAt", "[I", true)
  | 13 => ("GiftShopsModel", "op", "[I", true)
  | 14 => ("GiftShopsModel", "one", "[I", true)
  | 15 => ("GiftShopsModel", "holds", "I", false)
  | 16 => ("GiftShopsModel", "next", "I", false)
  | 17 => ("GiftShopsModel", "codes", "I", false)
  | 18 => ("GiftShopsModel", "deep", "I", false)
  | 19 => ("GiftShopsModel", "sumWaits", "[I", true)
  | 20 => ("GiftShopsModel", "signWaits", "[I", true)
  | 21 => ("GiftShopsModel", "andWaits", "[I", true)
  | 22 => ("GiftShopsModel", "known", "[I", true)
  | 23 => ("GiftShopsModel", "pile", "[I", true)
  | 24 => ("GiftShopsModel", "now", "I", false)
  | 25 => ("GiftShopsModel", "things", "I", false)
  | 26 => ("GiftShopsModel", "giver", "[I", true)
  | 27 => ("GiftShopsModel", "kind", "[I", true)
  | 28 => ("GiftShopsModel", "condition", "[I", true)
  | 29 => ("GiftShopsModel", "season", "[I", true)
  | 30 => ("GiftShopsModel", "state", "[I", true)
  | 31 => ("GiftShopsModel", "shop", "[I", true)
  | 32 => ("GiftShopsModel", "since", "[I", true)
  | 33 => ("GiftShopsModel", "moves", "[I", true)
  | 34 => ("GiftShopsModel", "bases", "[I", true)
  | 35 => ("GiftShopsModel", "rooms", "[I", true)
  | 36 => ("GiftShopsModel", "lay", "[I", true)
  | 37 => ("GiftShopsModel", "doubles", "[I", true)
  | 38 => ("GiftShopsModel", "agrees", "[I", true)
  | 39 => ("GiftShopsModel", "rate", "I", false)
  | 40 => ("GiftShopsModel", "rates", "[I", true)
  | 41 => ("GiftShopsModel", "sales", "I", false)
  | 42 => ("GiftShopsModel", "soldThing", "[I", true)
  | 43 => ("GiftShopsModel", "soldFor", "[I", true)
  | 44 => ("GiftShopsModel", "soldIn", "[I", true)
  | 45 => ("GiftShopsModel", "soldOn", "[I", true)
  | 46 => ("GiftShopsModel", "isVoid", "[Z", true)
  | 47 => ("GiftShopsModel", "cost", "I", false)
  | 48 => ("GiftShopsModel", "ways", "[I", true)
  | 49 => ("GiftShopsModel", "helpers", "I", false)
  | 50 => ("GiftShopsModel", "canCome", "[I", true)
  | 51 => ("GiftShopsModel", "comes", "[Z", true)
  | 52 => ("GiftShopsModel", "isSeen", "[Z", true)
  | _ => ("GiftShopsModel", "bound", "I", false)
def tyX10 : Nat → FieldType := fun k => match k with
  | 0 => .int
  | 1 => .array .int
  | 2 => .int
  | 3 => .int
  | 4 => .array .int
  | 5 => .array .int
  | 6 => .array .long
  | 7 => .int
  | 8 => .int
  | 9 => .array .long
  | 10 => .array .int
  | 11 => .array .int
  | 12 => .array .int
  | 13 => .array .int
  | 14 => .array .int
  | 15 => .int
  | 16 => .int
  | 17 => .int
  | 18 => .int
  | 19 => .array .int
  | 20 => .array .int
  | 21 => .array .int
  | 22 => .array .int
  | 23 => .array .int
  | 24 => .int
  | 25 => .int
  | 26 => .array .int
  | 27 => .array .int
  | 28 => .array .int
  | 29 => .array .int
  | 30 => .array .int
  | 31 => .array .int
  | 32 => .array .int
  | 33 => .array .int
  | 34 => .array .int
  | 35 => .array .int
  | 36 => .array .int
  | 37 => .array .int
  | 38 => .array .int
  | 39 => .int
  | 40 => .array .int
  | 41 => .int
  | 42 => .array .int
  | 43 => .array .int
  | 44 => .array .int
  | 45 => .array .int
  | 46 => .array .boolean
  | 47 => .int
  | 48 => .array .int
  | 49 => .int
  | 50 => .array .int
  | 51 => .array .boolean
  | 52 => .array .boolean
  | _ => .int
abbrev wsX100 : List Cond := u_ws RX10 TX10 54
theorem nmX10 : ∀ a, a < 54 → ∀ b, b < 54 → a ≠ b → (TX10 a).2.1 ≠ (TX10 b).2.1 := by decide +kernel
theorem tyX10_ok : ∀ k, k < 54 → parseFieldDescriptor (TX10 k).2.2.1 = some (tyX10 k) := by decide +kernel
theorem iX10 : ∀ w ∈ wsX100, w ∈ lw_tbl := by decide +kernel
abbrev gcl : List vw_C := [(RX0, TX0, 3), (RX1, TX1, 2), (RX2, TX2, 6), (RX3, TX3, 6), (RX4, TX4, 5), (RX5, TX5, 5), (RX6, TX6, 2), (RX7, TX7, 9), (RX8, TX8, 5), (RX9, TX9, 18), (RX10, TX10, 54)]
end
section
/-! ===== the small machine: frames of the claim's own methods over cells that are named by numbers from 0 on ===== -/
abbrev gC : Type := (FieldType × vp_A) ⊕ (Nat × List Value)
abbrev gH : Type := Nat → gC
abbrev gS : Type := Nat × Nat × gH
abbrev gL : Type := List (Option Value)
abbrev gI : Type := Instr × Nat × List Nat × Value
abbrev gR : Type := MethodName × ByteArray × Nat × Option FieldType × List (Nat × gI)
def gz : gC := .inr (1000000, [])
def gset (h : gH) (k : Nat) (c : gC) : gH := fun j => if j = k then c else h j
def glook : List (Nat × gI) → Nat → Option gI
  | [], _ => none
  | q :: r, pc => bif Nat.beq q.1 pc then some q.2 else glook r pc
def gl : gL → Nat → Option Value
  | [], _ => none
  | v :: _, 0 => v
  | _ :: r, n + 1 => gl r n
def gsl : gL → Nat → Option Value → gL
  | [], _, _ => []
  | _ :: r, 0, v => v :: r
  | a :: r, n + 1, v => a :: gsl r n v
def gwide : Option Value → Bool
  | some (.long _) => true
  | some (.double _) => true
  | _ => false
def gokS (L : gL) : Nat → Bool
  | 0 => true
  | j + 1 => !gwide (gl L j)
def gent : List Value → gL
  | [] => []
  | .long x :: r => some (.long x) :: none :: gent r
  | .double x :: r => some (.double x) :: none :: gent r
  | v :: r => some v :: gent r
def gpad : gL → Nat → gL
  | _, 0 => []
  | [], n + 1 => none :: gpad [] n
  | a :: r, n + 1 => a :: gpad r n
def gax : List Nat → Nat → Nat
  | [], _ => 0
  | a :: _, 0 => a
  | _ :: r, n + 1 => gax r n
def gbr (c : Jvm.ClassFile.Cond) (x y : Int32) (t f : Nat) : Nat := match c with
  | .eq => if x = y then t else f
  | .ne => if ¬ x = y then t else f
  | .lt => if x < y then t else f
  | .ge => if y ≤ x then t else f
  | .gt => if y < x then t else f
  | .le => if x ≤ y then t else f
def gfit : FieldType → Value → Bool
  | .int, .int _ => true
  | .long, .long _ => true
  | .boolean, .int x => x == 0 || x == 1
  | .object _, .ref _ => true
  | .object _, .null => true
  | .array _, .ref _ => true
  | .array _, .null => true
  | _, _ => false
def gty : Nat → Nat → FieldType
  | 0 => tyX0 | 1 => tyX1 | 2 => tyX2 | 3 => tyX3 | 4 => tyX4 | 5 => tyX5 | 6 => tyX6 | 7 => tyX7 | 8 => tyX8 | 9 => tyX9 | 10 => tyX10 | _ => fun _ => .int
def gdv (ci N : Nat) : List Value := (List.range N).map (fun j => defaultValue (gty ci j))
def gsw (x lo hi : Int) (ax : List Nat) : Nat := if x < lo ∨ hi < x then gax ax 0 else gax ax ((x - lo).toNat + 1)
abbrev gO : Type := Option (Nat × gL × List Value × gS)
def gpush (len : Nat) (w : Value) (pc : Nat) (L : gL) (st : List Value) (S : gS) : gO := some (pc + len, L, w :: st, S)
def gii (f : Int32 → Int32 → Int32) (pc : Nat) (L : gL) (st : List Value) (S : gS) : gO := match st with
  | .int y :: .int x :: r => some (pc + 1, L, .int (f x y) :: r, S)
  | _ => none
def gll (f : Int64 → Int64 → Int64) (pc : Nat) (L : gL) (st : List Value) (S : gS) : gO := match st with
  | .long y :: .long x :: r => some (pc + 1, L, .long (f x y) :: r, S)
  | _ => none
def gli (f : Int64 → Int32 → Int64) (pc : Nat) (L : gL) (st : List Value) (S : gS) : gO := match st with
  | .int y :: .long x :: r => some (pc + 1, L, .long (f x y) :: r, S)
  | _ => none
def giload (len i pc : Nat) (L : gL) (st : List Value) (S : gS) : gO := match gl L i with
  | some (.int x) => some (pc + len, L, .int x :: st, S)
  | _ => none
def glload (len i pc : Nat) (L : gL) (st : List Value) (S : gS) : gO := match gl L i with
  | some (.long x) => some (pc + len, L, .long x :: st, S)
  | _ => none
def galoadL (len i pc : Nat) (L : gL) (st : List Value) (S : gS) : gO := match gl L i with
  | some (.ref x) => some (pc + len, L, .ref x :: st, S)
  | _ => none
def gistore (len i pc : Nat) (L : gL) (st : List Value) (S : gS) : gO := match st with
  | .int x :: r => bif gokS L i && Nat.blt i L.length then some (pc + len, gsl L i (some (.int x)), r, S) else none
  | _ => none
def gastoreL (len i pc : Nat) (L : gL) (st : List Value) (S : gS) : gO := match st with
  | .ref x :: r => bif gokS L i && Nat.blt i L.length then some (pc + len, gsl L i (some (.ref x)), r, S) else none
  | _ => none
def glstore (len i pc : Nat) (L : gL) (st : List Value) (S : gS) : gO := match st with
  | .long x :: r => bif gokS L i && Nat.blt (i + 1) L.length then some (pc + len, gsl (gsl L i (some (.long x))) (i + 1) none, r, S) else none
  | _ => none
def giinc (len i : Nat) (w : Value) (pc : Nat) (L : gL) (st : List Value) (S : gS) : gO := match gl L i, w with
  | some (.int x), .int n => bif gokS L i && Nat.blt i L.length then some (pc + len, gsl L i (some (.int (x + n))), st, S) else none
  | _, _ => none
def gout (i : Int32) (n : Nat) : Prop := i < 0 ∨ n ≤ i.toNatClampNeg
def gget (ci sl pc : Nat) (L : gL) (st : List Value) (S : gS) : gO := match st with
  | .ref a :: r => match S.2.2 a with
    | .inr (c, fs) => bif Nat.beq c ci then (match fs[sl]? with | some v => some (pc + 3, L, v :: r, S) | none => none) else none
    | _ => none
  | _ => none
def gput (ci sl pc : Nat) (L : gL) (st : List Value) (S : gS) : gO := match st with
  | v :: .ref a :: r => match S.2.2 a with
    | .inr (c, fs) => bif Nat.beq c ci && Nat.blt sl fs.length && gfit (gty ci sl) v then some (pc + 3, L, r, (S.1, S.2.1, gset S.2.2 a (.inr (c, fs.set sl v)))) else none
    | _ => none
  | _ => none
def gnew (ci pc : Nat) (L : gL) (st : List Value) (S : gS) : gO := match gcl[ci]? with
  | some r => if S.1 < 1000000 then some (pc + 3, L, .ref S.1 :: st, (S.1 + 1, S.2.1 + r.2.2, gset S.2.2 S.1 (.inr (ci, gdv ci r.2.2)))) else none
  | none => none
def gnewa (at_ : ArrayType) (pc : Nat) (L : gL) (st : List Value) (S : gS) : gO := match st with
  | .int n :: r => if n < 0 ∨ 1000000 < n.toNatClampNeg ∨ 1000000 ≤ S.1 then none else match at_ with
    | .int => some (pc + 2, L, .ref S.1 :: r, (S.1 + 1, S.2.1 + n.toNatClampNeg, gset S.2.2 S.1 (.inl (.int, n.toNatClampNeg, .inl (fun _ => 0)))))
    | .char => some (pc + 2, L, .ref S.1 :: r, (S.1 + 1, S.2.1 + n.toNatClampNeg, gset S.2.2 S.1 (.inl (.char, n.toNatClampNeg, .inl (fun _ => 0)))))
    | .boolean => some (pc + 2, L, .ref S.1 :: r, (S.1 + 1, S.2.1 + n.toNatClampNeg, gset S.2.2 S.1 (.inl (.boolean, n.toNatClampNeg, .inl (fun _ => 0)))))
    | .long => some (pc + 2, L, .ref S.1 :: r, (S.1 + 1, S.2.1 + n.toNatClampNeg, gset S.2.2 S.1 (.inl (.long, n.toNatClampNeg, .inr (.inl (fun _ => 0))))))
    | _ => none
  | _ => none
def gnewq (ci pc : Nat) (L : gL) (st : List Value) (S : gS) : gO := match st with
  | .int n :: r => if n < 0 ∨ 1000000 < n.toNatClampNeg ∨ 1000000 ≤ S.1 then none else match gcl[ci]? with
    | some q => some (pc + 3, L, .ref S.1 :: r, (S.1 + 1, S.2.1 + n.toNatClampNeg, gset S.2.2 S.1 (.inl (.object q.1, n.toNatClampNeg, .inr (.inr (.inr (.inr (fun _ => none))))))))
    | none => none
  | _ => none
def giald (ty : FieldType) (pc : Nat) (L : gL) (st : List Value) (S : gS) : gO := match st with
  | .int i :: .ref a :: r => match S.2.2 a with
    | .inl (t, n, .inl f) => if t = ty ∧ ¬ (i < 0 ∨ n ≤ i.toNatClampNeg) then some (pc + 1, L, .int (f i.toNatClampNeg) :: r, S) else none
    | _ => none
  | _ => none
def gbald (pc : Nat) (L : gL) (st : List Value) (S : gS) : gO := match st with
  | .int i :: .ref a :: r => match S.2.2 a with
    | .inl (t, n, .inl f) => if (t = .boolean ∨ t = .byte) ∧ ¬ (i < 0 ∨ n ≤ i.toNatClampNeg) then some (pc + 1, L, .int (f i.toNatClampNeg) :: r, S) else none
    | _ => none
  | _ => none
def glald (pc : Nat) (L : gL) (st : List Value) (S : gS) : gO := match st with
  | .int i :: .ref a :: r => match S.2.2 a with
    | .inl (t, n, .inr (.inl f)) => if t = .long ∧ ¬ (i < 0 ∨ n ≤ i.toNatClampNeg) then some (pc + 1, L, .long (f i.toNatClampNeg) :: r, S) else none
    | _ => none
  | _ => none
def gaald (pc : Nat) (L : gL) (st : List Value) (S : gS) : gO := match st with
  | .int i :: .ref a :: r => match S.2.2 a with
    | .inl (.object _, n, .inr (.inr (.inr (.inr f)))) => if ¬ (i < 0 ∨ n ≤ i.toNatClampNeg) then some (pc + 1, L, va_rf (f i.toNatClampNeg) :: r, S) else none
    | _ => none
  | _ => none
def giast (ty : FieldType) (ok : Int32 → Prop) [DecidablePred ok] (pc : Nat) (L : gL) (st : List Value) (S : gS) : gO := match st with
  | .int x :: .int i :: .ref a :: r => match S.2.2 a with
    | .inl (t, n, .inl f) => if t = ty ∧ ¬ (i < 0 ∨ n ≤ i.toNatClampNeg) ∧ ok x ∧ a < 1000000000 then some (pc + 1, L, r, (S.1, S.2.1, gset S.2.2 a (.inl (t, n, .inl (upd f i.toNatClampNeg x))))) else none
    | _ => none
  | _ => none
def glast (pc : Nat) (L : gL) (st : List Value) (S : gS) : gO := match st with
  | .long x :: .int i :: .ref a :: r => match S.2.2 a with
    | .inl (t, n, .inr (.inl f)) => if t = .long ∧ ¬ (i < 0 ∨ n ≤ i.toNatClampNeg) ∧ a < 1000000000 then some (pc + 1, L, r, (S.1, S.2.1, gset S.2.2 a (.inl (t, n, .inr (.inl (vp_updL f i.toNatClampNeg x)))))) else none
    | _ => none
  | _ => none
def gaast (pc : Nat) (L : gL) (st : List Value) (S : gS) : gO := match st with
  | .ref v :: .int i :: .ref a :: r => match S.2.2 a with
    | .inl (.object C, n, .inr (.inr (.inr (.inr f)))) => match S.2.2 v with
      | .inr (ci, _) => if (gcl[ci]?.map (fun q => q.1)) = some C ∧ ¬ (i < 0 ∨ n ≤ i.toNatClampNeg) ∧ a < 1000000000 then some (pc + 1, L, r, (S.1, S.2.1, gset S.2.2 a (.inl (.object C, n, .inr (.inr (.inr (.inr (va_up f i.toNatClampNeg (some v))))))))) else none
      | _ => none
    | _ => none
  | _ => none
def galen (pc : Nat) (L : gL) (st : List Value) (S : gS) : gO := match st with
  | .ref a :: r => match S.2.2 a with
    | .inl (_, n, _) => some (pc + 1, L, .int (Int32.ofNat n) :: r, S)
    | _ => none
  | _ => none
/-- one instruction that is no call and no return -/
def gstep (i : Instr) (len : Nat) (ax : List Nat) (w : Value) (pc : Nat) (L : gL) (st : List Value) (S : gS) : gO := match i with
  | .iconst _ => gpush 1 w pc L st S
  | .lconst _ => gpush 1 w pc L st S
  | .bipush _ => gpush 2 w pc L st S
  | .sipush _ => gpush 3 w pc L st S
  | .ldc _ => match ax with | [] => none | _ => gpush 2 w pc L st S
  | .ldc_w _ => match ax with | [] => none | _ => gpush 3 w pc L st S
  | .ldc2_w _ => match ax with | [] => none | _ => gpush 3 w pc L st S
  | .iload_n _ => giload 1 (gax ax 0) pc L st S
  | .iload _ => giload 2 (gax ax 0) pc L st S
  | .lload_n _ => glload 1 (gax ax 0) pc L st S
  | .lload _ => glload 2 (gax ax 0) pc L st S
  | .aload_n _ => galoadL 1 (gax ax 0) pc L st S
  | .aload _ => galoadL 2 (gax ax 0) pc L st S
  | .istore_n _ => gistore 1 (gax ax 0) pc L st S
  | .istore _ => gistore 2 (gax ax 0) pc L st S
  | .lstore_n _ => glstore 1 (gax ax 0) pc L st S
  | .lstore _ => glstore 2 (gax ax 0) pc L st S
  | .astore_n _ => gastoreL 1 (gax ax 0) pc L st S
  | .astore _ => gastoreL 2 (gax ax 0) pc L st S
  | .iinc _ _ => giinc 3 (gax ax 0) w pc L st S
  | .iadd => gii (fun x y => x + y) pc L st S
  | .isub => gii (fun x y => x - y) pc L st S
  | .imul => gii (fun x y => x * y) pc L st S
  | .iand => gii (fun x y => x &&& y) pc L st S
  | .ior => gii (fun x y => x ||| y) pc L st S
  | .ixor => gii (fun x y => x ^^^ y) pc L st S
  | .ishl => gii (fun x y => x <<< (y &&& 31)) pc L st S
  | .ishr => gii (fun x y => x >>> (y &&& 31)) pc L st S
  | .iushr => gii (fun x y => (x.toUInt32 >>> (y.toUInt32 &&& Int32.toUInt32 31)).toInt32) pc L st S
  | .idiv => match st with
    | .int y :: .int x :: r => if y = 0 then none else some (pc + 1, L, .int (x / y) :: r, S)
    | _ => none
  | .irem => match st with
    | .int y :: .int x :: r => if y = 0 then none else some (pc + 1, L, .int (x - x / y * y) :: r, S)
    | _ => none
  | .ladd => gll (fun x y => x + y) pc L st S
  | .lsub => gll (fun x y => x - y) pc L st S
  | .lmul => gll (fun x y => x * y) pc L st S
  | .land => gll (fun x y => x &&& y) pc L st S
  | .lor => gll (fun x y => x ||| y) pc L st S
  | .ldiv => match st with
    | .long y :: .long x :: r => if y = 0 then none else some (pc + 1, L, .long (x / y) :: r, S)
    | _ => none
  | .lshl => gli (fun x y => x <<< (y.toInt64 &&& 63)) pc L st S
  | .lshr => gli (fun x y => x >>> (y.toInt64 &&& 63)) pc L st S
  | .lushr => gli (fun x y => (x.toUInt64 >>> (y.toInt64.toUInt64 &&& Int64.toUInt64 63)).toInt64) pc L st S
  | .lcmp => match st with
    | .long y :: .long x :: r => some (pc + 1, L, .int (lg_cmp x y) :: r, S)
    | _ => none
  | .i2l => match st with
    | .int x :: r => some (pc + 1, L, .long x.toInt64 :: r, S)
    | _ => none
  | .l2i => match st with
    | .long x :: r => some (pc + 1, L, .int x.toInt32 :: r, S)
    | _ => none
  | .i2c => match st with
    | .int x :: r => some (pc + 1, L, .int (x.toUInt32 % 65536).toInt32 :: r, S)
    | _ => none
  | .dup => match st with
    | .int x :: r => some (pc + 1, L, .int x :: .int x :: r, S)
    | .ref x :: r => some (pc + 1, L, .ref x :: .ref x :: r, S)
    | _ => none
  | .dup2 => match st with
    | .int x :: .ref y :: r => some (pc + 1, L, .int x :: .ref y :: .int x :: .ref y :: r, S)
    | _ => none
  | .ifCond c _ => match st with
    | .int x :: r => some (gbr c x 0 (gax ax 0) (pc + 3), L, r, S)
    | _ => none
  | .if_icmp c _ => match st with
    | .int y :: .int x :: r => some (gbr c x y (gax ax 0) (pc + 3), L, r, S)
    | _ => none
  | .goto _ => some (gax ax 0, L, st, S)
  | .tableswitch _ lo hi _ => match st with
    | .int x :: r => some (gsw x.toInt lo hi ax, L, r, S)
    | _ => none
  | .getfield _ => match ax with
    | [ci, sl, _, _] => gget ci sl pc L st S
    | _ => none
  | .putfield _ => match ax with
    | [ci, sl, _, _] => gput ci sl pc L st S
    | _ => none
  | .new _ => match ax with
    | [ci, _] => gnew ci pc L st S
    | _ => none
  | .newarray t => gnewa t pc L st S
  | .anewarray _ => match ax with
    | [ci, _] => gnewq ci pc L st S
    | _ => none
  | .iaload => giald .int pc L st S
  | .caload => giald .char pc L st S
  | .baload => gbald pc L st S
  | .laload => glald pc L st S
  | .aaload => gaald pc L st S
  | .iastore => giast .int (fun _ => True) pc L st S
  | .castore => giast .char (fun x => vp_nar .char x = x) pc L st S
  | .bastore => giast .boolean (fun x => x = 0 ∨ x = 1) pc L st S
  | .lastore => glast pc L st S
  | .aastore => gaast pc L st S
  | .arraylength => galen pc L st S
  | _ => none
def grok : Option FieldType → Int32 → Prop
  | some .int, _ => True
  | some .boolean, x => x = 0 ∨ x = 1
  | some .char, x => vp_nar .char x = x
  | _, _ => False
/-- the receiver of a virtual call is of the class that declares the method -/
def grcv (S : gS) (C : String) : List Value → Prop
  | .ref a :: _ => match S.2.2 a with
    | .inr (ci, _) => (gcl[ci]?.map (fun q => q.1)) = some C
    | _ => False
  | _ => False
def gkind (i : Instr) (S : gS) (C : String) (as : List Value) : Prop := match i with
  | .invokevirtual _ => grcv S C as
  | .invokespecial _ => ∃ a r, as = .ref a :: r
  | .invokestatic _ => True
  | _ => False
abbrev gB : Type := Nat → List Value → gS → Option Value → gS → Prop
def gcat (st : List Value) : Nat := (st.map (fun v => v.category)).sum
/-- from this frame the method comes to its end: with this answer, in that state -/
def gER (MT : List gR) (BI : gB) : Nat → Nat → Nat → Nat → gL → List Value → gS → Option Value → gS → Prop
  | 0, _, _, _, _, _, _, _, _ => False
  | f + 1, d, k, pc, L, st, S, v, S' => match MT[k]? with
    | none => False
    | some row => match glook row.2.2.2.2 pc with
      | none => False
      | some (i, len, ax, w) => match i with
        | .return_ => st = [] ∧ v = none ∧ S' = S ∧ row.2.2.2.1 = none
        | .ireturn => ∃ x, st = [.int x] ∧ v = some (.int x) ∧ S' = S ∧ grok row.2.2.2.1 x
        | .invokevirtual _ | .invokespecial _ | .invokestatic _ => match ax with
          | [j, na, _, _] => na ≤ st.length ∧ gcat (st.drop na) ≤ 8 ∧ ∃ (v1 : Option Value) (S1 : gS),
              (if 1000 ≤ j then BI j (st.take na).reverse S v1 S1 else 1 ≤ d ∧ ∃ cr, MT[j]? = some cr ∧ (gent (st.take na).reverse).length ≤ cr.2.2.1 ∧ gkind i S cr.1.cls (st.take na).reverse ∧
                gER MT BI f (d - 1) j 0 (gpad (gent (st.take na).reverse) cr.2.2.1) [] S v1 S1) ∧
              gER MT BI f d k (pc + 3) L (v1.toList ++ st.drop na) S1 v S'
          | _ => False
        | _ => match gstep i len ax w pc L st S with
          | none => False
          | some (pc', L', st', S1) => gER MT BI f d k pc' L' st' S1 v S'
end
section
/-! ===== how the small machine's state stands in the JVM's: cell k lies at B + k; what lies outside (the script, two texts) at ex k ===== -/
def gal (B : Nat) (ex : Nat → Nat) (k : Nat) : Nat := if k < 1000000000 then B + k else ex k
def gcv (B : Nat) (ex : Nat → Nat) : Value → Value
  | .ref k => .ref (gal B ex k)
  | v => v
def gcvA (B : Nat) (ex : Nat → Nat) (a : vp_A) : vp_A := match a with
  | (n, .inr (.inr (.inr (.inr f)))) => (n, .inr (.inr (.inr (.inr (fun j => (f j).map (gal B ex))))))
  | (n, x) => (n, x)
def gat (D : va_G) (U : State) (B : Nat) (ex : Nat → Nat) (H : Heap) (k : Nat) (c : gC) : Prop := match c with
  | .inl (ty, a) => ∃ cA : ClassId, ArrOfT U cA ty ∧ va_RA U cA ty ∧ H[B + k]? = some (vp_cell cA (gcvA B ex a))
  | .inr (ci, fs) => ∃ r : vw_C, gcl[ci]? = some r ∧ fs.length = r.2.2 ∧ t_OB (B + k) (D.1 ci) r.2.2 (D.2 ci) H (vp_V (fs.map (gcv B ex)))
def gext (U : State) (ex : Nat → Nat) (H0 : Heap) (k : Nat) (c : gC) : Prop := match c with
  | .inl (ty, n, .inl f) => ∃ cell : Cell, H0[ex k]? = some cell ∧ U.isArrayOf cell ty ∧ cell.vm ≠ .unknown ∧ cell.slots.size = n ∧ ∀ j : Nat, j < n → cell.slots[j]? = some (.int (f j))
  | _ => False
def gRH (D : va_G) (U : State) (B : Nat) (ex : Nat → Nat) (H0 : Heap) (S : gS) (H : Heap) : Prop :=
  H.size = B + S.1 ∧ S.1 ≤ 1000000 ∧ H0.size = B ∧ (∀ q : Nat, q < B → H[q]? = H0[q]?) ∧ (∀ k, k < 1000000000 → S.2.2 k ≠ gz → k < S.1 ∧ gat D U B ex H k (S.2.2 k)) ∧ (∀ k, 1000000000 ≤ k → S.2.2 k ≠ gz → gext U ex H0 k (S.2.2 k))
def gLR (B : Nat) (ex : Nat → Nat) (ls : Array Slot) (nL : Nat) (L : gL) : Prop := ls.size = nL ∧ L.length = nL ∧ lv_wf ls ∧ ∀ (i : Nat) (v : Value), gl L i = some v → ls[i]? = some (.val (gcv B ex v))
def gnest : Cond → Bool
  | .fieldLinkNest _ _ _ _ _ _ => true
  | .methodLinkNest _ _ _ _ => true
  | _ => false
def gNW : List Cond := lw_tbl.filter gnest
def gGW : List Cond := lw_tbl.filter goodWord
def gAO : List String := [RX7, RX3, RX5]
def gtxt1 : String := "shelf   store   rag     look    when    and     kind    state   season  now     base    giver   "
def gtxt2 : String := "()<=+-;"
def gKN (D : va_G) (ex : Nat → Nat) (U : State) : Prop := va_K D gcl [] U ∧ (∀ w ∈ gNW, va_Nw w U) ∧ (∀ C ∈ gAO, va_AO C U) ∧ vk_R RX4 64 gtxt1 (ex 2000000001) U ∧ vk_R RX4 52 gtxt2 (ex 2000000002) U
theorem gNW_warm {w : Cond} (hw : gnest w = true) {s U : State} (hW : s.WarmedH U.vm) (h : va_Nw w s) : va_Nw w U := by
  cases w <;> first | exact va_Nw.warmF hW h | exact va_Nw.warmM hW h | (simp [gnest] at hw)
theorem gKN_warm {D : va_G} {ex : Nat → Nat} {s U : State} (hW : s.WarmedH U.vm) (h : gKN D ex s) : gKN D ex U :=
  ⟨va_K.moved hW.alike h.1, fun w hw => gNW_warm (List.mem_filter.mp hw).2 hW (h.2.1 w hw), fun C hC => va_AO.moved hW.alike (h.2.2.1 C hC), vk_R.warm hW h.2.2.2.1, vk_R.warm hW h.2.2.2.2⟩
theorem gat_moved {D : va_G} {u U : State} {B : Nat} {ex : Nat → Nat} {H : Heap} {k : Nat} {c : gC} (hvm : u.vm.Alike U.vm) (h : gat D u B ex H k c) : gat D U B ex H k c := by
  rcases c with ⟨ty, a⟩ | ⟨ci, fs⟩
  · obtain ⟨cA, h1, h2, h3⟩ := h
    exact ⟨cA, arrOfT_moved hvm h1, h2.moved hvm, h3⟩
  · exact h
theorem gext_moved {u U : State} {ex : Nat → Nat} {H : Heap} {k : Nat} {c : gC} (hvm : u.vm.Alike U.vm) (h : gext u ex H k c) : gext U ex H k c := by
  rcases c with ⟨ty, n, f | f⟩ | ⟨ci, fs⟩
  · obtain ⟨cell, h1, h2, h3⟩ := h
    exact ⟨cell, h1, State.isArrayOf_alike hvm h2, h3⟩
  · exact h.elim
  · exact h.elim
theorem gRH_moved {D : va_G} {u U : State} {B : Nat} {ex : Nat → Nat} {H0 H : Heap} {S : gS} (hvm : u.vm.Alike U.vm) (h : gRH D u B ex H0 S H) : gRH D U B ex H0 S H :=
  ⟨h.1, h.2.1, h.2.2.1, h.2.2.2.1, fun k hk hz => ⟨(h.2.2.2.2.1 k hk hz).1, gat_moved hvm (h.2.2.2.2.1 k hk hz).2⟩, fun k hk hz => gext_moved hvm (h.2.2.2.2.2 k hk hz)⟩
theorem gcv_cat (B : Nat) (ex : Nat → Nat) (v : Value) : (gcv B ex v).category = v.category := by cases v <;> rfl
theorem gat_kept {D : va_G} {U : State} {B : Nat} {ex : Nat → Nat} {H H1 : Heap} {k : Nat} {c : gC} (h : gat D U B ex H k c) (hq : H1[B + k]? = H[B + k]?) : gat D U B ex H1 k c := by
  rcases c with ⟨ty, a⟩ | ⟨ci, fs⟩
  · obtain ⟨cA, h1, h2, h3⟩ := h
    exact ⟨cA, h1, h2, hq.trans h3⟩
  · obtain ⟨r, h1, h2, h3⟩ := h
    exact ⟨r, h1, h2, h3.kept hq⟩
/-- a cell k of the world is changed -/
theorem gRH_set {D : va_G} {U : State} {B : Nat} {ex : Nat → Nat} {H0 H H1 : Heap} {S : gS} {k : Nat} {c : gC} (h : gRH D U B ex H0 S H) (hk : k < 1000000000) (hz : S.2.2 k ≠ gz) (hc : gat D U B ex H1 k c) (z : H1.size = H.size) (oq : ∀ q : Nat, q ≠ B + k → H1[q]? = H[q]?) : gRH D U B ex H0 (S.1, S.2.1, gset S.2.2 k c) H1 := by
  obtain ⟨h1, h2, h3, h4, h5, h6⟩ := h
  refine ⟨by rw [z]; exact h1, h2, h3, fun q hq => ?_, fun j hj hjz => ?_, fun j hj hjz => ?_⟩
  · rw [oq q (by omega)]
    exact h4 q hq
  · by_cases e : j = k
    · subst e
      refine ⟨(h5 j hj hz).1, ?_⟩
      simp only [gset, if_true]
      exact hc
    · have e2 : gset S.2.2 k c j = S.2.2 j := by simp [gset, e]
      dsimp only at hjz ⊢
      rw [e2] at hjz ⊢
      exact ⟨(h5 j hj hjz).1, gat_kept (h5 j hj hjz).2 (oq (B + j) (by omega))⟩
  · have e2 : gset S.2.2 k c j = S.2.2 j := by
      have : j ≠ k := by omega
      simp [gset, this]
    dsimp only at hjz ⊢
    rw [e2] at hjz ⊢
    exact h6 j hj hjz
/-- a cell more -/
theorem gRH_push {D : va_G} {U : State} {B : Nat} {ex : Nat → Nat} {H0 H H1 : Heap} {S : gS} {c : gC} (n : Nat) (h : gRH D U B ex H0 S H) (hn : S.1 < 1000000) (hc : gat D U B ex H1 S.1 c) (z : H1.size = H.size + 1) (oq : ∀ q : Nat, q < H.size → H1[q]? = H[q]?) : gRH D U B ex H0 (S.1 + 1, n, gset S.2.2 S.1 c) H1 := by
  obtain ⟨h1, h2, h3, h4, h5, h6⟩ := h
  refine ⟨by rw [z, h1]; rfl, by dsimp only; omega, h3, fun q hq => ?_, fun j hj hjz => ?_, fun j hj hjz => ?_⟩
  · rw [oq q (by omega)]
    exact h4 q hq
  · by_cases e : j = S.1
    · subst e
      refine ⟨by dsimp only; omega, ?_⟩
      simp only [gset, if_true]
      exact hc
    · have e2 : gset S.2.2 S.1 c j = S.2.2 j := by simp [gset, e]
      dsimp only at hjz ⊢
      rw [e2] at hjz ⊢
      have := (h5 j hj hjz).1
      exact ⟨by omega, gat_kept (h5 j hj hjz).2 (oq (B + j) (by omega))⟩
  · have e2 : gset S.2.2 S.1 c j = S.2.2 j := by
      have : j ≠ S.1 := by omega
      simp [gset, this]
    dsimp only at hjz ⊢
    rw [e2] at hjz ⊢
    exact h6 j hj hjz
/-! locals -/
def gpl (B : Nat) (ex : Nat → Nat) : Nat → gL → List (Nat × Value)
  | _, [] => []
  | i, none :: r => gpl B ex (i + 1) r
  | i, some v :: r => (i, gcv B ex v) :: gpl B ex (i + 1) r
theorem mem_gpl {B : Nat} {ex : Nat → Nat} : ∀ (L : gL) (i j : Nat) (u : Value), (j, u) ∈ gpl B ex i L ↔ ∃ t v, j = i + t ∧ gl L t = some v ∧ u = gcv B ex v := by
  intro L
  induction L with
  | nil => intro i j u; simp [gpl, gl]
  | cons a r ih =>
    intro i j u
    cases a with
    | none =>
      simp only [gpl, ih]
      constructor
      · rintro ⟨t, v, h1, h2, h3⟩
        exact ⟨t + 1, v, by omega, h2, h3⟩
      · rintro ⟨t, v, h1, h2, h3⟩
        cases t with
        | zero => simp [gl] at h2
        | succ t => exact ⟨t, v, by omega, h2, h3⟩
    | some w =>
      simp only [gpl, List.mem_cons, ih]
      constructor
      · rintro (h | ⟨t, v, h1, h2, h3⟩)
        · cases h
          exact ⟨0, w, rfl, rfl, rfl⟩
        · exact ⟨t + 1, v, by omega, h2, h3⟩
      · rintro ⟨t, v, h1, h2, h3⟩
        cases t with
        | zero =>
          simp only [gl] at h2
          cases h2
          left
          rw [h1, h3]; rfl
        | succ t => exact Or.inr ⟨t, v, by omega, h2, h3⟩
theorem gLR_has {B : Nat} {ex : Nat → Nat} {ls : Array Slot} {nL : Nat} {L : gL} (h : gLR B ex ls nL L) : lv_has ls nL (gpl B ex 0 L) := by
  refine ⟨h.1, h.2.2.1, fun q hq => ?_⟩
  obtain ⟨j, u⟩ := q
  obtain ⟨t, v, h1, h2, h3⟩ := (mem_gpl L 0 j u).mp hq
  have e : j = t := by omega
  subst e
  dsimp only
  rw [h3]
  exact h.2.2.2 j v h2
theorem gsl_len (L : gL) : ∀ (i : Nat) (v : Option Value), (gsl L i v).length = L.length := by
  induction L with
  | nil => intro i v; rfl
  | cons a r ih =>
    intro i v
    cases i with
    | zero => rfl
    | succ i => simp [gsl, ih]
theorem gl_gsl (L : gL) : ∀ (i j : Nat) (v : Option Value), i < L.length → gl (gsl L i v) j = if j = i then v else gl L j := by
  induction L with
  | nil => intro i j v h; simp at h
  | cons a r ih =>
    intro i j v h
    cases i with
    | zero =>
      cases j with
      | zero => simp [gsl, gl]
      | succ j => simp [gsl, gl]
    | succ i =>
      cases j with
      | zero => simp [gsl, gl]
      | succ j =>
        have := ih i j v (by simpa using h)
        simp only [gsl, gl, this]
        by_cases e : j = i
        · simp [e]
        · simp [e]
theorem gwide_cat {v : Value} (h : gwide (some v) = false) : v.category = 1 := by cases v <;> first | rfl | (simp [gwide] at h)
theorem gokS_prev {L : gL} {i j : Nat} {v : Value} (h : gokS L i = true) (hj : j + 1 = i) (hv : gl L j = some v) : v.category = 1 := by
  subst hj
  simp only [gokS, hv] at h
  exact gwide_cat (by simpa using h)
theorem gLR_store1 {B : Nat} {ex : Nat → Nat} {ls ls' : Array Slot} {nL : Nat} {L : gL} {i : Nat} {v : Value} (h : gLR B ex ls nL L) (hi : i < L.length) (hok : gokS L i = true)
    (hl : lv_has ls' nL ((i, gcv B ex v) :: (gpl B ex 0 L).filter (fun q => !(q.1 == i) && !(q.1 + 1 == i && q.2.category == 2)))) : gLR B ex ls' nL (gsl L i (some v)) := by
  refine ⟨hl.1, by rw [gsl_len]; exact h.2.1, hl.2.1, fun j u hj => ?_⟩
  rw [gl_gsl L i j _ hi] at hj
  by_cases e : j = i
  · subst e
    simp only [if_true] at hj
    cases hj
    exact hl.2.2 (j, _) List.mem_cons_self
  · simp only [e, if_false] at hj
    refine hl.2.2 (j, gcv B ex u) (List.mem_cons_of_mem _ (List.mem_filter.mpr ⟨(mem_gpl L 0 j _).mpr ⟨j, u, by omega, hj, rfl⟩, ?_⟩))
    by_cases e2 : j + 1 = i
    · have := gokS_prev hok e2 hj
      simp [e, gcv_cat, this]
    · simp [e, e2]
theorem gLR_store2 {B : Nat} {ex : Nat → Nat} {ls ls' : Array Slot} {nL : Nat} {L : gL} {i : Nat} {v : Value} (h : gLR B ex ls nL L) (hi : i + 1 < L.length) (hok : gokS L i = true)
    (hl : lv_has ls' nL ((i, gcv B ex v) :: (gpl B ex 0 L).filter (fun q => !(q.1 == i) && (!(q.1 == i + 1) && !(q.1 + 1 == i && q.2.category == 2))))) : gLR B ex ls' nL (gsl (gsl L i (some v)) (i + 1) none) := by
  refine ⟨hl.1, by rw [gsl_len, gsl_len]; exact h.2.1, hl.2.1, fun j u hj => ?_⟩
  rw [gl_gsl _ (i + 1) j _ (by rw [gsl_len]; exact hi)] at hj
  by_cases e1 : j = i + 1
  · simp [e1] at hj
  · simp only [e1, if_false] at hj
    rw [gl_gsl L i j _ (by omega)] at hj
    by_cases e : j = i
    · subst e
      simp only [if_true] at hj
      cases hj
      exact hl.2.2 (j, _) List.mem_cons_self
    · simp only [e, if_false] at hj
      refine hl.2.2 (j, gcv B ex u) (List.mem_cons_of_mem _ (List.mem_filter.mpr ⟨(mem_gpl L 0 j _).mpr ⟨j, u, by omega, hj, rfl⟩, ?_⟩))
      by_cases e2 : j + 1 = i
      · have := gokS_prev hok e2 hj
        simp [e, e1, gcv_cat, this]
      · simp [e, e1, e2]
end
