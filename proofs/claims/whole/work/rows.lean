section
-- ===== PART A: goes FIRST, ahead of the names: the tables' words, and 'selects' of the private methods out of them =====
/-- a private method of a class that the tables say can be made, by its rows of tables_1 -/
def lw_okq (q : MethodName × Nat) : Prop := (q.1.cls ≠ "java/lang/invoke/MethodHandle" ∧ q.1.cls ≠ "java/lang/invoke/VarHandle") ∧ Cond.instantiable q.1.cls q.2 ∈ tables_1 ∧ Cond.privateMethod q.1 ∈ tables_1 ∧ Cond.instanceMethod q.1 ∈ tables_1
theorem lw_p0 : lw_okq (⟨"GiftShops$Tape", "addBytes", "(J)V"⟩, 2) := ⟨⟨by decide +kernel, by decide +kernel⟩, List.mem_of_getElem? (i := 64) (by decide +kernel), List.mem_of_getElem? (i := 300) (by decide +kernel), List.mem_of_getElem? (i := 301) (by decide +kernel)⟩
theorem lw_p1 : lw_okq (⟨"GiftShops$Parser", "readInto", "(LGiftShops$Rules;)I"⟩, 3) := ⟨⟨by decide +kernel, by decide +kernel⟩, List.mem_of_getElem? (i := 108) (by decide +kernel), List.mem_of_getElem? (i := 308) (by decide +kernel), List.mem_of_getElem? (i := 309) (by decide +kernel)⟩
theorem lw_p2 : lw_okq (⟨"GiftShops$Rules", "clear", "()V"⟩, 6) := ⟨⟨by decide +kernel, by decide +kernel⟩, List.mem_of_getElem? (i := 81) (by decide +kernel), List.mem_of_getElem? (i := 312) (by decide +kernel), List.mem_of_getElem? (i := 313) (by decide +kernel)⟩
theorem lw_p3 : lw_okq (⟨"GiftShops$Scanner", "begin", "()V"⟩, 5) := ⟨⟨by decide +kernel, by decide +kernel⟩, List.mem_of_getElem? (i := 114) (by decide +kernel), List.mem_of_getElem? (i := 316) (by decide +kernel), List.mem_of_getElem? (i := 317) (by decide +kernel)⟩
theorem lw_p4 : lw_okq (⟨"GiftShops$Scanner", "next", "()V"⟩, 5) := ⟨⟨by decide +kernel, by decide +kernel⟩, List.mem_of_getElem? (i := 114) (by decide +kernel), List.mem_of_getElem? (i := 320) (by decide +kernel), List.mem_of_getElem? (i := 321) (by decide +kernel)⟩
theorem lw_p5 : lw_okq (⟨"GiftShops$Scanner", "behindRun", "(CC)I"⟩, 5) := ⟨⟨by decide +kernel, by decide +kernel⟩, List.mem_of_getElem? (i := 114) (by decide +kernel), List.mem_of_getElem? (i := 327) (by decide +kernel), List.mem_of_getElem? (i := 328) (by decide +kernel)⟩
theorem lw_p6 : lw_okq (⟨"GiftShops$Scanner", "wordToken", "()I"⟩, 5) := ⟨⟨by decide +kernel, by decide +kernel⟩, List.mem_of_getElem? (i := 114) (by decide +kernel), List.mem_of_getElem? (i := 331) (by decide +kernel), List.mem_of_getElem? (i := 332) (by decide +kernel)⟩
theorem lw_p7 : lw_okq (⟨"GiftShops$Scanner", "spells", "(I)Z"⟩, 5) := ⟨⟨by decide +kernel, by decide +kernel⟩, List.mem_of_getElem? (i := 114) (by decide +kernel), List.mem_of_getElem? (i := 335) (by decide +kernel), List.mem_of_getElem? (i := 336) (by decide +kernel)⟩
theorem lw_p8 : lw_okq (⟨"GiftShops$Scanner", "numberToken", "()I"⟩, 5) := ⟨⟨by decide +kernel, by decide +kernel⟩, List.mem_of_getElem? (i := 114) (by decide +kernel), List.mem_of_getElem? (i := 380) (by decide +kernel), List.mem_of_getElem? (i := 381) (by decide +kernel)⟩
theorem lw_p9 : lw_okq (⟨"GiftShops$Parser", "readLine", "()Z"⟩, 3) := ⟨⟨by decide +kernel, by decide +kernel⟩, List.mem_of_getElem? (i := 108) (by decide +kernel), List.mem_of_getElem? (i := 451) (by decide +kernel), List.mem_of_getElem? (i := 452) (by decide +kernel)⟩
theorem lw_p10 : lw_okq (⟨"GiftShops$Scanner", "isWay", "()Z"⟩, 5) := ⟨⟨by decide +kernel, by decide +kernel⟩, List.mem_of_getElem? (i := 114) (by decide +kernel), List.mem_of_getElem? (i := 455) (by decide +kernel), List.mem_of_getElem? (i := 456) (by decide +kernel)⟩
theorem lw_p11 : lw_okq (⟨"GiftShops$Parser", "wrong", "(I)Z"⟩, 3) := ⟨⟨by decide +kernel, by decide +kernel⟩, List.mem_of_getElem? (i := 108) (by decide +kernel), List.mem_of_getElem? (i := 459) (by decide +kernel), List.mem_of_getElem? (i := 460) (by decide +kernel)⟩
theorem lw_p12 : lw_okq (⟨"GiftShops$Scanner", "wayTold", "()I"⟩, 5) := ⟨⟨by decide +kernel, by decide +kernel⟩, List.mem_of_getElem? (i := 114) (by decide +kernel), List.mem_of_getElem? (i := 463) (by decide +kernel), List.mem_of_getElem? (i := 464) (by decide +kernel)⟩
theorem lw_p13 : lw_okq (⟨"GiftShops$Parser", "take", "(I)Z"⟩, 3) := ⟨⟨by decide +kernel, by decide +kernel⟩, List.mem_of_getElem? (i := 108) (by decide +kernel), List.mem_of_getElem? (i := 468) (by decide +kernel), List.mem_of_getElem? (i := 469) (by decide +kernel)⟩
theorem lw_p14 : lw_okq (⟨"GiftShops$Parser", "readTests", "(I)Z"⟩, 3) := ⟨⟨by decide +kernel, by decide +kernel⟩, List.mem_of_getElem? (i := 108) (by decide +kernel), List.mem_of_getElem? (i := 472) (by decide +kernel), List.mem_of_getElem? (i := 473) (by decide +kernel)⟩
theorem lw_p15 : lw_okq (⟨"GiftShops$Parser", "readTest", "(I)Z"⟩, 3) := ⟨⟨by decide +kernel, by decide +kernel⟩, List.mem_of_getElem? (i := 108) (by decide +kernel), List.mem_of_getElem? (i := 476) (by decide +kernel), List.mem_of_getElem? (i := 477) (by decide +kernel)⟩
def lw_privs_1 : List (MethodName × Nat) := [(⟨"GiftShops$Tape", "addBytes", "(J)V"⟩, 2), (⟨"GiftShops$Parser", "readInto", "(LGiftShops$Rules;)I"⟩, 3), (⟨"GiftShops$Rules", "clear", "()V"⟩, 6), (⟨"GiftShops$Scanner", "begin", "()V"⟩, 5), (⟨"GiftShops$Scanner", "next", "()V"⟩, 5), (⟨"GiftShops$Scanner", "behindRun", "(CC)I"⟩, 5), (⟨"GiftShops$Scanner", "wordToken", "()I"⟩, 5), (⟨"GiftShops$Scanner", "spells", "(I)Z"⟩, 5), (⟨"GiftShops$Scanner", "numberToken", "()I"⟩, 5), (⟨"GiftShops$Parser", "readLine", "()Z"⟩, 3), (⟨"GiftShops$Scanner", "isWay", "()Z"⟩, 5), (⟨"GiftShops$Parser", "wrong", "(I)Z"⟩, 3), (⟨"GiftShops$Scanner", "wayTold", "()I"⟩, 5), (⟨"GiftShops$Parser", "take", "(I)Z"⟩, 3), (⟨"GiftShops$Parser", "readTests", "(I)Z"⟩, 3), (⟨"GiftShops$Parser", "readTest", "(I)Z"⟩, 3)]
theorem lw_r1 : ∀ q ∈ lw_privs_1, lw_okq q := List.forall_mem_cons.mpr ⟨lw_p0, List.forall_mem_cons.mpr ⟨lw_p1, List.forall_mem_cons.mpr ⟨lw_p2, List.forall_mem_cons.mpr ⟨lw_p3, List.forall_mem_cons.mpr ⟨lw_p4, List.forall_mem_cons.mpr ⟨lw_p5, List.forall_mem_cons.mpr ⟨lw_p6, List.forall_mem_cons.mpr ⟨lw_p7, List.forall_mem_cons.mpr ⟨lw_p8, List.forall_mem_cons.mpr ⟨lw_p9, List.forall_mem_cons.mpr ⟨lw_p10, List.forall_mem_cons.mpr ⟨lw_p11, List.forall_mem_cons.mpr ⟨lw_p12, List.forall_mem_cons.mpr ⟨lw_p13, List.forall_mem_cons.mpr ⟨lw_p14, List.forall_mem_cons.mpr ⟨lw_p15, fun _ h => absurd h List.not_mem_nil⟩⟩⟩⟩⟩⟩⟩⟩⟩⟩⟩⟩⟩⟩⟩⟩
theorem lw_p16 : lw_okq (⟨"GiftShops$Parser", "readSum", "(I)Z"⟩, 3) := ⟨⟨by decide +kernel, by decide +kernel⟩, List.mem_of_getElem? (i := 108) (by decide +kernel), List.mem_of_getElem? (i := 480) (by decide +kernel), List.mem_of_getElem? (i := 481) (by decide +kernel)⟩
theorem lw_p17 : lw_okq (⟨"GiftShops$Parser", "readPart", "(I)Z"⟩, 3) := ⟨⟨by decide +kernel, by decide +kernel⟩, List.mem_of_getElem? (i := 108) (by decide +kernel), List.mem_of_getElem? (i := 484) (by decide +kernel), List.mem_of_getElem? (i := 485) (by decide +kernel)⟩
theorem lw_p18 : lw_okq (⟨"GiftShops$Scanner", "isFact", "()Z"⟩, 5) := ⟨⟨by decide +kernel, by decide +kernel⟩, List.mem_of_getElem? (i := 114) (by decide +kernel), List.mem_of_getElem? (i := 488) (by decide +kernel), List.mem_of_getElem? (i := 489) (by decide +kernel)⟩
theorem lw_p19 : lw_okq (⟨"GiftShops$Rules", "add", "(I)V"⟩, 6) := ⟨⟨by decide +kernel, by decide +kernel⟩, List.mem_of_getElem? (i := 81) (by decide +kernel), List.mem_of_getElem? (i := 492) (by decide +kernel), List.mem_of_getElem? (i := 493) (by decide +kernel)⟩
theorem lw_p20 : lw_okq (⟨"GiftShops$Scanner", "factTold", "()I"⟩, 5) := ⟨⟨by decide +kernel, by decide +kernel⟩, List.mem_of_getElem? (i := 114) (by decide +kernel), List.mem_of_getElem? (i := 496) (by decide +kernel), List.mem_of_getElem? (i := 497) (by decide +kernel)⟩
theorem lw_p21 : lw_okq (⟨"GiftShops$Rules", "endLine", "(I)V"⟩, 6) := ⟨⟨by decide +kernel, by decide +kernel⟩, List.mem_of_getElem? (i := 81) (by decide +kernel), List.mem_of_getElem? (i := 500) (by decide +kernel), List.mem_of_getElem? (i := 501) (by decide +kernel)⟩
theorem lw_p22 : lw_okq (⟨"GiftShops", "sortFor", "(LGiftShops$Thing;I)V"⟩, 18) := ⟨⟨by decide +kernel, by decide +kernel⟩, List.mem_of_getElem? (i := 24) (by decide +kernel), List.mem_of_getElem? (i := 509) (by decide +kernel), List.mem_of_getElem? (i := 510) (by decide +kernel)⟩
theorem lw_p23 : lw_okq (⟨"GiftShops", "wayByText", "(LGiftShops$Thing;)I"⟩, 18) := ⟨⟨by decide +kernel, by decide +kernel⟩, List.mem_of_getElem? (i := 24) (by decide +kernel), List.mem_of_getElem? (i := 513) (by decide +kernel), List.mem_of_getElem? (i := 514) (by decide +kernel)⟩
theorem lw_p24 : lw_okq (⟨"GiftShops", "seasonNow", "()I"⟩, 18) := ⟨⟨by decide +kernel, by decide +kernel⟩, List.mem_of_getElem? (i := 24) (by decide +kernel), List.mem_of_getElem? (i := 517) (by decide +kernel), List.mem_of_getElem? (i := 518) (by decide +kernel)⟩
theorem lw_p25 : lw_okq (⟨"GiftShops$Rules", "wayFor", "([I)I"⟩, 6) := ⟨⟨by decide +kernel, by decide +kernel⟩, List.mem_of_getElem? (i := 81) (by decide +kernel), List.mem_of_getElem? (i := 521) (by decide +kernel), List.mem_of_getElem? (i := 522) (by decide +kernel)⟩
theorem lw_p26 : lw_okq (⟨"GiftShops$Rules", "valueOf", "(II[I)I"⟩, 6) := ⟨⟨by decide +kernel, by decide +kernel⟩, List.mem_of_getElem? (i := 81) (by decide +kernel), List.mem_of_getElem? (i := 525) (by decide +kernel), List.mem_of_getElem? (i := 526) (by decide +kernel)⟩
theorem lw_p27 : lw_okq (⟨"GiftShops$Shop", "hasRoom", "()Z"⟩, 5) := ⟨⟨by decide +kernel, by decide +kernel⟩, List.mem_of_getElem? (i := 37) (by decide +kernel), List.mem_of_getElem? (i := 532) (by decide +kernel), List.mem_of_getElem? (i := 533) (by decide +kernel)⟩
theorem lw_p28 : lw_okq (⟨"GiftShops", "comeOnShelf", "(LGiftShops$Thing;II)V"⟩, 18) := ⟨⟨by decide +kernel, by decide +kernel⟩, List.mem_of_getElem? (i := 24) (by decide +kernel), List.mem_of_getElem? (i := 536) (by decide +kernel), List.mem_of_getElem? (i := 537) (by decide +kernel)⟩
theorem lw_p29 : lw_okq (⟨"GiftShops", "endWeek", "()V"⟩, 18) := ⟨⟨by decide +kernel, by decide +kernel⟩, List.mem_of_getElem? (i := 24) (by decide +kernel), List.mem_of_getElem? (i := 553) (by decide +kernel), List.mem_of_getElem? (i := 554) (by decide +kernel)⟩
theorem lw_p30 : lw_okq (⟨"GiftShops", "endWeekOnShelf", "(LGiftShops$Thing;)V"⟩, 18) := ⟨⟨by decide +kernel, by decide +kernel⟩, List.mem_of_getElem? (i := 24) (by decide +kernel), List.mem_of_getElem? (i := 557) (by decide +kernel), List.mem_of_getElem? (i := 558) (by decide +kernel)⟩
theorem lw_p31 : lw_okq (⟨"GiftShops", "leaveShelf", "(LGiftShops$Thing;I)V"⟩, 18) := ⟨⟨by decide +kernel, by decide +kernel⟩, List.mem_of_getElem? (i := 24) (by decide +kernel), List.mem_of_getElem? (i := 561) (by decide +kernel), List.mem_of_getElem? (i := 562) (by decide +kernel)⟩
def lw_privs_2 : List (MethodName × Nat) := [(⟨"GiftShops$Parser", "readSum", "(I)Z"⟩, 3), (⟨"GiftShops$Parser", "readPart", "(I)Z"⟩, 3), (⟨"GiftShops$Scanner", "isFact", "()Z"⟩, 5), (⟨"GiftShops$Rules", "add", "(I)V"⟩, 6), (⟨"GiftShops$Scanner", "factTold", "()I"⟩, 5), (⟨"GiftShops$Rules", "endLine", "(I)V"⟩, 6), (⟨"GiftShops", "sortFor", "(LGiftShops$Thing;I)V"⟩, 18), (⟨"GiftShops", "wayByText", "(LGiftShops$Thing;)I"⟩, 18), (⟨"GiftShops", "seasonNow", "()I"⟩, 18), (⟨"GiftShops$Rules", "wayFor", "([I)I"⟩, 6), (⟨"GiftShops$Rules", "valueOf", "(II[I)I"⟩, 6), (⟨"GiftShops$Shop", "hasRoom", "()Z"⟩, 5), (⟨"GiftShops", "comeOnShelf", "(LGiftShops$Thing;II)V"⟩, 18), (⟨"GiftShops", "endWeek", "()V"⟩, 18), (⟨"GiftShops", "endWeekOnShelf", "(LGiftShops$Thing;)V"⟩, 18), (⟨"GiftShops", "leaveShelf", "(LGiftShops$Thing;I)V"⟩, 18)]
theorem lw_r2 : ∀ q ∈ lw_privs_2, lw_okq q := List.forall_mem_cons.mpr ⟨lw_p16, List.forall_mem_cons.mpr ⟨lw_p17, List.forall_mem_cons.mpr ⟨lw_p18, List.forall_mem_cons.mpr ⟨lw_p19, List.forall_mem_cons.mpr ⟨lw_p20, List.forall_mem_cons.mpr ⟨lw_p21, List.forall_mem_cons.mpr ⟨lw_p22, List.forall_mem_cons.mpr ⟨lw_p23, List.forall_mem_cons.mpr ⟨lw_p24, List.forall_mem_cons.mpr ⟨lw_p25, List.forall_mem_cons.mpr ⟨lw_p26, List.forall_mem_cons.mpr ⟨lw_p27, List.forall_mem_cons.mpr ⟨lw_p28, List.forall_mem_cons.mpr ⟨lw_p29, List.forall_mem_cons.mpr ⟨lw_p30, List.forall_mem_cons.mpr ⟨lw_p31, fun _ h => absurd h List.not_mem_nil⟩⟩⟩⟩⟩⟩⟩⟩⟩⟩⟩⟩⟩⟩⟩⟩
theorem lw_p32 : lw_okq (⟨"GiftShops", "beginSeason", "()V"⟩, 18) := ⟨⟨by decide +kernel, by decide +kernel⟩, List.mem_of_getElem? (i := 24) (by decide +kernel), List.mem_of_getElem? (i := 565) (by decide +kernel), List.mem_of_getElem? (i := 566) (by decide +kernel)⟩
theorem lw_p33 : lw_okq (⟨"GiftShops", "firstShopWithRoom", "()I"⟩, 18) := ⟨⟨by decide +kernel, by decide +kernel⟩, List.mem_of_getElem? (i := 24) (by decide +kernel), List.mem_of_getElem? (i := 569) (by decide +kernel), List.mem_of_getElem? (i := 570) (by decide +kernel)⟩
theorem lw_p34 : lw_okq (⟨"GiftShops", "liesOnShelf", "(I)Z"⟩, 18) := ⟨⟨by decide +kernel, by decide +kernel⟩, List.mem_of_getElem? (i := 24) (by decide +kernel), List.mem_of_getElem? (i := 577) (by decide +kernel), List.mem_of_getElem? (i := 578) (by decide +kernel)⟩
theorem lw_p35 : lw_okq (⟨"GiftShops", "priceNow", "(LGiftShops$Thing;)I"⟩, 18) := ⟨⟨by decide +kernel, by decide +kernel⟩, List.mem_of_getElem? (i := 24) (by decide +kernel), List.mem_of_getElem? (i := 581) (by decide +kernel), List.mem_of_getElem? (i := 582) (by decide +kernel)⟩
theorem lw_p36 : lw_okq (⟨"GiftShops", "worthIn", "(LGiftShops$Thing;I)I"⟩, 18) := ⟨⟨by decide +kernel, by decide +kernel⟩, List.mem_of_getElem? (i := 24) (by decide +kernel), List.mem_of_getElem? (i := 635) (by decide +kernel), List.mem_of_getElem? (i := 636) (by decide +kernel)⟩
theorem lw_p37 : lw_okq (⟨"GiftShops$Shop", "expected", "(II)I"⟩, 5) := ⟨⟨by decide +kernel, by decide +kernel⟩, List.mem_of_getElem? (i := 37) (by decide +kernel), List.mem_of_getElem? (i := 639) (by decide +kernel), List.mem_of_getElem? (i := 640) (by decide +kernel)⟩
theorem lw_p38 : lw_okq (⟨"GiftShops", "betterShop", "(LGiftShops$Thing;)I"⟩, 18) := ⟨⟨by decide +kernel, by decide +kernel⟩, List.mem_of_getElem? (i := 24) (by decide +kernel), List.mem_of_getElem? (i := 647) (by decide +kernel), List.mem_of_getElem? (i := 648) (by decide +kernel)⟩
theorem lw_p39 : lw_okq (⟨"GiftShops$Roads", "tell", "(III)Z"⟩, 2) := ⟨⟨by decide +kernel, by decide +kernel⟩, List.mem_of_getElem? (i := 149) (by decide +kernel), List.mem_of_getElem? (i := 663) (by decide +kernel), List.mem_of_getElem? (i := 664) (by decide +kernel)⟩
theorem lw_p40 : lw_okq (⟨"GiftShops$Roads", "shortestRound", "(I)I"⟩, 2) := ⟨⟨by decide +kernel, by decide +kernel⟩, List.mem_of_getElem? (i := 149) (by decide +kernel), List.mem_of_getElem? (i := 672) (by decide +kernel), List.mem_of_getElem? (i := 673) (by decide +kernel)⟩
theorem lw_p41 : lw_okq (⟨"GiftShops$Roads", "fillPart", "(I)V"⟩, 2) := ⟨⟨by decide +kernel, by decide +kernel⟩, List.mem_of_getElem? (i := 149) (by decide +kernel), List.mem_of_getElem? (i := 676) (by decide +kernel), List.mem_of_getElem? (i := 677) (by decide +kernel)⟩
theorem lw_p42 : lw_okq (⟨"GiftShops$Roads", "leastInto", "(II)I"⟩, 2) := ⟨⟨by decide +kernel, by decide +kernel⟩, List.mem_of_getElem? (i := 149) (by decide +kernel), List.mem_of_getElem? (i := 680) (by decide +kernel), List.mem_of_getElem? (i := 681) (by decide +kernel)⟩
theorem lw_p43 : lw_okq (⟨"GiftShops$Turns", "addHelper", "(I)I"⟩, 5) := ⟨⟨by decide +kernel, by decide +kernel⟩, List.mem_of_getElem? (i := 162) (by decide +kernel), List.mem_of_getElem? (i := 690) (by decide +kernel), List.mem_of_getElem? (i := 691) (by decide +kernel)⟩
theorem lw_p44 : lw_okq (⟨"GiftShops$Turns", "leastTurns", "(I)I"⟩, 5) := ⟨⟨by decide +kernel, by decide +kernel⟩, List.mem_of_getElem? (i := 162) (by decide +kernel), List.mem_of_getElem? (i := 699) (by decide +kernel), List.mem_of_getElem? (i := 700) (by decide +kernel)⟩
theorem lw_p45 : lw_okq (⟨"GiftShops$Turns", "eachDayHasTwo", "(I)Z"⟩, 5) := ⟨⟨by decide +kernel, by decide +kernel⟩, List.mem_of_getElem? (i := 162) (by decide +kernel), List.mem_of_getElem? (i := 703) (by decide +kernel), List.mem_of_getElem? (i := 704) (by decide +kernel)⟩
theorem lw_p46 : lw_okq (⟨"GiftShops$Turns", "helpersOn", "(I)I"⟩, 5) := ⟨⟨by decide +kernel, by decide +kernel⟩, List.mem_of_getElem? (i := 162) (by decide +kernel), List.mem_of_getElem? (i := 707) (by decide +kernel), List.mem_of_getElem? (i := 708) (by decide +kernel)⟩
theorem lw_p47 : lw_okq (⟨"GiftShops$Turns", "fillPlace", "(II)I"⟩, 5) := ⟨⟨by decide +kernel, by decide +kernel⟩, List.mem_of_getElem? (i := 162) (by decide +kernel), List.mem_of_getElem? (i := 711) (by decide +kernel), List.mem_of_getElem? (i := 712) (by decide +kernel)⟩
def lw_privs_3 : List (MethodName × Nat) := [(⟨"GiftShops", "beginSeason", "()V"⟩, 18), (⟨"GiftShops", "firstShopWithRoom", "()I"⟩, 18), (⟨"GiftShops", "liesOnShelf", "(I)Z"⟩, 18), (⟨"GiftShops", "priceNow", "(LGiftShops$Thing;)I"⟩, 18), (⟨"GiftShops", "worthIn", "(LGiftShops$Thing;I)I"⟩, 18), (⟨"GiftShops$Shop", "expected", "(II)I"⟩, 5), (⟨"GiftShops", "betterShop", "(LGiftShops$Thing;)I"⟩, 18), (⟨"GiftShops$Roads", "tell", "(III)Z"⟩, 2), (⟨"GiftShops$Roads", "shortestRound", "(I)I"⟩, 2), (⟨"GiftShops$Roads", "fillPart", "(I)V"⟩, 2), (⟨"GiftShops$Roads", "leastInto", "(II)I"⟩, 2), (⟨"GiftShops$Turns", "addHelper", "(I)I"⟩, 5), (⟨"GiftShops$Turns", "leastTurns", "(I)I"⟩, 5), (⟨"GiftShops$Turns", "eachDayHasTwo", "(I)Z"⟩, 5), (⟨"GiftShops$Turns", "helpersOn", "(I)I"⟩, 5), (⟨"GiftShops$Turns", "fillPlace", "(II)I"⟩, 5)]
theorem lw_r3 : ∀ q ∈ lw_privs_3, lw_okq q := List.forall_mem_cons.mpr ⟨lw_p32, List.forall_mem_cons.mpr ⟨lw_p33, List.forall_mem_cons.mpr ⟨lw_p34, List.forall_mem_cons.mpr ⟨lw_p35, List.forall_mem_cons.mpr ⟨lw_p36, List.forall_mem_cons.mpr ⟨lw_p37, List.forall_mem_cons.mpr ⟨lw_p38, List.forall_mem_cons.mpr ⟨lw_p39, List.forall_mem_cons.mpr ⟨lw_p40, List.forall_mem_cons.mpr ⟨lw_p41, List.forall_mem_cons.mpr ⟨lw_p42, List.forall_mem_cons.mpr ⟨lw_p43, List.forall_mem_cons.mpr ⟨lw_p44, List.forall_mem_cons.mpr ⟨lw_p45, List.forall_mem_cons.mpr ⟨lw_p46, List.forall_mem_cons.mpr ⟨lw_p47, fun _ h => absurd h List.not_mem_nil⟩⟩⟩⟩⟩⟩⟩⟩⟩⟩⟩⟩⟩⟩⟩⟩
theorem lw_p48 : lw_okq (⟨"GiftShops$Turns", "findHelper", "(III)Z"⟩, 5) := ⟨⟨by decide +kernel, by decide +kernel⟩, List.mem_of_getElem? (i := 162) (by decide +kernel), List.mem_of_getElem? (i := 715) (by decide +kernel), List.mem_of_getElem? (i := 716) (by decide +kernel)⟩
theorem lw_p49 : lw_okq (⟨"GiftShops$Turns", "handOver", "(III)Z"⟩, 5) := ⟨⟨by decide +kernel, by decide +kernel⟩, List.mem_of_getElem? (i := 162) (by decide +kernel), List.mem_of_getElem? (i := 725) (by decide +kernel), List.mem_of_getElem? (i := 726) (by decide +kernel)⟩
theorem lw_p50 : lw_okq (⟨"GiftShops", "validSales", "()I"⟩, 18) := ⟨⟨by decide +kernel, by decide +kernel⟩, List.mem_of_getElem? (i := 24) (by decide +kernel), List.mem_of_getElem? (i := 741) (by decide +kernel), List.mem_of_getElem? (i := 742) (by decide +kernel)⟩
theorem lw_p51 : lw_okq (⟨"GiftShops", "validSum", "()I"⟩, 18) := ⟨⟨by decide +kernel, by decide +kernel⟩, List.mem_of_getElem? (i := 24) (by decide +kernel), List.mem_of_getElem? (i := 745) (by decide +kernel), List.mem_of_getElem? (i := 746) (by decide +kernel)⟩
theorem lw_p52 : lw_okq (⟨"GiftShops", "thingsThatAre", "(I)I"⟩, 18) := ⟨⟨by decide +kernel, by decide +kernel⟩, List.mem_of_getElem? (i := 24) (by decide +kernel), List.mem_of_getElem? (i := 749) (by decide +kernel), List.mem_of_getElem? (i := 750) (by decide +kernel)⟩
theorem lw_p53 : lw_okq (⟨"java/lang/Throwable", "fillInStackTrace", "(I)Ljava/lang/Throwable;"⟩, 6) := ⟨⟨by decide +kernel, by decide +kernel⟩, List.mem_of_getElem? (i := 797) (by decide +kernel), List.mem_of_getElem? (i := 795) (by decide +kernel), List.mem_of_getElem? (i := 796) (by decide +kernel)⟩
theorem lw_p54 : lw_okq (⟨"GiftShopsModel", "lay", "(J)V"⟩, 54) := ⟨⟨by decide +kernel, by decide +kernel⟩, List.mem_of_getElem? (i := 836) (by decide +kernel), List.mem_of_getElem? (i := 834) (by decide +kernel), List.mem_of_getElem? (i := 835) (by decide +kernel)⟩
theorem lw_p55 : lw_okq (⟨"GiftShopsModel", "cutAll", "()V"⟩, 54) := ⟨⟨by decide +kernel, by decide +kernel⟩, List.mem_of_getElem? (i := 836) (by decide +kernel), List.mem_of_getElem? (i := 1025) (by decide +kernel), List.mem_of_getElem? (i := 1026) (by decide +kernel)⟩
theorem lw_p56 : lw_okq (⟨"GiftShopsModel", "line", "()V"⟩, 54) := ⟨⟨by decide +kernel, by decide +kernel⟩, List.mem_of_getElem? (i := 836) (by decide +kernel), List.mem_of_getElem? (i := 1044) (by decide +kernel), List.mem_of_getElem? (i := 1045) (by decide +kernel)⟩
theorem lw_p57 : lw_okq (⟨"GiftShopsModel", "isWord", "(I)Z"⟩, 54) := ⟨⟨by decide +kernel, by decide +kernel⟩, List.mem_of_getElem? (i := 836) (by decide +kernel), List.mem_of_getElem? (i := 1048) (by decide +kernel), List.mem_of_getElem? (i := 1049) (by decide +kernel)⟩
theorem lw_p58 : lw_okq (⟨"GiftShopsModel", "wrong", "(I)V"⟩, 54) := ⟨⟨by decide +kernel, by decide +kernel⟩, List.mem_of_getElem? (i := 836) (by decide +kernel), List.mem_of_getElem? (i := 1052) (by decide +kernel), List.mem_of_getElem? (i := 1053) (by decide +kernel)⟩
theorem lw_p59 : lw_okq (⟨"GiftShopsModel", "takeWord", "(I)V"⟩, 54) := ⟨⟨by decide +kernel, by decide +kernel⟩, List.mem_of_getElem? (i := 836) (by decide +kernel), List.mem_of_getElem? (i := 1056) (by decide +kernel), List.mem_of_getElem? (i := 1057) (by decide +kernel)⟩
theorem lw_p60 : lw_okq (⟨"GiftShopsModel", "hasWord", "(I)Z"⟩, 54) := ⟨⟨by decide +kernel, by decide +kernel⟩, List.mem_of_getElem? (i := 836) (by decide +kernel), List.mem_of_getElem? (i := 1060) (by decide +kernel), List.mem_of_getElem? (i := 1061) (by decide +kernel)⟩
theorem lw_p61 : lw_okq (⟨"GiftShopsModel", "opens", "()V"⟩, 54) := ⟨⟨by decide +kernel, by decide +kernel⟩, List.mem_of_getElem? (i := 836) (by decide +kernel), List.mem_of_getElem? (i := 1064) (by decide +kernel), List.mem_of_getElem? (i := 1065) (by decide +kernel)⟩
theorem lw_p62 : lw_okq (⟨"GiftShopsModel", "part", "()Z"⟩, 54) := ⟨⟨by decide +kernel, by decide +kernel⟩, List.mem_of_getElem? (i := 836) (by decide +kernel), List.mem_of_getElem? (i := 1068) (by decide +kernel), List.mem_of_getElem? (i := 1069) (by decide +kernel)⟩
theorem lw_p63 : lw_okq (⟨"GiftShopsModel", "partWord", "()I"⟩, 54) := ⟨⟨by decide +kernel, by decide +kernel⟩, List.mem_of_getElem? (i := 836) (by decide +kernel), List.mem_of_getElem? (i := 1072) (by decide +kernel), List.mem_of_getElem? (i := 1073) (by decide +kernel)⟩
def lw_privs_4 : List (MethodName × Nat) := [(⟨"GiftShops$Turns", "findHelper", "(III)Z"⟩, 5), (⟨"GiftShops$Turns", "handOver", "(III)Z"⟩, 5), (⟨"GiftShops", "validSales", "()I"⟩, 18), (⟨"GiftShops", "validSum", "()I"⟩, 18), (⟨"GiftShops", "thingsThatAre", "(I)I"⟩, 18), (⟨"java/lang/Throwable", "fillInStackTrace", "(I)Ljava/lang/Throwable;"⟩, 6), (⟨"GiftShopsModel", "lay", "(J)V"⟩, 54), (⟨"GiftShopsModel", "cutAll", "()V"⟩, 54), (⟨"GiftShopsModel", "line", "()V"⟩, 54), (⟨"GiftShopsModel", "isWord", "(I)Z"⟩, 54), (⟨"GiftShopsModel", "wrong", "(I)V"⟩, 54), (⟨"GiftShopsModel", "takeWord", "(I)V"⟩, 54), (⟨"GiftShopsModel", "hasWord", "(I)Z"⟩, 54), (⟨"GiftShopsModel", "opens", "()V"⟩, 54), (⟨"GiftShopsModel", "part", "()Z"⟩, 54), (⟨"GiftShopsModel", "partWord", "()I"⟩, 54)]
theorem lw_r4 : ∀ q ∈ lw_privs_4, lw_okq q := List.forall_mem_cons.mpr ⟨lw_p48, List.forall_mem_cons.mpr ⟨lw_p49, List.forall_mem_cons.mpr ⟨lw_p50, List.forall_mem_cons.mpr ⟨lw_p51, List.forall_mem_cons.mpr ⟨lw_p52, List.forall_mem_cons.mpr ⟨lw_p53, List.forall_mem_cons.mpr ⟨lw_p54, List.forall_mem_cons.mpr ⟨lw_p55, List.forall_mem_cons.mpr ⟨lw_p56, List.forall_mem_cons.mpr ⟨lw_p57, List.forall_mem_cons.mpr ⟨lw_p58, List.forall_mem_cons.mpr ⟨lw_p59, List.forall_mem_cons.mpr ⟨lw_p60, List.forall_mem_cons.mpr ⟨lw_p61, List.forall_mem_cons.mpr ⟨lw_p62, List.forall_mem_cons.mpr ⟨lw_p63, fun _ h => absurd h List.not_mem_nil⟩⟩⟩⟩⟩⟩⟩⟩⟩⟩⟩⟩⟩⟩⟩⟩
theorem lw_p64 : lw_okq (⟨"GiftShopsModel", "isSign", "(I)Z"⟩, 54) := ⟨⟨by decide +kernel, by decide +kernel⟩, List.mem_of_getElem? (i := 836) (by decide +kernel), List.mem_of_getElem? (i := 1076) (by decide +kernel), List.mem_of_getElem? (i := 1077) (by decide +kernel)⟩
theorem lw_p65 : lw_okq (⟨"GiftShopsModel", "hasSign", "(I)Z"⟩, 54) := ⟨⟨by decide +kernel, by decide +kernel⟩, List.mem_of_getElem? (i := 836) (by decide +kernel), List.mem_of_getElem? (i := 1080) (by decide +kernel), List.mem_of_getElem? (i := 1081) (by decide +kernel)⟩
theorem lw_p66 : lw_okq (⟨"GiftShopsModel", "emit", "(II)V"⟩, 54) := ⟨⟨by decide +kernel, by decide +kernel⟩, List.mem_of_getElem? (i := 836) (by decide +kernel), List.mem_of_getElem? (i := 1084) (by decide +kernel), List.mem_of_getElem? (i := 1085) (by decide +kernel)⟩
theorem lw_p67 : lw_okq (⟨"GiftShopsModel", "goesOnBehind", "()Z"⟩, 54) := ⟨⟨by decide +kernel, by decide +kernel⟩, List.mem_of_getElem? (i := 836) (by decide +kernel), List.mem_of_getElem? (i := 1088) (by decide +kernel), List.mem_of_getElem? (i := 1089) (by decide +kernel)⟩
theorem lw_p68 : lw_okq (⟨"GiftShopsModel", "takeSign", "(I)V"⟩, 54) := ⟨⟨by decide +kernel, by decide +kernel⟩, List.mem_of_getElem? (i := 836) (by decide +kernel), List.mem_of_getElem? (i := 1092) (by decide +kernel), List.mem_of_getElem? (i := 1093) (by decide +kernel)⟩
theorem lw_p69 : lw_okq (⟨"GiftShopsModel", "isThing", "(I)Z"⟩, 54) := ⟨⟨by decide +kernel, by decide +kernel⟩, List.mem_of_getElem? (i := 836) (by decide +kernel), List.mem_of_getElem? (i := 1118) (by decide +kernel), List.mem_of_getElem? (i := 1119) (by decide +kernel)⟩
theorem lw_p70 : lw_okq (⟨"GiftShopsModel", "sorts", "(II)V"⟩, 54) := ⟨⟨by decide +kernel, by decide +kernel⟩, List.mem_of_getElem? (i := 836) (by decide +kernel), List.mem_of_getElem? (i := 1122) (by decide +kernel), List.mem_of_getElem? (i := 1123) (by decide +kernel)⟩
theorem lw_p71 : lw_okq (⟨"GiftShopsModel", "wayOf", "(I)I"⟩, 54) := ⟨⟨by decide +kernel, by decide +kernel⟩, List.mem_of_getElem? (i := 836) (by decide +kernel), List.mem_of_getElem? (i := 1126) (by decide +kernel), List.mem_of_getElem? (i := 1127) (by decide +kernel)⟩
theorem lw_p72 : lw_okq (⟨"GiftShopsModel", "seasonNow", "()I"⟩, 54) := ⟨⟨by decide +kernel, by decide +kernel⟩, List.mem_of_getElem? (i := 836) (by decide +kernel), List.mem_of_getElem? (i := 1130) (by decide +kernel), List.mem_of_getElem? (i := 1131) (by decide +kernel)⟩
theorem lw_p73 : lw_okq (⟨"GiftShopsModel", "valueOf", "(I)I"⟩, 54) := ⟨⟨by decide +kernel, by decide +kernel⟩, List.mem_of_getElem? (i := 836) (by decide +kernel), List.mem_of_getElem? (i := 1134) (by decide +kernel), List.mem_of_getElem? (i := 1135) (by decide +kernel)⟩
theorem lw_p74 : lw_okq (⟨"GiftShopsModel", "hasRoom", "(I)Z"⟩, 54) := ⟨⟨by decide +kernel, by decide +kernel⟩, List.mem_of_getElem? (i := 836) (by decide +kernel), List.mem_of_getElem? (i := 1138) (by decide +kernel), List.mem_of_getElem? (i := 1139) (by decide +kernel)⟩
theorem lw_p75 : lw_okq (⟨"GiftShopsModel", "onShelf", "(I)I"⟩, 54) := ⟨⟨by decide +kernel, by decide +kernel⟩, List.mem_of_getElem? (i := 836) (by decide +kernel), List.mem_of_getElem? (i := 1142) (by decide +kernel), List.mem_of_getElem? (i := 1143) (by decide +kernel)⟩
theorem lw_p76 : lw_okq (⟨"GiftShopsModel", "comesOn", "(II)V"⟩, 54) := ⟨⟨by decide +kernel, by decide +kernel⟩, List.mem_of_getElem? (i := 836) (by decide +kernel), List.mem_of_getElem? (i := 1146) (by decide +kernel), List.mem_of_getElem? (i := 1147) (by decide +kernel)⟩
theorem lw_p77 : lw_okq (⟨"GiftShopsModel", "week", "()V"⟩, 54) := ⟨⟨by decide +kernel, by decide +kernel⟩, List.mem_of_getElem? (i := 836) (by decide +kernel), List.mem_of_getElem? (i := 1162) (by decide +kernel), List.mem_of_getElem? (i := 1163) (by decide +kernel)⟩
theorem lw_p78 : lw_okq (⟨"GiftShopsModel", "firstWithRoom", "()I"⟩, 54) := ⟨⟨by decide +kernel, by decide +kernel⟩, List.mem_of_getElem? (i := 836) (by decide +kernel), List.mem_of_getElem? (i := 1166) (by decide +kernel), List.mem_of_getElem? (i := 1167) (by decide +kernel)⟩
theorem lw_p79 : lw_okq (⟨"GiftShopsModel", "isOn", "(I)Z"⟩, 54) := ⟨⟨by decide +kernel, by decide +kernel⟩, List.mem_of_getElem? (i := 836) (by decide +kernel), List.mem_of_getElem? (i := 1174) (by decide +kernel), List.mem_of_getElem? (i := 1175) (by decide +kernel)⟩
def lw_privs_5 : List (MethodName × Nat) := [(⟨"GiftShopsModel", "isSign", "(I)Z"⟩, 54), (⟨"GiftShopsModel", "hasSign", "(I)Z"⟩, 54), (⟨"GiftShopsModel", "emit", "(II)V"⟩, 54), (⟨"GiftShopsModel", "goesOnBehind", "()Z"⟩, 54), (⟨"GiftShopsModel", "takeSign", "(I)V"⟩, 54), (⟨"GiftShopsModel", "isThing", "(I)Z"⟩, 54), (⟨"GiftShopsModel", "sorts", "(II)V"⟩, 54), (⟨"GiftShopsModel", "wayOf", "(I)I"⟩, 54), (⟨"GiftShopsModel", "seasonNow", "()I"⟩, 54), (⟨"GiftShopsModel", "valueOf", "(I)I"⟩, 54), (⟨"GiftShopsModel", "hasRoom", "(I)Z"⟩, 54), (⟨"GiftShopsModel", "onShelf", "(I)I"⟩, 54), (⟨"GiftShopsModel", "comesOn", "(II)V"⟩, 54), (⟨"GiftShopsModel", "week", "()V"⟩, 54), (⟨"GiftShopsModel", "firstWithRoom", "()I"⟩, 54), (⟨"GiftShopsModel", "isOn", "(I)Z"⟩, 54)]
theorem lw_r5 : ∀ q ∈ lw_privs_5, lw_okq q := List.forall_mem_cons.mpr ⟨lw_p64, List.forall_mem_cons.mpr ⟨lw_p65, List.forall_mem_cons.mpr ⟨lw_p66, List.forall_mem_cons.mpr ⟨lw_p67, List.forall_mem_cons.mpr ⟨lw_p68, List.forall_mem_cons.mpr ⟨lw_p69, List.forall_mem_cons.mpr ⟨lw_p70, List.forall_mem_cons.mpr ⟨lw_p71, List.forall_mem_cons.mpr ⟨lw_p72, List.forall_mem_cons.mpr ⟨lw_p73, List.forall_mem_cons.mpr ⟨lw_p74, List.forall_mem_cons.mpr ⟨lw_p75, List.forall_mem_cons.mpr ⟨lw_p76, List.forall_mem_cons.mpr ⟨lw_p77, List.forall_mem_cons.mpr ⟨lw_p78, List.forall_mem_cons.mpr ⟨lw_p79, fun _ h => absurd h List.not_mem_nil⟩⟩⟩⟩⟩⟩⟩⟩⟩⟩⟩⟩⟩⟩⟩⟩
theorem lw_p80 : lw_okq (⟨"GiftShopsModel", "priceOf", "(I)I"⟩, 54) := ⟨⟨by decide +kernel, by decide +kernel⟩, List.mem_of_getElem? (i := 836) (by decide +kernel), List.mem_of_getElem? (i := 1178) (by decide +kernel), List.mem_of_getElem? (i := 1179) (by decide +kernel)⟩
theorem lw_p81 : lw_okq (⟨"GiftShopsModel", "weighs", "(III)I"⟩, 54) := ⟨⟨by decide +kernel, by decide +kernel⟩, List.mem_of_getElem? (i := 836) (by decide +kernel), List.mem_of_getElem? (i := 1202) (by decide +kernel), List.mem_of_getElem? (i := 1203) (by decide +kernel)⟩
theorem lw_p82 : lw_okq (⟨"GiftShopsModel", "whereTo", "(I)I"⟩, 54) := ⟨⟨by decide +kernel, by decide +kernel⟩, List.mem_of_getElem? (i := 836) (by decide +kernel), List.mem_of_getElem? (i := 1210) (by decide +kernel), List.mem_of_getElem? (i := 1211) (by decide +kernel)⟩
theorem lw_p83 : lw_okq (⟨"GiftShopsModel", "goes", "(II)I"⟩, 54) := ⟨⟨by decide +kernel, by decide +kernel⟩, List.mem_of_getElem? (i := 836) (by decide +kernel), List.mem_of_getElem? (i := 1230) (by decide +kernel), List.mem_of_getElem? (i := 1231) (by decide +kernel)⟩
theorem lw_p84 : lw_okq (⟨"GiftShopsModel", "canBe", "(I)Z"⟩, 54) := ⟨⟨by decide +kernel, by decide +kernel⟩, List.mem_of_getElem? (i := 836) (by decide +kernel), List.mem_of_getElem? (i := 1242) (by decide +kernel), List.mem_of_getElem? (i := 1243) (by decide +kernel)⟩
theorem lw_p85 : lw_okq (⟨"GiftShopsModel", "finds", "(I)Z"⟩, 54) := ⟨⟨by decide +kernel, by decide +kernel⟩, List.mem_of_getElem? (i := 836) (by decide +kernel), List.mem_of_getElem? (i := 1246) (by decide +kernel), List.mem_of_getElem? (i := 1247) (by decide +kernel)⟩
theorem lw_p86 : lw_okq (⟨"GiftShopsModel", "loadOf", "(I)I"⟩, 54) := ⟨⟨by decide +kernel, by decide +kernel⟩, List.mem_of_getElem? (i := 836) (by decide +kernel), List.mem_of_getElem? (i := 1250) (by decide +kernel), List.mem_of_getElem? (i := 1251) (by decide +kernel)⟩
theorem lw_p87 : lw_okq (⟨"GiftShopsModel", "givesWay", "(I)Z"⟩, 54) := ⟨⟨by decide +kernel, by decide +kernel⟩, List.mem_of_getElem? (i := 836) (by decide +kernel), List.mem_of_getElem? (i := 1254) (by decide +kernel), List.mem_of_getElem? (i := 1255) (by decide +kernel)⟩
theorem lw_p88 : lw_okq (⟨"GiftShopsModel", "thingsThat", "(I)I"⟩, 54) := ⟨⟨by decide +kernel, by decide +kernel⟩, List.mem_of_getElem? (i := 836) (by decide +kernel), List.mem_of_getElem? (i := 1274) (by decide +kernel), List.mem_of_getElem? (i := 1275) (by decide +kernel)⟩
def lw_privs_6 : List (MethodName × Nat) := [(⟨"GiftShopsModel", "priceOf", "(I)I"⟩, 54), (⟨"GiftShopsModel", "weighs", "(III)I"⟩, 54), (⟨"GiftShopsModel", "whereTo", "(I)I"⟩, 54), (⟨"GiftShopsModel", "goes", "(II)I"⟩, 54), (⟨"GiftShopsModel", "canBe", "(I)Z"⟩, 54), (⟨"GiftShopsModel", "finds", "(I)Z"⟩, 54), (⟨"GiftShopsModel", "loadOf", "(I)I"⟩, 54), (⟨"GiftShopsModel", "givesWay", "(I)Z"⟩, 54), (⟨"GiftShopsModel", "thingsThat", "(I)I"⟩, 54)]
theorem lw_r6 : ∀ q ∈ lw_privs_6, lw_okq q := List.forall_mem_cons.mpr ⟨lw_p80, List.forall_mem_cons.mpr ⟨lw_p81, List.forall_mem_cons.mpr ⟨lw_p82, List.forall_mem_cons.mpr ⟨lw_p83, List.forall_mem_cons.mpr ⟨lw_p84, List.forall_mem_cons.mpr ⟨lw_p85, List.forall_mem_cons.mpr ⟨lw_p86, List.forall_mem_cons.mpr ⟨lw_p87, List.forall_mem_cons.mpr ⟨lw_p88, fun _ h => absurd h List.not_mem_nil⟩⟩⟩⟩⟩⟩⟩⟩⟩
def lw_privs : List (MethodName × Nat) := lw_privs_1 ++ (lw_privs_2 ++ (lw_privs_3 ++ (lw_privs_4 ++ (lw_privs_5 ++ (lw_privs_6)))))
def lw_tbl : List Cond := k2_sels lw_privs ++ tables_1
theorem lw_privs_ok : ∀ q ∈ lw_privs, lw_okq q := by
  show ∀ q ∈ lw_privs_1 ++ (lw_privs_2 ++ (lw_privs_3 ++ (lw_privs_4 ++ (lw_privs_5 ++ (lw_privs_6))))), lw_okq q
  exact List.forall_mem_append.mpr ⟨lw_r1, List.forall_mem_append.mpr ⟨lw_r2, List.forall_mem_append.mpr ⟨lw_r3, List.forall_mem_append.mpr ⟨lw_r4, List.forall_mem_append.mpr ⟨lw_r5, lw_r6⟩⟩⟩⟩⟩
end
section
def RX0 : String := "GiftShops$Parser"
def TX0 : u_T := fun k => match k with
  | 0 => ("GiftShops$Parser", "scanner", "LGiftShops$Scanner;", true)
  | 1 => ("GiftShops$Parser", "into", "LGiftShops$Rules;", false)
  | _ => ("GiftShops$Parser", "fault", "I", false)
def tyX0 : Nat → FieldType := fun k => match k with
  | 0 => .object "GiftShops$Scanner"
  | 1 => .object "GiftShops$Rules"
  | _ => .int
abbrev wsX00 : List Cond := u_ws RX0 TX0 3
theorem nmX0 : ∀ a, a < 3 → ∀ b, b < 3 → a ≠ b → (TX0 a).2.1 ≠ (TX0 b).2.1 := by decide +kernel
theorem tyX0_ok : ∀ k, k < 3 → parseFieldDescriptor (TX0 k).2.2.1 = some (tyX0 k) := by decide +kernel
theorem iX0 : ∀ w ∈ wsX00, w ∈ lw_tbl := by decide +kernel
def RX1 : String := "GiftShops$Roads"
def TX1 : u_T := fun k => match k with
  | 0 => ("GiftShops$Roads", "lengths", "[I", true)
  | _ => ("GiftShops$Roads", "endingAt", "[I", true)
def tyX1 : Nat → FieldType := fun k => match k with
  | 0 => .array .int
  | _ => .array .int
abbrev wsX10 : List Cond := u_ws RX1 TX1 2
theorem nmX1 : ∀ a, a < 2 → ∀ b, b < 2 → a ≠ b → (TX1 a).2.1 ≠ (TX1 b).2.1 := by decide +kernel
theorem tyX1_ok : ∀ k, k < 2 → parseFieldDescriptor (TX1 k).2.2.1 = some (tyX1 k) := by decide +kernel
theorem iX1 : ∀ w ∈ wsX10, w ∈ lw_tbl := by decide +kernel
def RX2 : String := "GiftShops$Rules"
def TX2 : u_T := fun k => match k with
  | 0 => ("GiftShops$Rules", "codes", "[I", true)
  | 1 => ("GiftShops$Rules", "ends", "[I", true)
  | 2 => ("GiftShops$Rules", "ways", "[I", true)
  | 3 => ("GiftShops$Rules", "stack", "[I", true)
  | 4 => ("GiftShops$Rules", "size", "I", false)
  | _ => ("GiftShops$Rules", "lines", "I", false)
def tyX2 : Nat → FieldType := fun k => match k with
  | 0 => .array .int
  | 1 => .array .int
  | 2 => .array .int
  | 3 => .array .int
  | 4 => .int
  | _ => .int
abbrev wsX20 : List Cond := u_ws RX2 TX2 6
theorem nmX2 : ∀ a, a < 6 → ∀ b, b < 6 → a ≠ b → (TX2 a).2.1 ≠ (TX2 b).2.1 := by decide +kernel
theorem tyX2_ok : ∀ k, k < 6 → parseFieldDescriptor (TX2 k).2.2.1 = some (tyX2 k) := by decide +kernel
theorem iX2 : ∀ w ∈ wsX20, w ∈ lw_tbl := by decide +kernel
def RX3 : String := "GiftShops$Sale"
def TX3 : u_T := fun k => match k with
  | 0 => ("GiftShops$Sale", "thing", "LGiftShops$Thing;", true)
  | 1 => ("GiftShops$Sale", "shop", "I", true)
  | 2 => ("GiftShops$Sale", "since", "I", true)
  | 3 => ("GiftShops$Sale", "price", "I", true)
  | 4 => ("GiftShops$Sale", "week", "I", true)
  | _ => ("GiftShops$Sale", "isVoid", "Z", false)
def tyX3 : Nat → FieldType := fun k => match k with
  | 0 => .object "GiftShops$Thing"
  | 1 => .int
  | 2 => .int
  | 3 => .int
  | 4 => .int
  | _ => .boolean
abbrev wsX30 : List Cond := u_ws RX3 TX3 6
theorem nmX3 : ∀ a, a < 6 → ∀ b, b < 6 → a ≠ b → (TX3 a).2.1 ≠ (TX3 b).2.1 := by decide +kernel
theorem tyX3_ok : ∀ k, k < 6 → parseFieldDescriptor (TX3 k).2.2.1 = some (tyX3 k) := by decide +kernel
theorem iX3 : ∀ w ∈ wsX30, w ∈ lw_tbl := by decide +kernel
def RX4 : String := "GiftShops$Scanner"
def TX4 : u_T := fun k => match k with
  | 0 => ("GiftShops$Scanner", "tape", "LGiftShops$Tape;", true)
  | 1 => ("GiftShops$Scanner", "token", "I", false)
  | 2 => ("GiftShops$Scanner", "start", "I", false)
  | 3 => ("GiftShops$Scanner", "end", "I", false)
  | _ => ("GiftShops$Scanner", "number", "I", false)
def tyX4 : Nat → FieldType := fun k => match k with
  | 0 => .object "GiftShops$Tape"
  | 1 => .int
  | 2 => .int
  | 3 => .int
  | _ => .int
abbrev wsX40 : List Cond := u_ws RX4 TX4 5
theorem nmX4 : ∀ a, a < 5 → ∀ b, b < 5 → a ≠ b → (TX4 a).2.1 ≠ (TX4 b).2.1 := by decide +kernel
theorem tyX4_ok : ∀ k, k < 5 → parseFieldDescriptor (TX4 k).2.2.1 = some (tyX4 k) := by decide +kernel
theorem iX4 : ∀ w ∈ wsX40, w ∈ lw_tbl := by decide +kernel
def RX5 : String := "GiftShops$Shop"
def TX5 : u_T := fun k => match k with
  | 0 => ("GiftShops$Shop", "room", "I", false)
  | 1 => ("GiftShops$Shop", "lying", "I", false)
  | 2 => ("GiftShops$Shop", "lost", "I", false)
  | 3 => ("GiftShops$Shop", "sold", "[I", true)
  | _ => ("GiftShops$Shop", "lain", "[I", true)
def tyX5 : Nat → FieldType := fun k => match k with
  | 0 => .int
  | 1 => .int
  | 2 => .int
  | 3 => .array .int
  | _ => .array .int
abbrev wsX50 : List Cond := u_ws RX5 TX5 5
theorem nmX5 : ∀ a, a < 5 → ∀ b, b < 5 → a ≠ b → (TX5 a).2.1 ≠ (TX5 b).2.1 := by decide +kernel
theorem tyX5_ok : ∀ k, k < 5 → parseFieldDescriptor (TX5 k).2.2.1 = some (tyX5 k) := by decide +kernel
theorem iX5 : ∀ w ∈ wsX50, w ∈ lw_tbl := by decide +kernel
def RX6 : String := "GiftShops$Tape"
def TX6 : u_T := fun k => match k with
  | 0 => ("GiftShops$Tape", "signs", "[C", true)
  | _ => ("GiftShops$Tape", "length", "I", false)
def tyX6 : Nat → FieldType := fun k => match k with
  | 0 => .array .char
  | _ => .int
abbrev wsX60 : List Cond := u_ws RX6 TX6 2
theorem nmX6 : ∀ a, a < 2 → ∀ b, b < 2 → a ≠ b → (TX6 a).2.1 ≠ (TX6 b).2.1 := by decide +kernel
theorem tyX6_ok : ∀ k, k < 2 → parseFieldDescriptor (TX6 k).2.2.1 = some (tyX6 k) := by decide +kernel
theorem iX6 : ∀ w ∈ wsX60, w ∈ lw_tbl := by decide +kernel
def RX7 : String := "GiftShops$Thing"
def TX7 : u_T := fun k => match k with
  | 0 => ("GiftShops$Thing", "giver", "I", true)
  | 1 => ("GiftShops$Thing", "kind", "I", true)
  | 2 => ("GiftShops$Thing", "state", "I", true)
  | 3 => ("GiftShops$Thing", "season", "I", true)
  | 4 => ("GiftShops$Thing", "place", "I", false)
  | 5 => ("GiftShops$Thing", "shop", "I", false)
  | 6 => ("GiftShops$Thing", "since", "I", false)
  | 7 => ("GiftShops$Thing", "moves", "I", false)
  | _ => ("GiftShops$Thing", "lastSale", "I", false)
def tyX7 : Nat → FieldType := fun k => match k with
  | 0 => .int
  | 1 => .int
  | 2 => .int
  | 3 => .int
  | 4 => .int
  | 5 => .int
  | 6 => .int
  | 7 => .int
  | _ => .int
abbrev wsX70 : List Cond := u_ws RX7 TX7 9
theorem nmX7 : ∀ a, a < 9 → ∀ b, b < 9 → a ≠ b → (TX7 a).2.1 ≠ (TX7 b).2.1 := by decide +kernel
theorem tyX7_ok : ∀ k, k < 9 → parseFieldDescriptor (TX7 k).2.2.1 = some (tyX7 k) := by decide +kernel
theorem iX7 : ∀ w ∈ wsX70, w ∈ lw_tbl := by decide +kernel
def RX8 : String := "GiftShops$Turns"
def TX8 : u_T := fun k => match k with
  | 0 => ("GiftShops$Turns", "canCome", "[I", true)
  | 1 => ("GiftShops$Turns", "turnsOf", "[I", true)
  | 2 => ("GiftShops$Turns", "helpers", "I", false)
  | 3 => ("GiftShops$Turns", "triedHelpers", "I", false)
  | _ => ("GiftShops$Turns", "triedDays", "I", false)
def tyX8 : Nat → FieldType := fun k => match k with
  | 0 => .array .int
  | 1 => .array .int
  | 2 => .int
  | 3 => .int
  | _ => .int
abbrev wsX80 : List Cond := u_ws RX8 TX8 5
theorem nmX8 : ∀ a, a < 5 → ∀ b, b < 5 → a ≠ b → (TX8 a).2.1 ≠ (TX8 b).2.1 := by decide +kernel
theorem tyX8_ok : ∀ k, k < 5 → parseFieldDescriptor (TX8 k).2.2.1 = some (tyX8 k) := by decide +kernel
theorem iX8 : ∀ w ∈ wsX80, w ∈ lw_tbl := by decide +kernel
def RX9 : String := "GiftShops"
def TX9 : u_T := fun k => match k with
  | 0 => ("GiftShops", "things", "[LGiftShops$Thing;", true)
  | 1 => ("GiftShops", "thingCount", "I", false)
  | 2 => ("GiftShops", "sales", "[LGiftShops$Sale;", true)
  | 3 => ("GiftShops", "saleCount", "I", false)
  | 4 => ("GiftShops", "shops", "[LGiftShops$Shop;", true)
  | 5 => ("GiftShops", "bases", "[I", true)
  | 6 => ("GiftShops", "tape", "LGiftShops$Tape;", true)
  | 7 => ("GiftShops", "parser", "LGiftShops$Parser;", true)
  | 8 => ("GiftShops", "rules", "LGiftShops$Rules;", false)
  | 9 => ("GiftShops", "spareRules", "LGiftShops$Rules;", false)
  | 10 => ("GiftShops", "facts", "[I", true)
  | 11 => ("GiftShops", "doubles", "[I", true)
  | 12 => ("GiftShops", "agreed", "[I", true)
  | 13 => ("GiftShops", "rates", "[I", true)
  | 14 => ("GiftShops", "roads", "LGiftShops$Roads;", true)
  | 15 => ("GiftShops", "turns", "LGiftShops$Turns;", true)
  | 16 => ("GiftShops", "now", "I", false)
  | _ => ("GiftShops", "vanCost", "I", false)
def tyX9 : Nat → FieldType := fun k => match k with
  | 0 => .array (.object "GiftShops$Thing")
  | 1 => .int
  | 2 => .array (.object "GiftShops$Sale")
  | 3 => .int
  | 4 => .array (.object "GiftShops$Shop")
  | 5 => .array .int
  | 6 => .object "GiftShops$Tape"
  | 7 => .object "GiftShops$Parser"
  | 8 => .object "GiftShops$Rules"
  | 9 => .object "GiftShops$Rules"
  | 10 => .array .int
  | 11 => .array .int
  | 12 => .array .int
  | 13 => .array .int
  | 14 => .object "GiftShops$Roads"
  | 15 => .object "GiftShops$Turns"
  | 16 => .int
  | _ => .int
abbrev wsX90 : List Cond := u_ws RX9 TX9 18
theorem nmX9 : ∀ a, a < 18 → ∀ b, b < 18 → a ≠ b → (TX9 a).2.1 ≠ (TX9 b).2.1 := by decide +kernel
theorem tyX9_ok : ∀ k, k < 18 → parseFieldDescriptor (TX9 k).2.2.1 = some (tyX9 k) := by decide +kernel
theorem iX9 : ∀ w ∈ wsX90, w ∈ lw_tbl := by decide +kernel
def RX10 : String := "GiftShopsModel"
def TX10 : u_T := fun k => match k with
  | 0 => ("GiftShopsModel", "thrown", "I", false)
  | 1 => ("GiftShopsModel", "tape", "[I", true)
  | 2 => ("GiftShopsModel", "taped", "I", false)
  | 3 => ("GiftShopsModel", "size", "I", false)
  | 4 => ("GiftShopsModel", "sortOf", "[I", true)
  | 5 => ("GiftShopsModel", "place", "[I", true)
  | 6 => ("GiftShopsModel", "value", "[J", true)
  | 7 => ("GiftShopsModel", "at", "I", false)
  | 8 => ("GiftShopsModel", "fault", "I", false)
  | 9 => ("GiftShopsModel", "words", "[J", true)
  | 10 => ("GiftShopsModel", "lines", "[I", true)
  | 11 => ("GiftShopsModel", "lineWay", "[I", true)
  | 12 => ("GiftShopsModel", "lineAt", "[I", true)
  | 13 => ("GiftShopsModel", "op", "[I", true)
  | 14 => ("GiftShopsModel", "one", "[I", true)
  | 15 => ("GiftShopsModel", "holds", "I", false)
  | 16 => ("GiftShopsModel", "next", "I", false)
  | 17 => ("GiftShopsModel", "codes", "I", false)
  | 18 => ("GiftShopsModel", "deep", "I", false)
  | 19 => ("GiftShopsModel", "sumWaits", "[I", true)
  | 20 => ("GiftShopsModel", "signWaits", "[I", true)
  | 21 => ("GiftShopsModel", "andWaits", "[I", true)
  | 22 => ("GiftShopsModel", "known", "[I", true)
  | 23 => ("GiftShopsModel", "pile", "[I", true)
  | 24 => ("GiftShopsModel", "now", "I", false)
  | 25 => ("GiftShopsModel", "things", "I", false)
  | 26 => ("GiftShopsModel", "giver", "[I", true)
  | 27 => ("GiftShopsModel", "kind", "[I", true)
  | 28 => ("GiftShopsModel", "condition", "[I", true)
  | 29 => ("GiftShopsModel", "season", "[I", true)
  | 30 => ("GiftShopsModel", "state", "[I", true)
  | 31 => ("GiftShopsModel", "shop", "[I", true)
  | 32 => ("GiftShopsModel", "since", "[I", true)
  | 33 => ("GiftShopsModel", "moves", "[I", true)
  | 34 => ("GiftShopsModel", "bases", "[I", true)
  | 35 => ("GiftShopsModel", "rooms", "[I", true)
  | 36 => ("GiftShopsModel", "lay", "[I", true)
  | 37 => ("GiftShopsModel", "doubles", "[I", true)
  | 38 => ("GiftShopsModel", "agrees", "[I", true)
  | 39 => ("GiftShopsModel", "rate", "I", false)
  | 40 => ("GiftShopsModel", "rates", "[I", true)
  | 41 => ("GiftShopsModel", "sales", "I", false)
  | 42 => ("GiftShopsModel", "soldThing", "[I", true)
  | 43 => ("GiftShopsModel", "soldFor", "[I", true)
  | 44 => ("GiftShopsModel", "soldIn", "[I", true)
  | 45 => ("GiftShopsModel", "soldOn", "[I", true)
  | 46 => ("GiftShopsModel", "isVoid", "[Z", true)
  | 47 => ("GiftShopsModel", "cost", "I", false)
  | 48 => ("GiftShopsModel", "ways", "[I", true)
  | 49 => ("GiftShopsModel", "helpers", "I", false)
  | 50 => ("GiftShopsModel", "canCome", "[I", true)
  | 51 => ("GiftShopsModel", "comes", "[Z", true)
  | 52 => ("GiftShopsModel", "isSeen", "[Z", true)
  | _ => ("GiftShopsModel", "bound", "I", false)
def tyX10 : Nat → FieldType := fun k => match k with
  | 0 => .int
  | 1 => .array .int
  | 2 => .int
  | 3 => .int
  | 4 => .array .int
  | 5 => .array .int
  | 6 => .array .long
  | 7 => .int
  | 8 => .int
  | 9 => .array .long
  | 10 => .array .int
  | 11 => .array .int
  | 12 => .array .int
  | 13 => .array .int
  | 14 => .array .int
  | 15 => .int
  | 16 => .int
  | 17 => .int
  | 18 => .int
  | 19 => .array .int
  | 20 => .array .int
  | 21 => .array .int
  | 22 => .array .int
  | 23 => .array .int
  | 24 => .int
  | 25 => .int
  | 26 => .array .int
  | 27 => .array .int
  | 28 => .array .int
  | 29 => .array .int
  | 30 => .array .int
  | 31 => .array .int
  | 32 => .array .int
  | 33 => .array .int
  | 34 => .array .int
  | 35 => .array .int
  | 36 => .array .int
  | 37 => .array .int
  | 38 => .array .int
  | 39 => .int
  | 40 => .array .int
  | 41 => .int
  | 42 => .array .int
  | 43 => .array .int
  | 44 => .array .int
  | 45 => .array .int
  | 46 => .array .boolean
  | 47 => .int
  | 48 => .array .int
  | 49 => .int
  | 50 => .array .int
  | 51 => .array .boolean
  | 52 => .array .boolean
  | _ => .int
abbrev wsX100 : List Cond := u_ws RX10 TX10 54
theorem nmX10 : ∀ a, a < 54 → ∀ b, b < 54 → a ≠ b → (TX10 a).2.1 ≠ (TX10 b).2.1 := by decide +kernel
theorem tyX10_ok : ∀ k, k < 54 → parseFieldDescriptor (TX10 k).2.2.1 = some (tyX10 k) := by decide +kernel
theorem iX10 : ∀ w ∈ wsX100, w ∈ lw_tbl := by decide +kernel
abbrev gcl : List vw_C := [(RX0, TX0, 3), (RX1, TX1, 2), (RX2, TX2, 6), (RX3, TX3, 6), (RX4, TX4, 5), (RX5, TX5, 5), (RX6, TX6, 2), (RX7, TX7, 9), (RX8, TX8, 5), (RX9, TX9, 18), (RX10, TX10, 54)]
end
section
/-! ===== the small machine: frames of the claim's own methods over cells that are named by numbers from 0 on ===== -/
abbrev gC : Type := (FieldType × vp_A) ⊕ (Nat × List Value)
abbrev gH : Type := Nat → gC
abbrev gS : Type := Nat × Nat × gH
abbrev gL : Type := List (Option Value)
abbrev gI : Type := Instr × Nat × List Nat × Value
abbrev gR : Type := MethodName × ByteArray × Nat × Option FieldType × List (Nat × gI)
def gz : gC := .inr (1000000, [])
def gset (h : gH) (k : Nat) (c : gC) : gH := fun j => if j = k then c else h j
def glook : List (Nat × gI) → Nat → Option gI
  | [], _ => none
  | q :: r, pc => bif Nat.beq q.1 pc then some q.2 else glook r pc
def gl : gL → Nat → Option Value
  | [], _ => none
  | v :: _, 0 => v
  | _ :: r, n + 1 => gl r n
def gsl : gL → Nat → Option Value → gL
  | [], _, _ => []
  | _ :: r, 0, v => v :: r
  | a :: r, n + 1, v => a :: gsl r n v
def gwide : Option Value → Bool
  | some (.long _) => true
  | some (.double _) => true
  | _ => false
def gokS (L : gL) : Nat → Bool
  | 0 => true
  | j + 1 => !gwide (gl L j)
def gent : List Value → gL
  | [] => []
  | .long x :: r => some (.long x) :: none :: gent r
  | .double x :: r => some (.double x) :: none :: gent r
  | v :: r => some v :: gent r
def gpad : gL → Nat → gL
  | _, 0 => []
  | [], n + 1 => none :: gpad [] n
  | a :: r, n + 1 => a :: gpad r n
def gax : List Nat → Nat → Nat
  | [], _ => 0
  | a :: _, 0 => a
  | _ :: r, n + 1 => gax r n
def gbr (c : Jvm.ClassFile.Cond) (x y : Int32) (t f : Nat) : Nat := match c with
  | .eq => if x = y then t else f
  | .ne => if ¬ x = y then t else f
  | .lt => if x < y then t else f
  | .ge => if y ≤ x then t else f
  | .gt => if y < x then t else f
  | .le => if x ≤ y then t else f
def gfit : FieldType → Value → Bool
  | .int, .int _ => true
  | .long, .long _ => true
  | .boolean, .int x => x == 0 || x == 1
  | .object _, .ref _ => true
  | .object _, .null => true
  | .array _, .ref _ => true
  | .array _, .null => true
  | _, _ => false
def gty : Nat → Nat → FieldType
  | 0 => tyX0 | 1 => tyX1 | 2 => tyX2 | 3 => tyX3 | 4 => tyX4 | 5 => tyX5 | 6 => tyX6 | 7 => tyX7 | 8 => tyX8 | 9 => tyX9 | 10 => tyX10 | _ => fun _ => .int
def gdv (ci N : Nat) : List Value := (List.range N).map (fun j => defaultValue (gty ci j))
def gsw (x lo hi : Int) (ax : List Nat) : Nat := if x < lo ∨ hi < x then gax ax 0 else gax ax ((x - lo).toNat + 1)
abbrev gO : Type := Option (Nat × gL × List Value × gS)
def gpush (len : Nat) (w : Value) (pc : Nat) (L : gL) (st : List Value) (S : gS) : gO := some (pc + len, L, w :: st, S)
def gii (f : Int32 → Int32 → Int32) (pc : Nat) (L : gL) (st : List Value) (S : gS) : gO := match st with
  | .int y :: .int x :: r => some (pc + 1, L, .int (f x y) :: r, S)
  | _ => none
def gll (f : Int64 → Int64 → Int64) (pc : Nat) (L : gL) (st : List Value) (S : gS) : gO := match st with
  | .long y :: .long x :: r => some (pc + 1, L, .long (f x y) :: r, S)
  | _ => none
def gli (f : Int64 → Int32 → Int64) (pc : Nat) (L : gL) (st : List Value) (S : gS) : gO := match st with
  | .int y :: .long x :: r => some (pc + 1, L, .long (f x y) :: r, S)
  | _ => none
def giload (len i pc : Nat) (L : gL) (st : List Value) (S : gS) : gO := match gl L i with
  | some (.int x) => some (pc + len, L, .int x :: st, S)
  | _ => none
def glload (len i pc : Nat) (L : gL) (st : List Value) (S : gS) : gO := match gl L i with
  | some (.long x) => some (pc + len, L, .long x :: st, S)
  | _ => none
def galoadL (len i pc : Nat) (L : gL) (st : List Value) (S : gS) : gO := match gl L i with
  | some (.ref x) => some (pc + len, L, .ref x :: st, S)
  | _ => none
def gistore (len i pc : Nat) (L : gL) (st : List Value) (S : gS) : gO := match st with
  | .int x :: r => bif gokS L i && Nat.blt i L.length then some (pc + len, gsl L i (some (.int x)), r, S) else none
  | _ => none
def gastoreL (len i pc : Nat) (L : gL) (st : List Value) (S : gS) : gO := match st with
  | .ref x :: r => bif gokS L i && Nat.blt i L.length then some (pc + len, gsl L i (some (.ref x)), r, S) else none
  | _ => none
def glstore (len i pc : Nat) (L : gL) (st : List Value) (S : gS) : gO := match st with
  | .long x :: r => bif gokS L i && Nat.blt (i + 1) L.length then some (pc + len, gsl (gsl L i (some (.long x))) (i + 1) none, r, S) else none
  | _ => none
def giinc (len i : Nat) (w : Value) (pc : Nat) (L : gL) (st : List Value) (S : gS) : gO := match gl L i, w with
  | some (.int x), .int n => bif gokS L i && Nat.blt i L.length then some (pc + len, gsl L i (some (.int (x + n))), st, S) else none
  | _, _ => none
def gout (i : Int32) (n : Nat) : Prop := i < 0 ∨ n ≤ i.toNatClampNeg
def gget (ci sl pc : Nat) (L : gL) (st : List Value) (S : gS) : gO := match st with
  | .ref a :: r => match S.2.2 a with
    | .inr (c, fs) => bif Nat.beq c ci then (match fs[sl]? with | some v => some (pc + 3, L, v :: r, S) | none => none) else none
    | _ => none
  | _ => none
def gput (ci sl pc : Nat) (L : gL) (st : List Value) (S : gS) : gO := match st with
  | v :: .ref a :: r => match S.2.2 a with
    | .inr (c, fs) => bif Nat.beq c ci && Nat.blt sl fs.length && gfit (gty ci sl) v then some (pc + 3, L, r, (S.1, S.2.1, gset S.2.2 a (.inr (c, fs.set sl v)))) else none
    | _ => none
  | _ => none
def gnew (ci pc : Nat) (L : gL) (st : List Value) (S : gS) : gO := match gcl[ci]? with
  | some r => if S.1 < 1000000 then some (pc + 3, L, .ref S.1 :: st, (S.1 + 1, S.2.1 + r.2.2, gset S.2.2 S.1 (.inr (ci, gdv ci r.2.2)))) else none
  | none => none
def gnewa (at_ : ArrayType) (pc : Nat) (L : gL) (st : List Value) (S : gS) : gO := match st with
  | .int n :: r => if n < 0 ∨ 1000000 < n.toNatClampNeg ∨ 1000000 ≤ S.1 then none else match at_ with
    | .int => some (pc + 2, L, .ref S.1 :: r, (S.1 + 1, S.2.1 + n.toNatClampNeg, gset S.2.2 S.1 (.inl (.int, n.toNatClampNeg, .inl (fun _ => 0)))))
    | .char => some (pc + 2, L, .ref S.1 :: r, (S.1 + 1, S.2.1 + n.toNatClampNeg, gset S.2.2 S.1 (.inl (.char, n.toNatClampNeg, .inl (fun _ => 0)))))
    | .boolean => some (pc + 2, L, .ref S.1 :: r, (S.1 + 1, S.2.1 + n.toNatClampNeg, gset S.2.2 S.1 (.inl (.boolean, n.toNatClampNeg, .inl (fun _ => 0)))))
    | .long => some (pc + 2, L, .ref S.1 :: r, (S.1 + 1, S.2.1 + n.toNatClampNeg, gset S.2.2 S.1 (.inl (.long, n.toNatClampNeg, .inr (.inl (fun _ => 0))))))
    | _ => none
  | _ => none
def gnewq (ci pc : Nat) (L : gL) (st : List Value) (S : gS) : gO := match st with
  | .int n :: r => if n < 0 ∨ 1000000 < n.toNatClampNeg ∨ 1000000 ≤ S.1 then none else match gcl[ci]? with
    | some q => some (pc + 3, L, .ref S.1 :: r, (S.1 + 1, S.2.1 + n.toNatClampNeg, gset S.2.2 S.1 (.inl (.object q.1, n.toNatClampNeg, .inr (.inr (.inr (.inr (fun _ => none))))))))
    | none => none
  | _ => none
def giald (ty : FieldType) (pc : Nat) (L : gL) (st : List Value) (S : gS) : gO := match st with
  | .int i :: .ref a :: r => match S.2.2 a with
    | .inl (t, n, .inl f) => if t = ty ∧ ¬ (i < 0 ∨ n ≤ i.toNatClampNeg) then some (pc + 1, L, .int (f i.toNatClampNeg) :: r, S) else none
    | _ => none
  | _ => none
def gbald (pc : Nat) (L : gL) (st : List Value) (S : gS) : gO := match st with
  | .int i :: .ref a :: r => match S.2.2 a with
    | .inl (t, n, .inl f) => if (t = .boolean ∨ t = .byte) ∧ ¬ (i < 0 ∨ n ≤ i.toNatClampNeg) then some (pc + 1, L, .int (f i.toNatClampNeg) :: r, S) else none
    | _ => none
  | _ => none
def glald (pc : Nat) (L : gL) (st : List Value) (S : gS) : gO := match st with
  | .int i :: .ref a :: r => match S.2.2 a with
    | .inl (t, n, .inr (.inl f)) => if t = .long ∧ ¬ (i < 0 ∨ n ≤ i.toNatClampNeg) then some (pc + 1, L, .long (f i.toNatClampNeg) :: r, S) else none
    | _ => none
  | _ => none
def gaald (pc : Nat) (L : gL) (st : List Value) (S : gS) : gO := match st with
  | .int i :: .ref a :: r => match S.2.2 a with
    | .inl (.object _, n, .inr (.inr (.inr (.inr f)))) => if ¬ (i < 0 ∨ n ≤ i.toNatClampNeg) then some (pc + 1, L, va_rf (f i.toNatClampNeg) :: r, S) else none
    | _ => none
  | _ => none
def giast (ty : FieldType) (ok : Int32 → Prop) [DecidablePred ok] (pc : Nat) (L : gL) (st : List Value) (S : gS) : gO := match st with
  | .int x :: .int i :: .ref a :: r => match S.2.2 a with
    | .inl (t, n, .inl f) => if t = ty ∧ ¬ (i < 0 ∨ n ≤ i.toNatClampNeg) ∧ ok x ∧ a < 1000000000 then some (pc + 1, L, r, (S.1, S.2.1, gset S.2.2 a (.inl (t, n, .inl (upd f i.toNatClampNeg x))))) else none
    | _ => none
  | _ => none
def glast (pc : Nat) (L : gL) (st : List Value) (S : gS) : gO := match st with
  | .long x :: .int i :: .ref a :: r => match S.2.2 a with
    | .inl (t, n, .inr (.inl f)) => if t = .long ∧ ¬ (i < 0 ∨ n ≤ i.toNatClampNeg) ∧ a < 1000000000 then some (pc + 1, L, r, (S.1, S.2.1, gset S.2.2 a (.inl (t, n, .inr (.inl (vp_updL f i.toNatClampNeg x)))))) else none
    | _ => none
  | _ => none
def gaast (pc : Nat) (L : gL) (st : List Value) (S : gS) : gO := match st with
  | .ref v :: .int i :: .ref a :: r => match S.2.2 a with
    | .inl (.object C, n, .inr (.inr (.inr (.inr f)))) => match S.2.2 v with
      | .inr (ci, _) => if (gcl[ci]?.map (fun q => q.1)) = some C ∧ ¬ (i < 0 ∨ n ≤ i.toNatClampNeg) ∧ a < 1000000000 then some (pc + 1, L, r, (S.1, S.2.1, gset S.2.2 a (.inl (.object C, n, .inr (.inr (.inr (.inr (va_up f i.toNatClampNeg (some v))))))))) else none
      | _ => none
    | _ => none
  | _ => none
def galen (pc : Nat) (L : gL) (st : List Value) (S : gS) : gO := match st with
  | .ref a :: r => match S.2.2 a with
    | .inl (_, n, _) => some (pc + 1, L, .int (Int32.ofNat n) :: r, S)
    | _ => none
  | _ => none
/-- one instruction that is no call and no return -/
def gstep (i : Instr) (len : Nat) (ax : List Nat) (w : Value) (pc : Nat) (L : gL) (st : List Value) (S : gS) : gO := match i with
  | .iconst _ => gpush 1 w pc L st S
  | .lconst _ => gpush 1 w pc L st S
  | .bipush _ => gpush 2 w pc L st S
  | .sipush _ => gpush 3 w pc L st S
  | .ldc _ => match ax with | [] => none | _ => gpush 2 w pc L st S
  | .ldc_w _ => match ax with | [] => none | _ => gpush 3 w pc L st S
  | .ldc2_w _ => match ax with | [] => none | _ => gpush 3 w pc L st S
  | .iload_n _ => giload 1 (gax ax 0) pc L st S
  | .iload _ => giload 2 (gax ax 0) pc L st S
  | .lload_n _ => glload 1 (gax ax 0) pc L st S
  | .lload _ => glload 2 (gax ax 0) pc L st S
  | .aload_n _ => galoadL 1 (gax ax 0) pc L st S
  | .aload _ => galoadL 2 (gax ax 0) pc L st S
  | .istore_n _ => gistore 1 (gax ax 0) pc L st S
  | .istore _ => gistore 2 (gax ax 0) pc L st S
  | .lstore_n _ => glstore 1 (gax ax 0) pc L st S
  | .lstore _ => glstore 2 (gax ax 0) pc L st S
  | .astore_n _ => gastoreL 1 (gax ax 0) pc L st S
  | .astore _ => gastoreL 2 (gax ax 0) pc L st S
  | .iinc _ _ => giinc 3 (gax ax 0) w pc L st S
  | .iadd => gii HAdd.hAdd pc L st S
  | .isub => gii HSub.hSub pc L st S
  | .imul => gii HMul.hMul pc L st S
  | .iand => gii HAnd.hAnd pc L st S
  | .ior => gii HOr.hOr pc L st S
  | .ixor => gii HXor.hXor pc L st S
  | .ishl => gii (fun x y => x <<< (y &&& 31)) pc L st S
  | .ishr => gii (fun x y => x >>> (y &&& 31)) pc L st S
  | .iushr => gii (fun x y => (x.toUInt32 >>> (y.toUInt32 &&& Int32.toUInt32 31)).toInt32) pc L st S
  | .idiv => match st with
    | .int y :: .int x :: r => if y = 0 then none else some (pc + 1, L, .int (x / y) :: r, S)
    | _ => none
  | .irem => match st with
    | .int y :: .int x :: r => if y = 0 then none else some (pc + 1, L, .int (x - x / y * y) :: r, S)
    | _ => none
  | .ladd => gll HAdd.hAdd pc L st S
  | .lsub => gll HSub.hSub pc L st S
  | .lmul => gll HMul.hMul pc L st S
  | .land => gll HAnd.hAnd pc L st S
  | .lor => gll HOr.hOr pc L st S
  | .ldiv => match st with
    | .long y :: .long x :: r => if y = 0 then none else some (pc + 1, L, .long (x / y) :: r, S)
    | _ => none
  | .lshl => gli (fun x y => x <<< (y.toInt64 &&& 63)) pc L st S
  | .lshr => gli (fun x y => x >>> (y.toInt64 &&& 63)) pc L st S
  | .lushr => gli (fun x y => (x.toUInt64 >>> (y.toInt64.toUInt64 &&& Int64.toUInt64 63)).toInt64) pc L st S
  | .lcmp => match st with
    | .long y :: .long x :: r => some (pc + 1, L, .int (lg_cmp x y) :: r, S)
    | _ => none
  | .i2l => match st with
    | .int x :: r => some (pc + 1, L, .long x.toInt64 :: r, S)
    | _ => none
  | .l2i => match st with
    | .long x :: r => some (pc + 1, L, .int x.toInt32 :: r, S)
    | _ => none
  | .i2c => match st with
    | .int x :: r => some (pc + 1, L, .int (x.toUInt32 % 65536).toInt32 :: r, S)
    | _ => none
  | .dup => match st with
    | .int x :: r => some (pc + 1, L, .int x :: .int x :: r, S)
    | .ref x :: r => some (pc + 1, L, .ref x :: .ref x :: r, S)
    | _ => none
  | .dup2 => match st with
    | .int x :: .ref y :: r => some (pc + 1, L, .int x :: .ref y :: .int x :: .ref y :: r, S)
    | _ => none
  | .ifCond c _ => match st with
    | .int x :: r => some (gbr c x 0 (gax ax 0) (pc + 3), L, r, S)
    | _ => none
  | .if_icmp c _ => match st with
    | .int y :: .int x :: r => some (gbr c x y (gax ax 0) (pc + 3), L, r, S)
    | _ => none
  | .goto _ => some (gax ax 0, L, st, S)
  | .tableswitch _ lo hi _ => match st with
    | .int x :: r => some (gsw x.toInt lo hi ax, L, r, S)
    | _ => none
  | .getfield _ => match ax with
    | [ci, sl, _, _] => gget ci sl pc L st S
    | _ => none
  | .putfield _ => match ax with
    | [ci, sl, _, _] => gput ci sl pc L st S
    | _ => none
  | .new _ => match ax with
    | [ci, _] => gnew ci pc L st S
    | _ => none
  | .newarray t => gnewa t pc L st S
  | .anewarray _ => match ax with
    | [ci, _] => gnewq ci pc L st S
    | _ => none
  | .iaload => giald .int pc L st S
  | .caload => giald .char pc L st S
  | .baload => gbald pc L st S
  | .laload => glald pc L st S
  | .aaload => gaald pc L st S
  | .iastore => giast .int (fun _ => True) pc L st S
  | .castore => giast .char (fun x => vp_nar .char x = x) pc L st S
  | .bastore => giast .boolean (fun x => x = 0 ∨ x = 1) pc L st S
  | .lastore => glast pc L st S
  | .aastore => gaast pc L st S
  | .arraylength => galen pc L st S
  | _ => none
def grok : Option FieldType → Int32 → Prop
  | some .int, _ => True
  | some .boolean, x => x = 0 ∨ x = 1
  | some .char, x => vp_nar .char x = x
  | _, _ => False
/-- the receiver of a virtual call is of the class that declares the method -/
def grcv (S : gS) (C : String) : List Value → Prop
  | .ref a :: _ => match S.2.2 a with
    | .inr (ci, _) => (gcl[ci]?.map (fun q => q.1)) = some C
    | _ => False
  | _ => False
def gkind (i : Instr) (S : gS) (C : String) (as : List Value) : Prop := match i with
  | .invokevirtual _ => grcv S C as
  | .invokespecial _ => ∃ a r, as = .ref a :: r
  | .invokestatic _ => True
  | _ => False
abbrev gB : Type := Nat → List Value → gS → Option Value → gS → Prop
def gcat (st : List Value) : Nat := (st.map (fun v => v.category)).sum
def gcls : Instr → Nat
  | .return_ => 1
  | .ireturn => 2
  | .invokevirtual _ => 3
  | .invokespecial _ => 3
  | .invokestatic _ => 3
  | _ => 0
def gcallP (MT : List gR) (BI : gB) (i : Instr) (ax : List Nat) (d : Nat) (st : List Value) (S : gS) (ce : Nat → gL → Option Value → gS → Prop) (go : List Value → gS → Prop) : Prop := match ax with
  | j :: na :: _ => na ≤ st.length ∧ gcat (st.drop na) ≤ 8 ∧ ∃ (v1 : Option Value) (S1 : gS),
      (if 1000 ≤ j then 10 ≤ d ∧ BI j (st.take na).reverse S v1 S1 else 1 ≤ d ∧ ∃ cr, MT[j]? = some cr ∧ (gent (st.take na).reverse).length ≤ cr.2.2.1 ∧ gkind i S cr.1.cls (st.take na).reverse ∧ ce j (gpad (gent (st.take na).reverse) cr.2.2.1) v1 S1) ∧
      go (v1.toList ++ st.drop na) S1
  | _ => False
/-- from this frame the method comes to its end: with this answer, in that state -/
def gER (MT : List gR) (BI : gB) : Nat → Nat → Nat → Nat → gL → List Value → gS → Option Value → gS → Prop
  | 0, _, _, _, _, _, _, _, _ => False
  | f + 1, d, k, pc, L, st, S, v, S' => match MT[k]? with
    | none => False
    | some row => match glook row.2.2.2.2 pc with
      | none => False
      | some q => match gcls q.1 with
        | 1 => st = [] ∧ v = none ∧ S' = S ∧ row.2.2.2.1 = none
        | 2 => ∃ x, st = [.int x] ∧ v = some (.int x) ∧ S' = S ∧ grok row.2.2.2.1 x
        | 3 => gcallP MT BI q.1 q.2.2.1 d st S (fun j L0 v1 S1 => gER MT BI f (d - 1) j 0 L0 [] S v1 S1) (fun st1 S1 => gER MT BI f d k (pc + 3) L st1 S1 v S')
        | _ => match gstep q.1 q.2.1 q.2.2.1 q.2.2.2 pc L st S with
          | none => False
          | some o => gER MT BI f d k o.1 o.2.1 o.2.2.1 o.2.2.2 v S'
end
section
/-! ===== how the small machine's state stands in the JVM's: cell k lies at B + k; what lies outside (the script, two texts) at ex k ===== -/
def gal (B : Nat) (ex : Nat → Nat) (k : Nat) : Nat := if k < 1000000000 then B + k else ex k
def gcv (B : Nat) (ex : Nat → Nat) : Value → Value
  | .ref k => .ref (gal B ex k)
  | v => v
def gcvA (B : Nat) (ex : Nat → Nat) (a : vp_A) : vp_A := match a with
  | (n, .inr (.inr (.inr (.inr f)))) => (n, .inr (.inr (.inr (.inr (fun j => (f j).map (gal B ex))))))
  | (n, x) => (n, x)
def gat (D : va_G) (U : State) (B : Nat) (ex : Nat → Nat) (H : Heap) (k : Nat) (c : gC) : Prop := match c with
  | .inl (ty, a) => ∃ cA : ClassId, ArrOfT U cA ty ∧ va_RA U cA ty ∧ H[B + k]? = some (vp_cell cA (gcvA B ex a))
  | .inr (ci, fs) => ∃ r : vw_C, gcl[ci]? = some r ∧ fs.length = r.2.2 ∧ t_OB (B + k) (D.1 ci) r.2.2 (D.2 ci) H (vp_V (fs.map (gcv B ex)))
def gext (U : State) (ex : Nat → Nat) (H0 : Heap) (k : Nat) (c : gC) : Prop := match c with
  | .inl (ty, n, .inl f) => ∃ cell : Cell, H0[ex k]? = some cell ∧ U.isArrayOf cell ty ∧ cell.vm ≠ .unknown ∧ cell.slots.size = n ∧ ∀ j : Nat, j < n → cell.slots[j]? = some (.int (f j))
  | _ => False
def gRH (D : va_G) (U : State) (B : Nat) (ex : Nat → Nat) (H0 : Heap) (S : gS) (H : Heap) : Prop :=
  H.size = B + S.1 ∧ S.1 ≤ 1000000 ∧ H0.size = B ∧ (∀ q : Nat, q < B → H[q]? = H0[q]?) ∧ (∀ k, k < 1000000000 → S.2.2 k ≠ gz → k < S.1 ∧ gat D U B ex H k (S.2.2 k)) ∧ (∀ k, 1000000000 ≤ k → S.2.2 k ≠ gz → gext U ex H0 k (S.2.2 k))
def gLR (B : Nat) (ex : Nat → Nat) (ls : Array Slot) (nL : Nat) (L : gL) : Prop := ls.size = nL ∧ L.length = nL ∧ lv_wf ls ∧ ∀ (i : Nat) (v : Value), gl L i = some v → ls[i]? = some (.val (gcv B ex v))
def gnest : Cond → Bool
  | .fieldLinkNest _ _ _ _ _ _ => true
  | .methodLinkNest _ _ _ _ => true
  | _ => false
def gNW : List Cond := lw_tbl.filter gnest
def gGW : List Cond := lw_tbl.filter goodWord
def gAO : List String := [RX7, RX3, RX5]
def gtxt1 : String := "shelf   store   rag     look    when    and     kind    state   season  now     base    giver   "
def gtxt2 : String := "()<=+-;"
def gKN (D : va_G) (ex : Nat → Nat) (U : State) : Prop := va_K D gcl [] U ∧ (∀ w ∈ gNW, va_Nw w U) ∧ (∀ C ∈ gAO, va_AO C U) ∧ vk_R RX4 64 gtxt1 (ex 2000000001) U ∧ vk_R RX4 52 gtxt2 (ex 2000000002) U
theorem gNW_warm {w : Cond} (hw : gnest w = true) {s U : State} (hW : s.WarmedH U.vm) (h : va_Nw w s) : va_Nw w U := by
  cases w <;> first | exact va_Nw.warmF hW h | exact va_Nw.warmM hW h | (simp [gnest] at hw)
theorem gKN_warm {D : va_G} {ex : Nat → Nat} {s U : State} (hW : s.WarmedH U.vm) (h : gKN D ex s) : gKN D ex U :=
  ⟨va_K.moved hW.alike h.1, fun w hw => gNW_warm (List.mem_filter.mp hw).2 hW (h.2.1 w hw), fun C hC => va_AO.moved hW.alike (h.2.2.1 C hC), vk_R.warm hW h.2.2.2.1, vk_R.warm hW h.2.2.2.2⟩
theorem gat_moved {D : va_G} {u U : State} {B : Nat} {ex : Nat → Nat} {H : Heap} {k : Nat} {c : gC} (hvm : u.vm.Alike U.vm) (h : gat D u B ex H k c) : gat D U B ex H k c := by
  rcases c with ⟨ty, a⟩ | ⟨ci, fs⟩
  · obtain ⟨cA, h1, h2, h3⟩ := h
    exact ⟨cA, arrOfT_moved hvm h1, h2.moved hvm, h3⟩
  · exact h
theorem gext_moved {u U : State} {ex : Nat → Nat} {H : Heap} {k : Nat} {c : gC} (hvm : u.vm.Alike U.vm) (h : gext u ex H k c) : gext U ex H k c := by
  rcases c with ⟨ty, n, f | f⟩ | ⟨ci, fs⟩
  · obtain ⟨cell, h1, h2, h3⟩ := h
    exact ⟨cell, h1, State.isArrayOf_alike hvm h2, h3⟩
  · exact h.elim
  · exact h.elim
theorem gRH_moved {D : va_G} {u U : State} {B : Nat} {ex : Nat → Nat} {H0 H : Heap} {S : gS} (hvm : u.vm.Alike U.vm) (h : gRH D u B ex H0 S H) : gRH D U B ex H0 S H :=
  ⟨h.1, h.2.1, h.2.2.1, h.2.2.2.1, fun k hk hz => ⟨(h.2.2.2.2.1 k hk hz).1, gat_moved hvm (h.2.2.2.2.1 k hk hz).2⟩, fun k hk hz => gext_moved hvm (h.2.2.2.2.2 k hk hz)⟩
theorem gcv_cat (B : Nat) (ex : Nat → Nat) (v : Value) : (gcv B ex v).category = v.category := by cases v <;> rfl
theorem gat_kept {D : va_G} {U : State} {B : Nat} {ex : Nat → Nat} {H H1 : Heap} {k : Nat} {c : gC} (h : gat D U B ex H k c) (hq : H1[B + k]? = H[B + k]?) : gat D U B ex H1 k c := by
  rcases c with ⟨ty, a⟩ | ⟨ci, fs⟩
  · obtain ⟨cA, h1, h2, h3⟩ := h
    exact ⟨cA, h1, h2, hq.trans h3⟩
  · obtain ⟨r, h1, h2, h3⟩ := h
    exact ⟨r, h1, h2, h3.kept hq⟩
/-- a cell k of the world is changed -/
theorem gRH_set {D : va_G} {U : State} {B : Nat} {ex : Nat → Nat} {H0 H H1 : Heap} {S : gS} {k : Nat} {c : gC} (h : gRH D U B ex H0 S H) (hk : k < 1000000000) (hz : S.2.2 k ≠ gz) (hc : gat D U B ex H1 k c) (z : H1.size = H.size) (oq : ∀ q : Nat, q ≠ B + k → H1[q]? = H[q]?) : gRH D U B ex H0 (S.1, S.2.1, gset S.2.2 k c) H1 := by
  obtain ⟨h1, h2, h3, h4, h5, h6⟩ := h
  refine ⟨by rw [z]; exact h1, h2, h3, fun q hq => ?_, fun j hj hjz => ?_, fun j hj hjz => ?_⟩
  · rw [oq q (by omega)]
    exact h4 q hq
  · by_cases e : j = k
    · subst e
      refine ⟨(h5 j hj hz).1, ?_⟩
      simp only [gset, if_true]
      exact hc
    · have e2 : gset S.2.2 k c j = S.2.2 j := by simp [gset, e]
      dsimp only at hjz ⊢
      rw [e2] at hjz ⊢
      exact ⟨(h5 j hj hjz).1, gat_kept (h5 j hj hjz).2 (oq (B + j) (by omega))⟩
  · have e2 : gset S.2.2 k c j = S.2.2 j := by
      have : j ≠ k := by omega
      simp [gset, this]
    dsimp only at hjz ⊢
    rw [e2] at hjz ⊢
    exact h6 j hj hjz
/-- a cell more -/
theorem gRH_push {D : va_G} {U : State} {B : Nat} {ex : Nat → Nat} {H0 H H1 : Heap} {S : gS} {c : gC} (n : Nat) (h : gRH D U B ex H0 S H) (hn : S.1 < 1000000) (hc : gat D U B ex H1 S.1 c) (z : H1.size = H.size + 1) (oq : ∀ q : Nat, q < H.size → H1[q]? = H[q]?) : gRH D U B ex H0 (S.1 + 1, n, gset S.2.2 S.1 c) H1 := by
  obtain ⟨h1, h2, h3, h4, h5, h6⟩ := h
  refine ⟨by rw [z, h1]; rfl, by dsimp only; omega, h3, fun q hq => ?_, fun j hj hjz => ?_, fun j hj hjz => ?_⟩
  · rw [oq q (by omega)]
    exact h4 q hq
  · by_cases e : j = S.1
    · subst e
      refine ⟨by dsimp only; omega, ?_⟩
      simp only [gset, if_true]
      exact hc
    · have e2 : gset S.2.2 S.1 c j = S.2.2 j := by simp [gset, e]
      dsimp only at hjz ⊢
      rw [e2] at hjz ⊢
      have := (h5 j hj hjz).1
      exact ⟨by omega, gat_kept (h5 j hj hjz).2 (oq (B + j) (by omega))⟩
  · have e2 : gset S.2.2 S.1 c j = S.2.2 j := by
      have : j ≠ S.1 := by omega
      simp [gset, this]
    dsimp only at hjz ⊢
    rw [e2] at hjz ⊢
    exact h6 j hj hjz
/-! locals -/
def gpl (B : Nat) (ex : Nat → Nat) : Nat → gL → List (Nat × Value)
  | _, [] => []
  | i, none :: r => gpl B ex (i + 1) r
  | i, some v :: r => (i, gcv B ex v) :: gpl B ex (i + 1) r
theorem mem_gpl {B : Nat} {ex : Nat → Nat} : ∀ (L : gL) (i j : Nat) (u : Value), (j, u) ∈ gpl B ex i L ↔ ∃ t v, j = i + t ∧ gl L t = some v ∧ u = gcv B ex v := by
  intro L
  induction L with
  | nil => intro i j u; simp [gpl, gl]
  | cons a r ih =>
    intro i j u
    cases a with
    | none =>
      simp only [gpl, ih]
      constructor
      · rintro ⟨t, v, h1, h2, h3⟩
        exact ⟨t + 1, v, by omega, h2, h3⟩
      · rintro ⟨t, v, h1, h2, h3⟩
        cases t with
        | zero => simp [gl] at h2
        | succ t => exact ⟨t, v, by omega, h2, h3⟩
    | some w =>
      simp only [gpl, List.mem_cons, ih]
      constructor
      · rintro (h | ⟨t, v, h1, h2, h3⟩)
        · cases h
          exact ⟨0, w, rfl, rfl, rfl⟩
        · exact ⟨t + 1, v, by omega, h2, h3⟩
      · rintro ⟨t, v, h1, h2, h3⟩
        cases t with
        | zero =>
          simp only [gl] at h2
          cases h2
          left
          rw [h1, h3]; rfl
        | succ t => exact Or.inr ⟨t, v, by omega, h2, h3⟩
theorem gLR_has {B : Nat} {ex : Nat → Nat} {ls : Array Slot} {nL : Nat} {L : gL} (h : gLR B ex ls nL L) : lv_has ls nL (gpl B ex 0 L) := by
  refine ⟨h.1, h.2.2.1, fun q hq => ?_⟩
  obtain ⟨j, u⟩ := q
  obtain ⟨t, v, h1, h2, h3⟩ := (mem_gpl L 0 j u).mp hq
  have e : j = t := by omega
  subst e
  dsimp only
  rw [h3]
  exact h.2.2.2 j v h2
theorem gsl_len (L : gL) : ∀ (i : Nat) (v : Option Value), (gsl L i v).length = L.length := by
  induction L with
  | nil => intro i v; rfl
  | cons a r ih =>
    intro i v
    cases i with
    | zero => rfl
    | succ i => simp [gsl, ih]
theorem gl_gsl (L : gL) : ∀ (i j : Nat) (v : Option Value), i < L.length → gl (gsl L i v) j = if j = i then v else gl L j := by
  induction L with
  | nil => intro i j v h; simp at h
  | cons a r ih =>
    intro i j v h
    cases i with
    | zero =>
      cases j with
      | zero => simp [gsl, gl]
      | succ j => simp [gsl, gl]
    | succ i =>
      cases j with
      | zero => simp [gsl, gl]
      | succ j =>
        have := ih i j v (by simpa using h)
        simp only [gsl, gl, this]
        by_cases e : j = i
        · simp [e]
        · simp [e]
theorem gwide_cat {v : Value} (h : gwide (some v) = false) : v.category = 1 := by cases v <;> first | rfl | (simp [gwide] at h)
theorem gokS_prev {L : gL} {i j : Nat} {v : Value} (h : gokS L i = true) (hj : j + 1 = i) (hv : gl L j = some v) : v.category = 1 := by
  subst hj
  simp only [gokS, hv] at h
  exact gwide_cat (by simpa using h)
theorem gLR_store1 {B : Nat} {ex : Nat → Nat} {ls ls' : Array Slot} {nL : Nat} {L : gL} {i : Nat} {v : Value} (h : gLR B ex ls nL L) (hi : i < L.length) (hok : gokS L i = true)
    (hl : lv_has ls' nL ((i, gcv B ex v) :: (gpl B ex 0 L).filter (fun q => !(q.1 == i) && !(q.1 + 1 == i && q.2.category == 2)))) : gLR B ex ls' nL (gsl L i (some v)) := by
  refine ⟨hl.1, by rw [gsl_len]; exact h.2.1, hl.2.1, fun j u hj => ?_⟩
  rw [gl_gsl L i j _ hi] at hj
  by_cases e : j = i
  · subst e
    simp only [if_true] at hj
    cases hj
    exact hl.2.2 (j, _) List.mem_cons_self
  · simp only [e, if_false] at hj
    refine hl.2.2 (j, gcv B ex u) (List.mem_cons_of_mem _ (List.mem_filter.mpr ⟨(mem_gpl L 0 j _).mpr ⟨j, u, by omega, hj, rfl⟩, ?_⟩))
    by_cases e2 : j + 1 = i
    · have := gokS_prev hok e2 hj
      simp [e, gcv_cat, this]
    · simp [e, e2]
theorem gLR_store2 {B : Nat} {ex : Nat → Nat} {ls ls' : Array Slot} {nL : Nat} {L : gL} {i : Nat} {v : Value} (h : gLR B ex ls nL L) (hi : i + 1 < L.length) (hok : gokS L i = true)
    (hl : lv_has ls' nL ((i, gcv B ex v) :: (gpl B ex 0 L).filter (fun q => !(q.1 == i) && (!(q.1 == i + 1) && !(q.1 + 1 == i && q.2.category == 2))))) : gLR B ex ls' nL (gsl (gsl L i (some v)) (i + 1) none) := by
  refine ⟨hl.1, by rw [gsl_len, gsl_len]; exact h.2.1, hl.2.1, fun j u hj => ?_⟩
  rw [gl_gsl _ (i + 1) j _ (by rw [gsl_len]; exact hi)] at hj
  by_cases e1 : j = i + 1
  · simp [e1] at hj
  · simp only [e1, if_false] at hj
    rw [gl_gsl L i j _ (by omega)] at hj
    by_cases e : j = i
    · subst e
      simp only [if_true] at hj
      cases hj
      exact hl.2.2 (j, _) List.mem_cons_self
    · simp only [e, if_false] at hj
      refine hl.2.2 (j, gcv B ex u) (List.mem_cons_of_mem _ (List.mem_filter.mpr ⟨(mem_gpl L 0 j _).mpr ⟨j, u, by omega, hj, rfl⟩, ?_⟩))
      by_cases e2 : j + 1 = i
      · have := gokS_prev hok e2 hj
        simp [e, e1, gcv_cat, this]
      · simp [e, e1, e2]
end
section
/-! ===== what is checked of a decoded row: its words among the tables', its places, its targets ===== -/
def gtb (ps : Nat) (w : Cond) : Bool := decide (tables_1[ps]? = some w)
theorem gtb_mem {ps : Nat} {w : Cond} (h : gtb ps w = true) : w ∈ lw_tbl := by
  have h1 : tables_1[ps]? = some w := of_decide_eq_true h
  exact List.mem_append_right _ (List.mem_of_getElem? h1)
theorem gtb_good {ps : Nat} {w : Cond} (h : gtb ps w = true) (hg : goodWord w = true) : w ∈ gGW := List.mem_filter.mpr ⟨gtb_mem h, hg⟩
theorem gtb_nest {ps : Nat} {w : Cond} (h : gtb ps w = true) (hg : gnest w = true) : w ∈ gNW := List.mem_filter.mpr ⟨gtb_mem h, hg⟩
def gchkF (own nm : String) (put : Bool) (idx len : Nat) (ax : List Nat) : Bool := match ax with
  | [] => true
  | [ci, sl, ne, ps] => len == 3 && (match gcl[ci]? with
    | some r => Nat.blt sl r.2.2 && (decide ((r.2.1 sl).1 = r.1) && ((bif Nat.beq ne 0 then gtb ps (.fieldLink own idx r.1 (r.2.1 sl).2.1 (r.2.1 sl).2.2.1) else gtb ps (.fieldLinkNest own idx r.1 (r.2.1 sl).2.1 (r.2.1 sl).2.2.1 RX9)) && (!put || (!(r.2.1 sl).2.2.2 || (Nat.beq ne 0 && decide (nm = "<init>" ∧ r.1 = own))))))
    | none => false)
  | _ => false
def gchkK (own : String) (idx : Nat) (ax : List Nat) (w : Value) : Bool := match ax with
  | [] => true
  | [ps] => (match w with
    | .int v => gtb ps (.constant own idx v)
    | .long v => gtb ps (.constantLong own idx v)
    | .ref a => decide (own = RX4 ∧ ((idx = 64 ∧ a = 2000000001) ∨ (idx = 52 ∧ a = 2000000002)))
    | _ => false)
  | _ => false
def gisI : Value → Bool
  | .int _ => true
  | _ => false
def gisL : Value → Bool
  | .long _ => true
  | _ => false
def gchk (own nm : String) (q : Nat × gI) : Bool := match q with
  | (pc, i, len, ax, w) => match i with
    | .iconst n => len == 1 && decide (w = .int (Int32.ofInt n))
    | .lconst n => len == 1 && decide (w = .long (Int64.ofNat (n : Nat)))
    | .bipush n => len == 2 && decide (w = .int (Int8.ofInt n).toInt32)
    | .sipush n => len == 3 && decide (w = .int (Int16.ofInt n).toInt32)
    | .ldc idx => len == 2 && (gchkK own idx ax w && !gisL w)
    | .ldc_w idx => len == 3 && (gchkK own idx ax w && gisI w)
    | .ldc2_w idx => len == 3 && (gchkK own idx ax w && gisL w)
    | .iload_n k | .lload_n k | .aload_n k | .istore_n k | .lstore_n k | .astore_n k => len == 1 && Nat.beq k (gax ax 0)
    | .iload k | .lload k | .aload k | .istore k | .lstore k | .astore k => len == 2 && Nat.beq k (gax ax 0)
    | .iinc k n => len == 3 && (Nat.beq k (gax ax 0) && decide (w = .int (Int32.ofInt n)))
    | .ifCond _ off | .if_icmp _ off | .goto off => len == 3 && decide ((pc : Int) + off = (gax ax 0 : Int))
    | .tableswitch d lo hi offs => decide ((pc : Int) + d = (gax ax 0 : Int)) && decide (offs.toList.map (fun o => (pc : Int) + o) = ax.tail.map Int.ofNat) && decide ((offs.size : Int) = hi - lo + 1)
    | .getfield idx => gchkF own nm false idx len ax
    | .putfield idx => gchkF own nm true idx len ax
    | .new idx => (match ax with
      | [] => true
      | [ci, ps] => len == 3 && (match gcl[ci]? with | some r => gtb ps (.classLink own idx r.1) | none => false)
      | _ => false)
    | .anewarray idx => (match ax with
      | [] => true
      | [ci, ps] => len == 3 && (match gcl[ci]? with | some r => gtb ps (.classLink own idx r.1) && decide (r.1 ∈ gAO) | none => false)
      | _ => false)
    | .newarray t => len == 2 && (match ax with | [ps] => gtb ps (.arrayClass (newarray.typeOf t)) | _ => false)
    | .getstatic _ | .invokevirtual _ | .invokespecial _ | .invokestatic _ => true
    | _ => len == 1
/-! rows of a class -/
theorem gcl_cases {ci : Nat} {r : vw_C} (h : gcl[ci]? = some r) {P : Nat → vw_C → Prop} (h0 : P 0 (RX0, TX0, 3)) (h1 : P 1 (RX1, TX1, 2)) (h2 : P 2 (RX2, TX2, 6)) (h3 : P 3 (RX3, TX3, 6)) (h4 : P 4 (RX4, TX4, 5)) (h5 : P 5 (RX5, TX5, 5)) (h6 : P 6 (RX6, TX6, 2)) (h7 : P 7 (RX7, TX7, 9)) (h8 : P 8 (RX8, TX8, 5)) (h9 : P 9 (RX9, TX9, 18)) (h10 : P 10 (RX10, TX10, 54)) : P ci r := by
  match ci, h with
  | 0, h => cases h; exact h0
  | 1, h => cases h; exact h1
  | 2, h => cases h; exact h2
  | 3, h => cases h; exact h3
  | 4, h => cases h; exact h4
  | 5, h => cases h; exact h5
  | 6, h => cases h; exact h6
  | 7, h => cases h; exact h7
  | 8, h => cases h; exact h8
  | 9, h => cases h; exact h9
  | 10, h => cases h; exact h10
  | n + 11, h => simp [gcl] at h
theorem gcl_ty {ci : Nat} {r : vw_C} (h : gcl[ci]? = some r) : ∀ k, k < r.2.2 → parseFieldDescriptor (r.2.1 k).2.2.1 = some (gty ci k) :=
  gcl_cases (P := fun ci r => ∀ k, k < r.2.2 → parseFieldDescriptor (r.2.1 k).2.2.1 = some (gty ci k)) h tyX0_ok tyX1_ok tyX2_ok tyX3_ok tyX4_ok tyX5_ok tyX6_ok tyX7_ok tyX8_ok tyX9_ok tyX10_ok
theorem gcl_nm {ci : Nat} {r : vw_C} (h : gcl[ci]? = some r) : ∀ a, a < r.2.2 → ∀ b, b < r.2.2 → a ≠ b → (r.2.1 a).2.1 ≠ (r.2.1 b).2.1 :=
  gcl_cases (P := fun _ r => ∀ a, a < r.2.2 → ∀ b, b < r.2.2 → a ≠ b → (r.2.1 a).2.1 ≠ (r.2.1 b).2.1) h nmX0 nmX1 nmX2 nmX3 nmX4 nmX5 nmX6 nmX7 nmX8 nmX9 nmX10
theorem gcl_lay {C : String} {T : u_T} {N : Nat} (h : ∀ w ∈ u_ws C T N, w ∈ lw_tbl) : ∀ w ∈ u_ws C T N, w ∈ gGW := by
  intro w hw
  refine List.mem_filter.mpr ⟨h w hw, ?_⟩
  obtain ⟨k, -, rfl⟩ := List.mem_map.mp hw
  unfold u_lay
  split <;> rfl
theorem gcl_in {ci : Nat} {r : vw_C} (h : gcl[ci]? = some r) : ∀ w ∈ u_ws r.1 r.2.1 r.2.2, w ∈ gGW :=
  gcl_cases (P := fun _ r => ∀ w ∈ u_ws r.1 r.2.1 r.2.2, w ∈ gGW) h (gcl_lay iX0) (gcl_lay iX1) (gcl_lay iX2) (gcl_lay iX3) (gcl_lay iX4) (gcl_lay iX5) (gcl_lay iX6) (gcl_lay iX7) (gcl_lay iX8) (gcl_lay iX9) (gcl_lay iX10)
def gmk (C : String) (N : Nat) : Prop := Cond.instantiable C N ∈ gGW ∧ Cond.initialized C ∈ gGW
theorem gmk_of {C : String} {N p1 p2 : Nat} (h : (gtb p1 (.instantiable C N) && gtb p2 (.initialized C)) = true) : gmk C N := by
  rw [Bool.and_eq_true] at h
  exact ⟨gtb_good h.1 rfl, gtb_good h.2 rfl⟩
theorem gmk0 : gmk RX0 3 := gmk_of (p1 := 108) (p2 := 5) (by decide +kernel)
theorem gmk1 : gmk RX1 2 := gmk_of (p1 := 149) (p2 := 7) (by decide +kernel)
theorem gmk2 : gmk RX2 6 := gmk_of (p1 := 81) (p2 := 4) (by decide +kernel)
theorem gmk3 : gmk RX3 6 := gmk_of (p1 := 589) (p2 := 17) (by decide +kernel)
theorem gmk4 : gmk RX4 5 := gmk_of (p1 := 114) (p2 := 6) (by decide +kernel)
theorem gmk5 : gmk RX5 5 := gmk_of (p1 := 37) (p2 := 2) (by decide +kernel)
theorem gmk6 : gmk RX6 2 := gmk_of (p1 := 64) (p2 := 3) (by decide +kernel)
theorem gmk7 : gmk RX7 9 := gmk_of (p1 := 246) (p2 := 10) (by decide +kernel)
theorem gmk8 : gmk RX8 5 := gmk_of (p1 := 162) (p2 := 8) (by decide +kernel)
theorem gmk9 : gmk RX9 18 := gmk_of (p1 := 24) (p2 := 1) (by decide +kernel)
theorem gmk10 : gmk RX10 54 := gmk_of (p1 := 836) (p2 := 9) (by decide +kernel)
theorem gcl_mk {ci : Nat} {r : vw_C} (h : gcl[ci]? = some r) : gmk r.1 r.2.2 :=
  gcl_cases (P := fun _ r => gmk r.1 r.2.2) h gmk0 gmk1 gmk2 gmk3 gmk4 gmk5 gmk6 gmk7 gmk8 gmk9 gmk10
end
section
/-! ===== an instruction of the small machine is one of the JVM's ===== -/
def gG (p : Program) (l : Launch) (e : Env) (R : Room) (s : State) (m : MethodId) (args : Array Value) (below : List Frame) (meth : Method) (c : Code) (Q : State → Prop) (nL : Nat) (D : va_G) (B : Nat) (ex : Nat → Nat) (H0 : Heap) (n0 u0 : Nat) (pc : Nat) (L : gL) (st : List Value) (S : gS) : Prop :=
  ∀ (ls : Array Slot) (H : Heap) (locs : List Loc) (cells slots : Nat), gLR B ex ls nL L → gRH D s B ex H0 S H → (∀ q ∈ locs, B ≤ q.base) → n0 + cells = S.1 → u0 + slots = S.2.1 → W p l e R s m args below meth c H locs cells slots Q (F0 m pc ls (st.map (gcv B ex)))
abbrev gCx (p : Program) (s : State) (m : MethodId) (args : Array Value) (meth : Method) (c : Code) (cc : ByteArray) (nL : Nat) (own nm : String) (D : va_G) (ex : Nat → Nat) : Prop :=
  p.tables.exec = Jvm.exec ∧ c.code = cc ∧ c.maxLocals = nL ∧ s.vm.findClass own = some m.cls ∧ (∀ w ∈ gGW, w.before args s = true) ∧ meth.name = nm ∧ gKN D ex s
section GST
variable {p : Program} {l : Launch} {e : Env} {R : Room} {s : State} {m : MethodId} {args : Array Value} {below : List Frame} {meth : Method} {c : Code} {Q : State → Prop}
variable {cc : ByteArray} {nL : Nat} {own nm : String} {D : va_G} {B : Nat} {ex : Nat → Nat} {H0 : Heap} {n0 u0 : Nat} {pc : Nat} {L : gL} {st : List Value} {S : gS}
/-! reading -/
theorem g_int {H : Heap} {a : Nat} {ci : Nat} {fs : List Value} (hR : gRH D s B ex H0 S H) (ha : S.2.2 a = .inr (ci, fs)) (hf : fs ≠ []) : a < 1000000000 ∧ S.2.2 a ≠ gz ∧ a < S.1 ∧ gat D s B ex H a (.inr (ci, fs)) := by
  have hz : S.2.2 a ≠ gz := by
    rw [ha]
    intro h
    simp only [gz, Sum.inr.injEq, Prod.mk.injEq] at h
    exact hf h.2
  have h9 : a < 1000000000 := by
    rcases Nat.lt_or_ge a 1000000000 with h | h
    · exact h
    · have := hR.2.2.2.2.2 a h hz
      rw [ha] at this
      exact this.elim
  have h1 := hR.2.2.2.2.1 a h9 hz
  rw [ha] at h1
  exact ⟨h9, hz, h1.1, h1.2⟩
theorem g_arr {H : Heap} {a : Nat} {x : FieldType × vp_A} (hR : gRH D s B ex H0 S H) (ha : S.2.2 a = .inl x) (h9 : a < 1000000000) : S.2.2 a ≠ gz ∧ a < S.1 ∧ gat D s B ex H a (.inl x) := by
  have hz : S.2.2 a ≠ gz := by
    rw [ha]
    intro h
    simp [gz] at h
  have h1 := hR.2.2.2.2.1 a h9 hz
  rw [ha] at h1
  exact ⟨hz, h1.1, h1.2⟩
theorem g_gal {a : Nat} (h : a < 1000000000) : gal B ex a = B + a := by simp [gal, h]
theorem g_read {H : Heap} {a n : Nat} {ty : FieldType} {f : Nat → Int32} (hR : gRH D s B ex H0 S H) (ha : S.2.2 a = .inl (ty, n, .inl f)) : ∃ cell : Cell, H[gal B ex a]? = some cell ∧ s.isArrayOf cell ty ∧ cell.vm ≠ .unknown ∧ cell.slots.size = n ∧ ∀ j : Nat, j < n → cell.slots[j]? = some (.int (f j)) := by
  rcases Nat.lt_or_ge a 1000000000 with h9 | h9
  · obtain ⟨hz, hlt, cA, h1, h2, h3⟩ := g_arr hR ha h9
    rw [g_gal h9]
    exact ⟨_, h3, h1 n (fun j => .int (f j)), (fun q => by cases q), arrV_size _ _ _, fun j hj => arrV_read _ _ hj⟩
  · have hz : S.2.2 a ≠ gz := by
      rw [ha]
      intro h
      simp [gz] at h
    have h1 := hR.2.2.2.2.2 a h9 hz
    rw [ha] at h1
    obtain ⟨cell, k1, k2, k3, k4, k5⟩ := h1
    have hlt : ex a < H0.size := (Array.getElem?_eq_some_iff.mp k1).1
    have e1 : gal B ex a = ex a := by simp [gal, Nat.not_lt.mpr h9]
    rw [e1]
    refine ⟨cell, ?_, k2, k3, k4, k5⟩
    rw [hR.2.2.2.1 (ex a) (by rw [← hR.2.2.1]; exact hlt)]
    exact k1
/-! inversions -/
theorem gpush_inv {len : Nat} {w : Value} {o : Nat × gL × List Value × gS} (h : gpush len w pc L st S = some o) : o = (pc + len, L, w :: st, S) := (Option.some.inj h).symm
theorem gii_inv {f : Int32 → Int32 → Int32} {o : Nat × gL × List Value × gS} (h : gii f pc L st S = some o) : ∃ x y r, st = .int y :: .int x :: r ∧ o = (pc + 1, L, .int (f x y) :: r, S) := by
  unfold gii at h
  split at h
  · exact ⟨_, _, _, rfl, (Option.some.inj h).symm⟩
  · cases h
theorem gll_inv {f : Int64 → Int64 → Int64} {o : Nat × gL × List Value × gS} (h : gll f pc L st S = some o) : ∃ x y r, st = .long y :: .long x :: r ∧ o = (pc + 1, L, .long (f x y) :: r, S) := by
  unfold gll at h
  split at h
  · exact ⟨_, _, _, rfl, (Option.some.inj h).symm⟩
  · cases h
theorem gli_inv {f : Int64 → Int32 → Int64} {o : Nat × gL × List Value × gS} (h : gli f pc L st S = some o) : ∃ x y r, st = .int y :: .long x :: r ∧ o = (pc + 1, L, .long (f x y) :: r, S) := by
  unfold gli at h
  split at h
  · exact ⟨_, _, _, rfl, (Option.some.inj h).symm⟩
  · cases h
theorem giload_inv {len i : Nat} {o : Nat × gL × List Value × gS} (h : giload len i pc L st S = some o) : ∃ x, gl L i = some (.int x) ∧ o = (pc + len, L, .int x :: st, S) := by
  unfold giload at h
  split at h
  · exact ⟨_, by assumption, (Option.some.inj h).symm⟩
  · cases h
theorem glload_inv {len i : Nat} {o : Nat × gL × List Value × gS} (h : glload len i pc L st S = some o) : ∃ x, gl L i = some (.long x) ∧ o = (pc + len, L, .long x :: st, S) := by
  unfold glload at h
  split at h
  · exact ⟨_, by assumption, (Option.some.inj h).symm⟩
  · cases h
theorem galoadL_inv {len i : Nat} {o : Nat × gL × List Value × gS} (h : galoadL len i pc L st S = some o) : ∃ x, gl L i = some (.ref x) ∧ o = (pc + len, L, .ref x :: st, S) := by
  unfold galoadL at h
  split at h
  · exact ⟨_, by assumption, (Option.some.inj h).symm⟩
  · cases h
theorem gistore_inv {len i : Nat} {o : Nat × gL × List Value × gS} (h : gistore len i pc L st S = some o) : ∃ x r, st = .int x :: r ∧ gokS L i = true ∧ i < L.length ∧ o = (pc + len, gsl L i (some (.int x)), r, S) := by
  unfold gistore at h
  split at h
  · rename_i x r
    cases hc : (gokS L i && Nat.blt i L.length) with
    | false => rw [hc] at h; cases h
    | true =>
      rw [hc] at h
      rw [Bool.and_eq_true] at hc
      exact ⟨x, r, rfl, hc.1, Nat.ble_eq.mp hc.2, (Option.some.inj h).symm⟩
  · cases h
theorem gastoreL_inv {len i : Nat} {o : Nat × gL × List Value × gS} (h : gastoreL len i pc L st S = some o) : ∃ x r, st = .ref x :: r ∧ gokS L i = true ∧ i < L.length ∧ o = (pc + len, gsl L i (some (.ref x)), r, S) := by
  unfold gastoreL at h
  split at h
  · rename_i x r
    cases hc : (gokS L i && Nat.blt i L.length) with
    | false => rw [hc] at h; cases h
    | true =>
      rw [hc] at h
      rw [Bool.and_eq_true] at hc
      exact ⟨x, r, rfl, hc.1, Nat.ble_eq.mp hc.2, (Option.some.inj h).symm⟩
  · cases h
theorem glstore_inv {len i : Nat} {o : Nat × gL × List Value × gS} (h : glstore len i pc L st S = some o) : ∃ x r, st = .long x :: r ∧ gokS L i = true ∧ i + 1 < L.length ∧ o = (pc + len, gsl (gsl L i (some (.long x))) (i + 1) none, r, S) := by
  unfold glstore at h
  split at h
  · rename_i x r
    cases hc : (gokS L i && Nat.blt (i + 1) L.length) with
    | false => rw [hc] at h; cases h
    | true =>
      rw [hc] at h
      rw [Bool.and_eq_true] at hc
      exact ⟨x, r, rfl, hc.1, Nat.ble_eq.mp hc.2, (Option.some.inj h).symm⟩
  · cases h
theorem giinc_inv {len i : Nat} {w : Value} {o : Nat × gL × List Value × gS} (h : giinc len i w pc L st S = some o) : ∃ x n, gl L i = some (.int x) ∧ w = .int n ∧ gokS L i = true ∧ i < L.length ∧ o = (pc + len, gsl L i (some (.int (x + n))), st, S) := by
  unfold giinc at h
  split at h
  · rename_i x n hx
    cases hc : (gokS L i && Nat.blt i L.length) with
    | false => rw [hc] at h; cases h
    | true =>
      rw [hc] at h
      rw [Bool.and_eq_true] at hc
      exact ⟨x, n, hx, rfl, hc.1, Nat.ble_eq.mp hc.2, (Option.some.inj h).symm⟩
  · cases h
theorem gget_inv {ci sl : Nat} {o : Nat × gL × List Value × gS} (h : gget ci sl pc L st S = some o) : ∃ a r fs v, st = .ref a :: r ∧ S.2.2 a = .inr (ci, fs) ∧ fs[sl]? = some v ∧ o = (pc + 3, L, v :: r, S) := by
  unfold gget at h
  split at h
  · rename_i a r
    split at h
    · rename_i c fs hc
      cases he : Nat.beq c ci with
      | false => rw [he] at h; cases h
      | true =>
        rw [he] at h
        have e2 : c = ci := Nat.eq_of_beq_eq_true he
        subst e2
        simp only [cond_true] at h
        split at h
        · rename_i v hv
          exact ⟨a, r, fs, v, rfl, hc, hv, (Option.some.inj h).symm⟩
        · cases h
    · cases h
  · cases h
theorem gput_inv {ci sl : Nat} {o : Nat × gL × List Value × gS} (h : gput ci sl pc L st S = some o) : ∃ v a r fs, st = v :: .ref a :: r ∧ S.2.2 a = .inr (ci, fs) ∧ sl < fs.length ∧ gfit (gty ci sl) v = true ∧ o = (pc + 3, L, r, (S.1, S.2.1, gset S.2.2 a (.inr (ci, fs.set sl v)))) := by
  unfold gput at h
  split at h
  · rename_i v a r
    split at h
    · rename_i c fs hc
      cases he : (Nat.beq c ci && Nat.blt sl fs.length && gfit (gty ci sl) v) with
      | false => rw [he] at h; cases h
      | true =>
        rw [he] at h
        rw [Bool.and_eq_true, Bool.and_eq_true] at he
        have e2 : c = ci := Nat.eq_of_beq_eq_true he.1.1
        subst e2
        exact ⟨v, a, r, fs, rfl, hc, Nat.ble_eq.mp he.1.2, he.2, (Option.some.inj h).symm⟩
    · cases h
  · cases h
theorem gnew_inv {ci : Nat} {o : Nat × gL × List Value × gS} (h : gnew ci pc L st S = some o) : ∃ r, gcl[ci]? = some r ∧ S.1 < 1000000 ∧ o = (pc + 3, L, .ref S.1 :: st, (S.1 + 1, S.2.1 + r.2.2, gset S.2.2 S.1 (.inr (ci, gdv ci r.2.2)))) := by
  unfold gnew at h
  split at h
  · rename_i r hr
    split at h
    · rename_i hn
      exact ⟨r, hr, hn, (Option.some.inj h).symm⟩
    · cases h
  · cases h
theorem gnewq_inv {ci : Nat} {o : Nat × gL × List Value × gS} (h : gnewq ci pc L st S = some o) : ∃ n r q, st = .int n :: r ∧ ¬ n < 0 ∧ n.toNatClampNeg ≤ 1000000 ∧ S.1 < 1000000 ∧ gcl[ci]? = some q ∧ o = (pc + 3, L, .ref S.1 :: r, (S.1 + 1, S.2.1 + n.toNatClampNeg, gset S.2.2 S.1 (.inl (.object q.1, n.toNatClampNeg, .inr (.inr (.inr (.inr (fun _ => none)))))))) := by
  unfold gnewq at h
  split at h
  · rename_i n r
    split at h
    · cases h
    · rename_i hn
      split at h
      · rename_i q hq
        exact ⟨n, r, q, rfl, fun z => hn (Or.inl z), by omega, by omega, hq, (Option.some.inj h).symm⟩
      · cases h
  · cases h
theorem giald_inv {ty : FieldType} {o : Nat × gL × List Value × gS} (h : giald ty pc L st S = some o) : ∃ i a r n f, st = .int i :: .ref a :: r ∧ S.2.2 a = .inl (ty, n, .inl f) ∧ ¬ (i < 0 ∨ n ≤ i.toNatClampNeg) ∧ o = (pc + 1, L, .int (f i.toNatClampNeg) :: r, S) := by
  unfold giald at h
  split at h
  · rename_i i a r
    split at h
    · rename_i t n f ha
      split at h
      · rename_i hc
        obtain ⟨rfl, hc⟩ := hc
        exact ⟨i, a, r, n, f, rfl, ha, hc, (Option.some.inj h).symm⟩
      · cases h
    · cases h
  · cases h
theorem gbald_inv {o : Nat × gL × List Value × gS} (h : gbald pc L st S = some o) : ∃ i a r t n f, st = .int i :: .ref a :: r ∧ (t = .boolean ∨ t = .byte) ∧ S.2.2 a = .inl (t, n, .inl f) ∧ ¬ (i < 0 ∨ n ≤ i.toNatClampNeg) ∧ o = (pc + 1, L, .int (f i.toNatClampNeg) :: r, S) := by
  unfold gbald at h
  split at h
  · rename_i i a r
    split at h
    · rename_i t n f ha
      split at h
      · rename_i hc
        exact ⟨i, a, r, t, n, f, rfl, hc.1, ha, hc.2, (Option.some.inj h).symm⟩
      · cases h
    · cases h
  · cases h
theorem glald_inv {o : Nat × gL × List Value × gS} (h : glald pc L st S = some o) : ∃ i a r n f, st = .int i :: .ref a :: r ∧ S.2.2 a = .inl (.long, n, .inr (.inl f)) ∧ ¬ (i < 0 ∨ n ≤ i.toNatClampNeg) ∧ o = (pc + 1, L, .long (f i.toNatClampNeg) :: r, S) := by
  unfold glald at h
  split at h
  · rename_i i a r
    split at h
    · rename_i t n f ha
      split at h
      · rename_i hc
        obtain ⟨rfl, hc⟩ := hc
        exact ⟨i, a, r, n, f, rfl, ha, hc, (Option.some.inj h).symm⟩
      · cases h
    · cases h
  · cases h
theorem gaald_inv {o : Nat × gL × List Value × gS} (h : gaald pc L st S = some o) : ∃ i a r C n f, st = .int i :: .ref a :: r ∧ S.2.2 a = .inl (.object C, n, .inr (.inr (.inr (.inr f)))) ∧ ¬ (i < 0 ∨ n ≤ i.toNatClampNeg) ∧ o = (pc + 1, L, va_rf (f i.toNatClampNeg) :: r, S) := by
  unfold gaald at h
  split at h
  · rename_i i a r
    split at h
    · rename_i C n f ha
      split at h
      · rename_i hc
        exact ⟨i, a, r, C, n, f, rfl, ha, hc, (Option.some.inj h).symm⟩
      · cases h
    · cases h
  · cases h
theorem glast_inv {o : Nat × gL × List Value × gS} (h : glast pc L st S = some o) : ∃ x i a r n f, st = .long x :: .int i :: .ref a :: r ∧ S.2.2 a = .inl (.long, n, .inr (.inl f)) ∧ ¬ (i < 0 ∨ n ≤ i.toNatClampNeg) ∧ a < 1000000000 ∧ o = (pc + 1, L, r, (S.1, S.2.1, gset S.2.2 a (.inl (.long, n, .inr (.inl (vp_updL f i.toNatClampNeg x)))))) := by
  unfold glast at h
  split at h
  · rename_i x i a r
    split at h
    · rename_i t n f ha
      split at h
      · rename_i hc
        obtain ⟨rfl, hc, h9⟩ := hc
        exact ⟨x, i, a, r, n, f, rfl, ha, hc, h9, (Option.some.inj h).symm⟩
      · cases h
    · cases h
  · cases h
theorem gaast_inv {o : Nat × gL × List Value × gS} (h : gaast pc L st S = some o) : ∃ v i a r C n f ci fs, st = .ref v :: .int i :: .ref a :: r ∧ S.2.2 a = .inl (.object C, n, .inr (.inr (.inr (.inr f)))) ∧ S.2.2 v = .inr (ci, fs) ∧ (gcl[ci]?.map (fun q => q.1)) = some C ∧ ¬ (i < 0 ∨ n ≤ i.toNatClampNeg) ∧ a < 1000000000 ∧ o = (pc + 1, L, r, (S.1, S.2.1, gset S.2.2 a (.inl (.object C, n, .inr (.inr (.inr (.inr (va_up f i.toNatClampNeg (some v))))))))) := by
  unfold gaast at h
  split at h
  · rename_i v i a r
    split at h
    · rename_i C n f ha
      split at h
      · rename_i ci fs hv
        split at h
        · rename_i hc
          exact ⟨v, i, a, r, C, n, f, ci, fs, rfl, ha, hv, hc.1, hc.2.1, hc.2.2, (Option.some.inj h).symm⟩
        · cases h
      · cases h
    · cases h
  · cases h
theorem galen_inv {o : Nat × gL × List Value × gS} (h : galen pc L st S = some o) : ∃ a r t n x, st = .ref a :: r ∧ S.2.2 a = .inl (t, n, x) ∧ o = (pc + 1, L, .int (Int32.ofNat n) :: r, S) := by
  unfold galen at h
  split at h
  · rename_i a r
    split at h
    · rename_i t n x ha
      exact ⟨a, r, t, n, x, rfl, ha, (Option.some.inj h).symm⟩
    · cases h
  · cases h
end GST
theorem giast_inv {ty : FieldType} {ok : Int32 → Prop} [DecidablePred ok] {pc : Nat} {L : gL} {st : List Value} {S : gS} {o : Nat × gL × List Value × gS} (h : giast ty ok pc L st S = some o) : ∃ x i a r n f, st = .int x :: .int i :: .ref a :: r ∧ S.2.2 a = .inl (ty, n, .inl f) ∧ ¬ (i < 0 ∨ n ≤ i.toNatClampNeg) ∧ ok x ∧ a < 1000000000 ∧ o = (pc + 1, L, r, (S.1, S.2.1, gset S.2.2 a (.inl (ty, n, .inl (upd f i.toNatClampNeg x))))) := by
  unfold giast at h
  split at h
  · rename_i x i a r
    split at h
    · rename_i t n f ha
      split at h
      · rename_i hc
        obtain ⟨rfl, hc, hok, h9⟩ := hc
        exact ⟨x, i, a, r, n, f, rfl, ha, hc, hok, h9, (Option.some.inj h).symm⟩
      · cases h
    · cases h
  · cases h
end
section
section GSM
variable {p : Program} {l : Launch} {e : Env} {R : Room} {s : State} {m : MethodId} {args : Array Value} {below : List Frame} {meth : Method} {c : Code} {Q : State → Prop}
variable {cc : ByteArray} {nL : Nat} {own nm : String} {D : va_G} {B : Nat} {ex : Nat → Nat} {H0 : Heap} {n0 u0 : Nat} {pc : Nat} {L : gL} {st r : List Value} {S : gS}
theorem gw_field (a : String) (b : Nat) (x y z : String) : goodWord (.fieldLink a b x y z) = true := rfl
theorem gw_class (a : String) (b : Nat) (x : String) : goodWord (.classLink a b x) = true := rfl
theorem gw_const (a : String) (b : Nat) (x : Int32) : goodWord (.constant a b x) = true := rfl
theorem gw_constL (a : String) (b : Nat) (x : Int64) : goodWord (.constantLong a b x) = true := rfl
theorem gw_arr (t : FieldType) : goodWord (.arrayClass t) = true := rfl
/-! fields -/
theorem gs_get {idx ci sl ne ps a : Nat} {fs : List Value} {v : Value} (X : gCx p s m args meth c cc nL own nm D ex) (hd : decode cc pc = .ok (.getfield idx, 3)) (hck : gchkF own nm false idx 3 [ci, sl, ne, ps] = true) (ha : S.2.2 a = .inr (ci, fs)) (hv : fs[sl]? = some v)
    (k : gG p l e R s m args below meth c Q nL D B ex H0 n0 u0 (pc + 3) L (v :: r) S) : gG p l e R s m args below meth c Q nL D B ex H0 n0 u0 pc L (.ref a :: r) S := by
  intro ls H locs cells slots hL hR hl hc hs
  obtain ⟨hx, hb, hml, hown, hts, hnm, hKN⟩ := X
  have hne : fs ≠ [] := by
    intro h
    rw [h] at hv
    simp at hv
  obtain ⟨h9, hz, hlt, q, hq, hlen, hob⟩ := g_int hR ha hne
  simp only [gchkF, hq, Bool.and_eq_true, beq_self_eq_true, true_and, decide_eq_true_eq] at hck
  obtain ⟨hk, hdecl, hlk, -⟩ := hck
  have hk' : sl < q.2.2 := Nat.ble_eq.mp hk
  have hP : va_P D gcl [(B + a, .inr (ci, fs.map (gcv B ex)))] H := by
    intro k2 q2 h2
    cases k2 with
    | zero => cases h2; exact ⟨q, hq, hob⟩
    | succ n => simp at h2
  have hvv : (fs.map (gcv B ex))[sl]? = some (gcv B ex v) := by rw [List.getElem?_map, hv]; rfl
  have e1 : gcv B ex (.ref a) = .ref (B + a) := by simp [gcv, g_gal h9]
  have kk := k ls H locs cells slots hL hR hl hc hs
  simp only [List.map_cons, e1] at kk ⊢
  cases hn : Nat.beq ne 0 with
  | true =>
    rw [hn] at hlk
    simp only [cond_true] at hlk
    exact va_get (D := D) (ci := ci) (C := q.1) (T := q.2.1) (N := q.2.2) hx hb hts (gcl_in hq) hown hKN.1 hP 0 rfl hq sl hk' (hts _ (gtb_good hlk (gw_field _ _ _ _ _))) (fun x h => by rw [← hdecl]; exact h) hvv hd kk
  | false =>
    rw [hn] at hlk
    simp only [cond_false] at hlk
    exact va_getN (D := D) (ci := ci) (C := q.1) (T := q.2.1) (N := q.2.2) hx hb hts (gcl_in hq) hown hKN.1 hP 0 rfl hq sl hk' (va_Nw.use rfl (hKN.2.1 _ (gtb_nest hlk rfl))) (fun x h => by rw [← hdecl]; exact h) hvv hd kk
theorem gfit_ok {ty : FieldType} {v : Value} (h : gfit ty v = true) : narrow ty (gcv B ex v) = gcv B ex v ∧ fits ty (gcv B ex v) = true := by
  cases ty <;> cases v <;> first | exact ⟨rfl, rfl⟩ | (simp [gfit] at h; done) | skip
  rename_i x
  simp only [gfit, Bool.or_eq_true, beq_iff_eq] at h
  rcases h with rfl | rfl
  · exact ⟨(by show narrow .boolean (.int 0) = .int 0; decide), (by show fits .boolean (.int 0) = true; decide)⟩
  · exact ⟨(by show narrow .boolean (.int 1) = .int 1; decide), (by show fits .boolean (.int 1) = true; decide)⟩
theorem gs_put {idx ci sl ne ps a : Nat} {fs : List Value} {v : Value} (X : gCx p s m args meth c cc nL own nm D ex) (hd : decode cc pc = .ok (.putfield idx, 3)) (hck : gchkF own nm true idx 3 [ci, sl, ne, ps] = true) (ha : S.2.2 a = .inr (ci, fs)) (hsl : sl < fs.length) (hfit : gfit (gty ci sl) v = true)
    (k : gG p l e R s m args below meth c Q nL D B ex H0 n0 u0 (pc + 3) L r (S.1, S.2.1, gset S.2.2 a (.inr (ci, fs.set sl v)))) : gG p l e R s m args below meth c Q nL D B ex H0 n0 u0 pc L (v :: .ref a :: r) S := by
  intro ls H locs cells slots hL hR hl hc hs
  obtain ⟨hx, hb, hml, hown, hts, hnm, hKN⟩ := X
  have hne : fs ≠ [] := by
    intro h
    rw [h] at hsl
    simp at hsl
  obtain ⟨h9, hz, hlt, q, hq, hlen, cell, q1, q2, q3, q4⟩ := g_int hR ha hne
  simp only [gchkF, hq, Bool.and_eq_true, beq_self_eq_true, true_and, decide_eq_true_eq, Bool.not_true, Bool.false_or] at hck
  obtain ⟨hk, hdecl, hlk, hfin⟩ := hck
  have hk' : sl < q.2.2 := Nat.ble_eq.mp hk
  have e1 : gcv B ex (.ref a) = .ref (B + a) := by simp [gcv, g_gal h9]
  have hap := va_apart (own := own) (s := s) (args := args) (D := D) (cl := gcl) (tys := []) hts (gcl_in hq) (gty ci) (gcl_ty hq) (gcl_nm hq) hKN.1 hq
  obtain ⟨hS, hfc, kC, hkC, hkind⟩ := hKN.1.1 ci _ hq
  obtain ⟨cf, kf, fi, f, hi, hsl2⟩ := hS sl hk'
  have hst := (u_facts hfc hkC (u_lays hts (gcl_in hq) hk') hi).1
  obtain ⟨hn1, hf1⟩ := gfit_ok (B := B) (ex := ex) hfit
  have hi' : s.fieldFound? q.1 (q.2.1 sl).2.1 (q.2.1 sl).2.2.1 = some (cf, kf, fi, f) := by rw [← hdecl]; exact hi
  have fin : ∀ H' : Heap, H'[B + a]? = some (cell.setSlot f.slot (gcv B ex v)) → H'.size = H.size → (∀ q, q ≠ B + a → H'[q]? = H[q]?) → W p l e R s m args below meth c H' (locs ++ [⟨B + a, f.slot⟩]) cells slots Q (F0 m (pc + 3) ls (r.map (gcv B ex))) := by
    intro H' g1 g2 g3
    refine k ls H' _ cells slots hL (gRH_set hR h9 hz ?_ g2 g3) ?_ hc hs
    · refine ⟨q, hq, by rw [List.length_set]; exact hlen, ?_⟩
      rw [hsl2] at g1
      refine t_OB.to (V := updV (vp_V (fs.map (gcv B ex))) sl (gcv B ex v)) ⟨_, g1, q2, q3, t_set q4 hap hk' _⟩ (fun j _ => ?_)
      rw [List.map_set]
      exact vp_updV_set (by rw [List.length_map]; exact hsl) _ j
    · intro z hz2
      rcases List.mem_append.mp hz2 with h | h
      · exact hl z h
      · rw [List.mem_singleton.mp h]
        exact Nat.le_add_right _ _
  simp only [List.map_cons, e1]
  have hlay := hts _ (gcl_in hq _ (u_in_lay hk'))
  unfold u_lay at hlay
  have hdd := gcl_ty hq sl hk'
  cases hfl : (q.2.1 sl).2.2.2 with
  | false =>
    rw [hfl] at hlay
    simp only [Bool.false_eq_true, if_false] at hlay
    have h6 := u_store hfc hkC hkind hlay hi hdd hn1 hf1
    cases hn : Nat.beq ne 0 with
    | true =>
      rw [hn] at hlk
      simp only [cond_true] at hlk
      exact W.putK hx hb (f := f) ⟨hown, hts _ (gtb_good hlk (gw_field _ _ _ _ _)), ⟨_, _, _, hi'⟩, hst⟩ (by rw [q2]; exact h6) q1 q3 (by rw [hsl2]; exact k2_hasslot (q4 sl hk')) rfl rfl hd fin
    | false =>
      rw [hn] at hlk
      simp only [cond_false] at hlk
      exact va_WputK hx hb (f := f) hown (va_Nw.use rfl (hKN.2.1 _ (gtb_nest hlk rfl))) hi' hst (by rw [q2]; exact h6) q1 q3 (by rw [hsl2]; exact k2_hasslot (q4 sl hk')) rfl rfl hd fin
  | true =>
    rw [hfl] at hfin hlay
    simp only [if_true] at hlay
    simp only [Bool.not_true, Bool.false_or, Bool.and_eq_true, decide_eq_true_eq] at hfin
    obtain ⟨hn, hnm2, hown2⟩ := hfin
    rw [hn] at hlk
    simp only [cond_true] at hlk
    have h6 := u_fits hfc hkC hkind (Or.inr hlay) hi hdd hn1 hf1
    have hcf : m.cls = cf := by
      obtain ⟨_, _, c', _, _, _, -, -, hf', -, -, -, hown3, -⟩ := Cond.laysFinal_spec hlay
      have e2 : c' = cf := by have := hi.symm.trans hf'; simp at this; exact this.1.symm
      rw [hdecl, hown2] at hown3
      rw [← e2]; exact Option.some.inj (hown.symm.trans hown3)
    exact W.putFinK hx hb hown (hts _ (gtb_good hlk (gw_field _ _ _ _ _))) hi' hst hcf (hnm.trans hnm2) (by rw [q2]; exact h6) q1 q3 (by rw [hsl2]; exact k2_hasslot (q4 sl hk')) rfl rfl hd fin
/-! making -/
theorem gs_new {idx ci ps : Nat} {q : vw_C} (X : gCx p s m args meth c cc nL own nm D ex) (hd : decode cc pc = .ok (.new idx, 3)) (hq : gcl[ci]? = some q) (hlk : gtb ps (.classLink own idx q.1) = true) (hn : S.1 < 1000000) (hr1 : S.1 + 1 ≤ n0 + R.cells) (hr2 : S.2.1 + q.2.2 ≤ u0 + R.slots)
    (k : gG p l e R s m args below meth c Q nL D B ex H0 n0 u0 (pc + 3) L (.ref S.1 :: st) (S.1 + 1, S.2.1 + q.2.2, gset S.2.2 S.1 (.inr (ci, gdv ci q.2.2)))) : gG p l e R s m args below meth c Q nL D B ex H0 n0 u0 pc L st S := by
  intro ls H locs cells slots hL hR hl hc hs
  obtain ⟨hx, hb, hml, hown, hts, hnm, hKN⟩ := X
  have hKn := hKN.1.1 ci _ hq
  obtain ⟨hmk1, hmk2⟩ := gcl_mk hq
  refine W.newcK hx hb hown (hts _ (gtb_good hlk (gw_class _ _ _))) (hts _ hmk1) (hts _ hmk2) rfl hd (by omega) (by omega) hKn.2.1 rfl fun H1 kC hkC e1 z1 o1 => ?_
  have e2 : gcv B ex (.ref S.1) = .ref H.size := by
    simp only [gcv]
    rw [g_gal (by omega), hR.1]
  have hat : gat D s B ex H1 S.1 (.inr (ci, gdv ci q.2.2)) := by
    refine ⟨q, hq, by simp [gdv], ?_⟩
    rw [hR.1] at e1
    refine (u_born (gty ci) hts (gcl_in hq) hKn hkC e1 (gcl_ty hq)).to (fun j hj => ?_)
    have h0 : (gdv ci q.2.2)[j]? = some (defaultValue (gty ci j)) := by simp [gdv, hj]
    have h1 : ((gdv ci q.2.2).map (gcv B ex))[j]? = some (gcv B ex (defaultValue (gty ci j))) := by rw [List.getElem?_map, h0]; rfl
    have h2 : gcv B ex (defaultValue (gty ci j)) = defaultValue (gty ci j) := by cases gty ci j <;> rfl
    rw [h2] at h1
    simp [vp_V, h1]
  have kk := k ls H1 locs (cells + 1) (slots + q.2.2) hL (gRH_push _ hR hn hat z1 o1) hl (by dsimp only; omega) (by dsimp only; omega)
  simp only [List.map_cons, e2] at kk
  exact kk
theorem gs_newa {at_ : ArrayType} {ty : FieldType} {ps : Nat} {n : Int32} {a0 : vp_A} (X : gCx p s m args meth c cc nL own nm D ex) (hd : decode cc pc = .ok (.newarray at_, 2)) (hlk : gtb ps (.arrayClass (newarray.typeOf at_)) = true) (hty : newarray.typeOf at_ = ty) (hra : ∀ cA U, U.vm.findClass ("[" ++ ty.toString) = some cA → va_RA U cA ty) (ha0 : ∀ cA : ClassId, vp_cell cA (gcvA B ex a0) = arrV cA n.toNatClampNeg (fun _ => defaultValue ty)) (h0 : ¬ n < 0) (h1 : n.toNatClampNeg ≤ 1000000) (hcb : componentBytes ty ≤ 8) (hn : S.1 < 1000000) (hr1 : S.1 + 1 ≤ n0 + R.cells) (hr2 : S.2.1 + n.toNatClampNeg ≤ u0 + R.slots)
    (k : gG p l e R s m args below meth c Q nL D B ex H0 n0 u0 (pc + 2) L (.ref S.1 :: r) (S.1 + 1, S.2.1 + n.toNatClampNeg, gset S.2.2 S.1 (.inl (ty, a0)))) : gG p l e R s m args below meth c Q nL D B ex H0 n0 u0 pc L (.int n :: r) S := by
  intro ls H locs cells slots hL hR hl hc hs
  obtain ⟨hx, hb, hml, hown, hts, hnm, hKN⟩ := X
  subst hty
  refine va_newaK hx hb (hts _ (gtb_good hlk (gw_arr _))) rfl hd rfl h0 rfl (Nat.le_trans (Nat.mul_le_mul h1 hcb) (by decide)) (by omega) (by omega) rfl fun H1 cA e1 z1 o1 hAr hNm => ?_
  have e2 : gcv B ex (.ref S.1) = .ref H.size := by
    simp only [gcv]
    rw [g_gal (by omega), hR.1]
  have hat : gat D s B ex H1 S.1 (.inl (newarray.typeOf at_, a0)) := by
    refine ⟨cA, hAr, hra cA s hNm, ?_⟩
    rw [ha0, ← hR.1]
    exact e1
  have kk := k ls H1 locs (cells + 1) (slots + n.toNatClampNeg) hL (gRH_push _ hR hn hat z1 o1) hl (by dsimp only; omega) (by dsimp only; omega)
  simp only [List.map_cons, e2] at kk
  exact kk
theorem gs_newq {idx ps : Nat} {q : vw_C} {n : Int32} (X : gCx p s m args meth c cc nL own nm D ex) (hd : decode cc pc = .ok (.anewarray idx, 3)) (hlk : gtb ps (.classLink own idx q.1) = true) (hao : q.1 ∈ gAO) (h0 : ¬ n < 0) (h1 : n.toNatClampNeg ≤ 1000000) (hn : S.1 < 1000000) (hr1 : S.1 + 1 ≤ n0 + R.cells) (hr2 : S.2.1 + n.toNatClampNeg ≤ u0 + R.slots)
    (k : gG p l e R s m args below meth c Q nL D B ex H0 n0 u0 (pc + 3) L (.ref S.1 :: r) (S.1 + 1, S.2.1 + n.toNatClampNeg, gset S.2.2 S.1 (.inl (.object q.1, n.toNatClampNeg, .inr (.inr (.inr (.inr (fun _ => none)))))))) : gG p l e R s m args below meth c Q nL D B ex H0 n0 u0 pc L (.int n :: r) S := by
  intro ls H locs cells slots hL hR hl hc hs
  obtain ⟨hx, hb, hml, hown, hts, hnm, hKN⟩ := X
  refine W.anew hx hb hown (hts _ (gtb_good hlk (gw_class _ _ _))) (va_AO.use (hKN.2.2.1 _ hao)) rfl hd rfl h0 (Nat.le_trans (Nat.mul_le_mul h1 (Nat.le_refl 4)) (by decide)) (by omega) (by omega) fun cA kA comp f1 f2 f3 f4 => ?_
  generalize hH1 : H.push ({ cls := cA, slots := Array.replicate n.toNatClampNeg .null, vm := .none } : Cell) = H1
  have z1 : H1.size = H.size + 1 := by rw [← hH1, Array.size_push]
  have e1 : H1[H.size]? = some (arrV cA n.toNatClampNeg (fun _ => .null)) := by rw [← hH1, Array.getElem?_push_size, ← arrV_new]
  have o1 : ∀ q : Nat, q < H.size → H1[q]? = H[q]? := fun q hq => by rw [← hH1, Array.getElem?_push, if_neg (Nat.ne_of_lt hq)]
  have hAr : ArrOfT s cA (.object q.1) := fun N z => ⟨(fun k h => by cases h), kA, f2, comp, f3⟩
  have e2 : gcv B ex (.ref S.1) = .ref H.size := by
    simp only [gcv]
    rw [g_gal (by omega), hR.1]
  have hat : gat D s B ex H1 S.1 (.inl (.object q.1, n.toNatClampNeg, .inr (.inr (.inr (.inr (fun _ => none)))))) := by
    refine ⟨cA, hAr, ⟨kA, comp, f2, f3, f4, f1⟩, ?_⟩
    rw [← hR.1]
    exact e1
  have kk := k ls H1 locs (cells + 1) (slots + n.toNatClampNeg) hL (gRH_push _ hR hn hat z1 o1) hl (by dsimp only; omega) (by dsimp only; omega)
  simp only [List.map_cons, e2] at kk
  exact kk
/-! arrays -/
theorem gs_iald {ty : FieldType} {i : Int32} {a n : Nat} {f : Nat → Int32} (X : gCx p s m args meth c cc nL own nm D ex) (hty : (ty = .int ∧ decode cc pc = .ok (.iaload, 1)) ∨ (ty = .char ∧ decode cc pc = .ok (.caload, 1)) ∨ (ty = .boolean ∧ decode cc pc = .ok (.baload, 1)) ∨ (ty = .byte ∧ decode cc pc = .ok (.baload, 1))) (ha : S.2.2 a = .inl (ty, n, .inl f)) (hin : ¬ (i < 0 ∨ n ≤ i.toNatClampNeg))
    (k : gG p l e R s m args below meth c Q nL D B ex H0 n0 u0 (pc + 1) L (.int (f i.toNatClampNeg) :: r) S) : gG p l e R s m args below meth c Q nL D B ex H0 n0 u0 pc L (.int i :: .ref a :: r) S := by
  intro ls H locs cells slots hL hR hl hc hs
  obtain ⟨hx, hb, hml, hown, hts, hnm, hKN⟩ := X
  obtain ⟨cell, k1, k2, k3, k4, k5⟩ := g_read hR ha
  have kk := k ls H locs cells slots hL hR hl hc hs
  have hlt : i.toNatClampNeg < n := by omega
  rcases hty with ⟨rfl, hd⟩ | ⟨rfl, hd⟩ | ⟨rfl, hd⟩ | ⟨rfl, hd⟩
  · exact W.iald hx hb k1 k2 k3 (by rw [k4]; exact hin) (k5 _ hlt) rfl rfl hd kk
  · exact W.cald hx hb k1 k2 k3 (by rw [k4]; exact hin) (k5 _ hlt) rfl rfl hd kk
  · exact W.zald hx hb k1 k2 k3 (by rw [k4]; exact hin) (k5 _ hlt) rfl rfl hd kk
  · exact W.bald hx hb k1 k2 k3 (by rw [k4]; exact hin) (k5 _ hlt) rfl rfl hd kk
theorem g_ext9 {H : Heap} {a : Nat} {t : FieldType} {n : Nat} {x} (hR : gRH D s B ex H0 S H) (ha : S.2.2 a = .inl (t, n, .inr x)) : a < 1000000000 := by
  rcases Nat.lt_or_ge a 1000000000 with h | h
  · exact h
  · have hz : S.2.2 a ≠ gz := by
      rw [ha]
      intro h
      simp [gz] at h
    have := hR.2.2.2.2.2 a h hz
    rw [ha] at this
    exact this.elim
theorem gs_lald {i : Int32} {a n : Nat} {f : Nat → Int64} (X : gCx p s m args meth c cc nL own nm D ex) (hd : decode cc pc = .ok (.laload, 1)) (ha : S.2.2 a = .inl (.long, n, .inr (.inl f))) (hin : ¬ (i < 0 ∨ n ≤ i.toNatClampNeg))
    (k : gG p l e R s m args below meth c Q nL D B ex H0 n0 u0 (pc + 1) L (.long (f i.toNatClampNeg) :: r) S) : gG p l e R s m args below meth c Q nL D B ex H0 n0 u0 pc L (.int i :: .ref a :: r) S := by
  intro ls H locs cells slots hL hR hl hc hs
  obtain ⟨hx, hb, hml, hown, hts, hnm, hKN⟩ := X
  have h9 := g_ext9 hR ha
  obtain ⟨hz, hlt0, cA, k1, k2, k3⟩ := g_arr hR ha h9
  have kk := k ls H locs cells slots hL hR hl hc hs
  have hlt : i.toNatClampNeg < n := by omega
  have e1 : gcv B ex (.ref a) = .ref (B + a) := by simp [gcv, g_gal h9]
  simp only [List.map_cons, e1] at kk ⊢
  exact W.lald hx hb k3 (k1 n (fun j => .long (f j))) (fun q => by cases q) (by show ¬ (i < 0 ∨ (arrV _ _ _).slots.size ≤ _); rw [arrV_size]; exact hin) (arrV_read cA (fun j => Value.long (f j)) hlt) rfl rfl hd kk
theorem gs_aald {i : Int32} {a n : Nat} {C : String} {f : Nat → Option Nat} (X : gCx p s m args meth c cc nL own nm D ex) (hd : decode cc pc = .ok (.aaload, 1)) (ha : S.2.2 a = .inl (.object C, n, .inr (.inr (.inr (.inr f))))) (hin : ¬ (i < 0 ∨ n ≤ i.toNatClampNeg))
    (k : gG p l e R s m args below meth c Q nL D B ex H0 n0 u0 (pc + 1) L (va_rf (f i.toNatClampNeg) :: r) S) : gG p l e R s m args below meth c Q nL D B ex H0 n0 u0 pc L (.int i :: .ref a :: r) S := by
  intro ls H locs cells slots hL hR hl hc hs
  obtain ⟨hx, hb, hml, hown, hts, hnm, hKN⟩ := X
  have h9 := g_ext9 hR ha
  obtain ⟨hz, hlt0, cA, k1, k2, k3⟩ := g_arr hR ha h9
  have kk := k ls H locs cells slots hL hR hl hc hs
  have hlt : i.toNatClampNeg < n := by omega
  have e1 : gcv B ex (.ref a) = .ref (B + a) := by simp [gcv, g_gal h9]
  have e3 : gcv B ex (va_rf (f i.toNatClampNeg)) = va_rf ((f i.toNatClampNeg).map (gal B ex)) := by cases f i.toNatClampNeg <;> rfl
  simp only [List.map_cons, e1, e3] at kk ⊢
  exact W.aald (v := va_rf ((f i.toNatClampNeg).map (gal B ex))) (ty := .object C) hx hb k3 (k1 n (fun j => va_rf ((f j).map (gal B ex)))) rfl (fun q => by cases q) (by show ¬ (i < 0 ∨ (arrV _ _ _).slots.size ≤ _); rw [arrV_size]; exact hin) (arrV_read cA (fun j => va_rf ((f j).map (gal B ex))) hlt) rfl rfl hd kk
theorem gs_alen {a n : Nat} {t : FieldType} {x} (X : gCx p s m args meth c cc nL own nm D ex) (hd : decode cc pc = .ok (.arraylength, 1)) (ha : S.2.2 a = .inl (t, n, x))
    (k : gG p l e R s m args below meth c Q nL D B ex H0 n0 u0 (pc + 1) L (.int (Int32.ofNat n) :: r) S) : gG p l e R s m args below meth c Q nL D B ex H0 n0 u0 pc L (.ref a :: r) S := by
  intro ls H locs cells slots hL hR hl hc hs
  obtain ⟨hx, hb, hml, hown, hts, hnm, hKN⟩ := X
  have kk := k ls H locs cells slots hL hR hl hc hs
  rcases x with f | x
  · obtain ⟨cell, k1, k2, k3, k4, k5⟩ := g_read hR ha
    exact W.alen hx hb k1 k2 (by rw [k4]) rfl rfl hd kk
  · have h9 := g_ext9 hR ha
    obtain ⟨hz, hlt0, cA, k1, k2, k3⟩ := g_arr hR ha h9
    have e1 : gcv B ex (.ref a) = .ref (B + a) := by simp [gcv, g_gal h9]
    simp only [List.map_cons, e1] at kk ⊢
    rcases x with f | f | f | f
    · exact W.alen hx hb k3 (k1 n (fun j => .long (f j))) (by show (arrV _ _ _).slots.size.toInt32 = _; rw [arrV_size]; rfl) rfl rfl hd kk
    · exact W.alen hx hb k3 (k1 n (fun j => .float (f j))) (by show (arrV _ _ _).slots.size.toInt32 = _; rw [arrV_size]; rfl) rfl rfl hd kk
    · exact W.alen hx hb k3 (k1 n (fun j => .double (f j))) (by show (arrV _ _ _).slots.size.toInt32 = _; rw [arrV_size]; rfl) rfl rfl hd kk
    · exact W.alen hx hb k3 (k1 n (fun j => va_rf ((f j).map (gal B ex)))) (by show (arrV _ _ _).slots.size.toInt32 = _; rw [arrV_size]; rfl) rfl rfl hd kk
theorem g_locs {locs : List Loc} {a i : Nat} (hl : ∀ q ∈ locs, B ≤ q.base) : ∀ q ∈ locs ++ [(⟨B + a, i⟩ : Loc)], B ≤ q.base := by
  intro z hz2
  rcases List.mem_append.mp hz2 with h | h
  · exact hl z h
  · rw [List.mem_singleton.mp h]
    exact Nat.le_add_right _ _
theorem g_stored {cA : ClassId} {n j : Nat} {f : Nat → Int32} {x : Int32} : (arrV cA n (fun j => .int (f j))).setSlot j (.int x) = arrV cA n (fun q => .int (upd f j x q)) := by
  rw [arrV_store]
  congr 1
  funext q
  by_cases hq : q = j
  · subst hq
    simp [updV, upd]
  · simp [updV, upd, hq]
theorem gs_iast {ty : FieldType} {x i : Int32} {a n : Nat} {f : Nat → Int32} (X : gCx p s m args meth c cc nL own nm D ex) (hty : (ty = .int ∧ decode cc pc = .ok (.iastore, 1)) ∨ (ty = .char ∧ decode cc pc = .ok (.castore, 1) ∧ vp_nar .char x = x) ∨ (ty = .boolean ∧ decode cc pc = .ok (.bastore, 1) ∧ (x = 0 ∨ x = 1))) (ha : S.2.2 a = .inl (ty, n, .inl f)) (h9 : a < 1000000000) (hin : ¬ (i < 0 ∨ n ≤ i.toNatClampNeg))
    (k : gG p l e R s m args below meth c Q nL D B ex H0 n0 u0 (pc + 1) L r (S.1, S.2.1, gset S.2.2 a (.inl (ty, n, .inl (upd f i.toNatClampNeg x))))) : gG p l e R s m args below meth c Q nL D B ex H0 n0 u0 pc L (.int x :: .int i :: .ref a :: r) S := by
  intro ls H locs cells slots hL hR hl hc hs
  obtain ⟨hx, hb, hml, hown, hts, hnm, hKN⟩ := X
  obtain ⟨hz, hlt0, cA, k1, k2, k3⟩ := g_arr hR ha h9
  have e1 : gcv B ex (.ref a) = .ref (B + a) := by simp [gcv, g_gal h9]
  simp only [List.map_cons, e1]
  have hin2 : ¬ (i < 0 ∨ (vp_cell cA (gcvA B ex (n, .inl f))).slots.size ≤ i.toNatClampNeg) := by
    show ¬ (i < 0 ∨ (arrV _ _ _).slots.size ≤ _)
    rw [arrV_size]; exact hin
  have fin : ∀ H' : Heap, H'[B + a]? = some ((vp_cell cA (gcvA B ex (n, .inl f))).setSlot i.toNatClampNeg (.int x)) → H'.size = H.size → (∀ q, q ≠ B + a → H'[q]? = H[q]?) → W p l e R s m args below meth c H' (locs ++ [⟨B + a, i.toNatClampNeg⟩]) cells slots Q (F0 m (pc + 1) ls (r.map (gcv B ex))) := by
    intro H' g1 g2 g3
    refine k ls H' _ cells slots hL (gRH_set hR h9 hz ⟨cA, k1, k2, ?_⟩ g2 g3) (g_locs hl) hc hs
    rw [g1]
    exact congrArg some g_stored
  rcases hty with ⟨rfl, hd⟩ | ⟨rfl, hd, hn⟩ | ⟨rfl, hd, hn⟩
  · exact W.iast hx hb k3 (k1 n (fun j => .int (f j))) (fun q => by cases q) hin2 rfl rfl hd fin
  · refine W.cast hx hb k3 (k1 n (fun j => .int (f j))) (fun q => by cases q) hin2 rfl rfl hd fun H' g1 g2 g3 => fin H' ?_ g2 g3
    rw [g1]
    have e5 : narrow .char (.int x) = .int x := by rw [vp_nar_char] at hn; exact congrArg Value.int hn
    first | rw [e5] | (simp only [narrow] at e5; rw [e5]) | exact congrArg (fun z => some (Cell.setSlot _ _ z)) e5
  · refine W.zast hx hb k3 (k1 n (fun j => .int (f j))) (fun q => by cases q) hin2 rfl rfl hd fun H' g1 g2 g3 => fin H' ?_ g2 g3
    rw [g1]
    rcases hn with rfl | rfl <;> rfl
theorem gs_last {x : Int64} {i : Int32} {a n : Nat} {f : Nat → Int64} (X : gCx p s m args meth c cc nL own nm D ex) (hd : decode cc pc = .ok (.lastore, 1)) (ha : S.2.2 a = .inl (.long, n, .inr (.inl f))) (h9 : a < 1000000000) (hin : ¬ (i < 0 ∨ n ≤ i.toNatClampNeg))
    (k : gG p l e R s m args below meth c Q nL D B ex H0 n0 u0 (pc + 1) L r (S.1, S.2.1, gset S.2.2 a (.inl (.long, n, .inr (.inl (vp_updL f i.toNatClampNeg x)))))) : gG p l e R s m args below meth c Q nL D B ex H0 n0 u0 pc L (.long x :: .int i :: .ref a :: r) S := by
  intro ls H locs cells slots hL hR hl hc hs
  obtain ⟨hx, hb, hml, hown, hts, hnm, hKN⟩ := X
  obtain ⟨hz, hlt0, cA, k1, k2, k3⟩ := g_arr hR ha h9
  have e1 : gcv B ex (.ref a) = .ref (B + a) := by simp [gcv, g_gal h9]
  simp only [List.map_cons, e1]
  refine W.last hx hb k3 (k1 n (fun j => .long (f j))) (fun q => by cases q) (by show ¬ (i < 0 ∨ (arrV _ _ _).slots.size ≤ _); rw [arrV_size]; exact hin) rfl rfl hd fun H' g1 g2 g3 => ?_
  refine k ls H' _ cells slots hL (gRH_set hR h9 hz ⟨cA, k1, k2, ?_⟩ g2 g3) (g_locs hl) hc hs
  rw [g1]
  refine congrArg some ?_
  show (arrV cA n (fun j => .long (f j))).setSlot i.toNatClampNeg (.long x) = arrV cA n (fun j => .long (vp_updL f i.toNatClampNeg x j))
  rw [arrV_store]
  congr 1
  funext q
  by_cases hq : q = i.toNatClampNeg
  · subst hq
    simp [updV, vp_updL]
  · simp [updV, vp_updL, hq]
theorem gs_aast {v : Nat} {i : Int32} {a n ci : Nat} {C : String} {fs : List Value} {f : Nat → Option Nat} (X : gCx p s m args meth c cc nL own nm D ex) (hd : decode cc pc = .ok (.aastore, 1)) (ha : S.2.2 a = .inl (.object C, n, .inr (.inr (.inr (.inr f))))) (hv : S.2.2 v = .inr (ci, fs)) (hC : (gcl[ci]?.map (fun q => q.1)) = some C) (h9 : a < 1000000000) (hin : ¬ (i < 0 ∨ n ≤ i.toNatClampNeg))
    (k : gG p l e R s m args below meth c Q nL D B ex H0 n0 u0 (pc + 1) L r (S.1, S.2.1, gset S.2.2 a (.inl (.object C, n, .inr (.inr (.inr (.inr (va_up f i.toNatClampNeg (some v))))))))) : gG p l e R s m args below meth c Q nL D B ex H0 n0 u0 pc L (.ref v :: .int i :: .ref a :: r) S := by
  intro ls H locs cells slots hL hR hl hc hs
  obtain ⟨hx, hb, hml, hown, hts, hnm, hKN⟩ := X
  obtain ⟨hz, hlt0, cA, k1, k2, k3⟩ := g_arr hR ha h9
  have e1 : gcv B ex (.ref a) = .ref (B + a) := by simp [gcv, g_gal h9]
  cases hq : gcl[ci]? with
  | none => rw [hq] at hC; cases hC
  | some q =>
    rw [hq] at hC
    have hqC : q.1 = C := Option.some.inj hC
    subst hqC
    have hne : S.2.2 v ≠ gz := by
      rw [hv]
      intro h
      simp only [gz, Sum.inr.injEq, Prod.mk.injEq] at h
      rw [h.1] at hq
      simp [gcl] at hq
    have hv9 : v < 1000000000 := by
      rcases Nat.lt_or_ge v 1000000000 with h | h
      · exact h
      · have := hR.2.2.2.2.2 v h hne
        rw [hv] at this
        exact this.elim
    have hvat := hR.2.2.2.2.1 v hv9 hne
    rw [hv] at hvat
    obtain ⟨hvlt, r', hr', hlen', cellV, g1, g2, g3, -⟩ := hvat
    have e4 : gcv B ex (.ref v) = .ref (B + v) := by simp [gcv, g_gal hv9]
    simp only [List.map_cons, e1, e4]
    have hcls := (hKN.1.1 ci q hq).2
    obtain ⟨kA, comp, t1, t2, t3, t4⟩ := k2
    have hcomp : comp = D.1 ci := Option.some.inj (t3.symm.trans hcls.1)
    subst hcomp
    obtain ⟨kC, hkC, -⟩ := hcls.2
    have hlt : i.toNatClampNeg < n := by omega
    have h0 : ¬ i < 0 := fun z => hin (Or.inl z)
    refine W.aast hx hb k3 (fun q h => by cases h) (fun h => by cases h) t1 t2 rfl hkC ⟨h0, by show _ < (arrV _ _ _).slots.size; rw [arrV_size]; exact hlt⟩ g1 (fun q h => by rw [g3] at h; cases h) (by rw [g2]; exact hkC) (by rw [g2]; exact va_assign hcls) rfl rfl hd fun H1 e z oq => ?_
    refine k ls H1 _ cells slots hL (gRH_set hR h9 hz ⟨cA, k1, ⟨kA, _, t1, t2, t3, t4⟩, ?_⟩ z oq) (g_locs hl) hc hs
    rw [e]
    refine congrArg some ?_
    show (arrV cA n (fun j => va_rf ((f j).map (gal B ex)))).setSlot i.toNatClampNeg (.ref (B + v)) = arrV cA n (fun j => va_rf ((va_up f i.toNatClampNeg (some v) j).map (gal B ex)))
    rw [arrV_store]
    congr 1
    funext j
    by_cases hj : j = i.toNatClampNeg
    · subst hj
      simp [updV, va_up, va_rf, g_gal hv9]
    · simp [updV, va_up, hj]
end GSM
end
section
section GSN
variable {p : Program} {l : Launch} {e : Env} {R : Room} {s : State} {m : MethodId} {args : Array Value} {below : List Frame} {meth : Method} {c : Code} {Q : State → Prop}
variable {cc : ByteArray} {nL : Nat} {own nm : String} {D : va_G} {B : Nat} {ex : Nat → Nat} {H0 : Heap} {n0 u0 : Nat} {pc : Nat} {L : gL} {st r : List Value} {S : gS}
theorem g_len {a b : Nat} (h : (a == b) = true) : a = b := by simpa using h
theorem gs_ldc {idx : Nat} {ax : List Nat} {w : Value} (X : gCx p s m args meth c cc nL own nm D ex) (hd : decode cc pc = .ok (.ldc idx, 2)) (hck : gchkK own idx ax w = true) (hck2 : gisL w = false) (hax : ax ≠ []) (k : gG p l e R s m args below meth c Q nL D B ex H0 n0 u0 (pc + 2) L (w :: st) S) : gG p l e R s m args below meth c Q nL D B ex H0 n0 u0 pc L st S := by
  intro ls H locs cells slots hL hR hl hc hs
  obtain ⟨hx, hb, hml, hown, hts, hnm, hKN⟩ := X
  have kk := k ls H locs cells slots hL hR hl hc hs
  cases ax with
  | nil => exact absurd rfl hax
  | cons ps t => cases t with
    | cons a b => cases hck
    | nil => cases w with
      | int v => exact lv_ldc hx hb hown (hts _ (gtb_good hck (gw_const _ _ _))) hd kk
      | long v => cases hck2
      | ref a =>
        have h5 : own = RX4 ∧ ((idx = 64 ∧ a = 2000000001) ∨ (idx = 52 ∧ a = 2000000002)) := of_decide_eq_true hck
        obtain ⟨rfl, h | h⟩ := h5
        · obtain ⟨rfl, rfl⟩ := h
          exact va_ldcS hx hb hown hKN.2.2.2.1 hd kk
        · obtain ⟨rfl, rfl⟩ := h
          exact va_ldcS hx hb hown hKN.2.2.2.2 hd kk
      | float v => cases hck
      | double v => cases hck
      | null => cases hck
      | retAddr v => cases hck
theorem gs_ldcw {idx : Nat} {ax : List Nat} {w : Value} (X : gCx p s m args meth c cc nL own nm D ex) (hd : decode cc pc = .ok (.ldc_w idx, 3)) (hck : gchkK own idx ax w = true) (hck2 : gisI w = true) (hax : ax ≠ []) (k : gG p l e R s m args below meth c Q nL D B ex H0 n0 u0 (pc + 3) L (w :: st) S) : gG p l e R s m args below meth c Q nL D B ex H0 n0 u0 pc L st S := by
  intro ls H locs cells slots hL hR hl hc hs
  obtain ⟨hx, hb, hml, hown, hts, hnm, hKN⟩ := X
  have kk := k ls H locs cells slots hL hR hl hc hs
  cases ax with
  | nil => exact absurd rfl hax
  | cons ps t => cases t with
    | cons a b => cases hck
    | nil => cases w with
      | int v => exact lv_ldcw hx hb hown (hts _ (gtb_good hck (gw_const _ _ _))) hd kk
      | long v => cases hck2
      | ref a => cases hck2
      | float v => cases hck
      | double v => cases hck
      | null => cases hck
      | retAddr v => cases hck
theorem gs_ldc2 {idx : Nat} {ax : List Nat} {w : Value} (X : gCx p s m args meth c cc nL own nm D ex) (hd : decode cc pc = .ok (.ldc2_w idx, 3)) (hck : gchkK own idx ax w = true) (hck2 : gisL w = true) (hax : ax ≠ []) (k : gG p l e R s m args below meth c Q nL D B ex H0 n0 u0 (pc + 3) L (w :: st) S) : gG p l e R s m args below meth c Q nL D B ex H0 n0 u0 pc L st S := by
  intro ls H locs cells slots hL hR hl hc hs
  obtain ⟨hx, hb, hml, hown, hts, hnm, hKN⟩ := X
  have kk := k ls H locs cells slots hL hR hl hc hs
  cases ax with
  | nil => exact absurd rfl hax
  | cons ps t => cases t with
    | cons a b => cases hck
    | nil => cases w with
      | int v => cases hck2
      | long v => exact lv_ldc2 hx hb hown (hts _ (gtb_good hck (gw_constL _ _ _))) hd kk
      | ref a => cases hck2
      | float v => cases hck
      | double v => cases hck
      | null => cases hck
      | retAddr v => cases hck
theorem g_sw {x lo hi : Int} {ax : List Nat} {offs : Array Int} {d : Int} (h1 : (pc : Int) + d = (gax ax 0 : Int)) (h2 : offs.toList.map (fun o => (pc : Int) + o) = ax.tail.map Int.ofNat) (h3 : (offs.size : Int) = hi - lo + 1) :
    (x < lo ∨ hi < x) ∧ gsw x lo hi ax = gax ax 0 ∨ ¬ x < lo ∧ ¬ hi < x ∧ ∃ off, offs[(x - lo).toNat]? = some off ∧ (pc : Int) + off = (gsw x lo hi ax : Int) := by
  by_cases h : x < lo ∨ hi < x
  · exact Or.inl ⟨h, by simp [gsw, h]⟩
  · right
    have hlt : (x - lo).toNat < offs.size := by omega
    refine ⟨fun z => h (Or.inl z), fun z => h (Or.inr z), offs[(x - lo).toNat], by simp [hlt], ?_⟩
    simp only [gsw, h, if_false]
    cases ax with
    | nil =>
      have h4 := congrArg List.length h2
      simp only [List.length_map, Array.length_toList, List.tail_nil, List.length_nil] at h4
      omega
    | cons a t =>
      simp only [List.tail_cons] at h2
      simp only [gax]
      have e1 : (offs.toList.map (fun o => (pc : Int) + o))[(x - lo).toNat]? = some ((pc : Int) + offs[(x - lo).toNat]) := by
        rw [List.getElem?_map]
        simp [hlt]
      rw [h2, List.getElem?_map] at e1
      have key : ∀ (t : List Nat) (n : Nat) (z : Int), Option.map Int.ofNat t[n]? = some z → z = (gax t n : Int) := by
        intro t
        induction t with
        | nil => intro n z h; simp at h
        | cons b t ih =>
          intro n z h
          cases n with
          | zero => simp at h; simp [gax, h]
          | succ n => simp only [List.getElem?_cons_succ] at h; simpa [gax] using ih n z h
      exact key t _ _ e1
set_option maxHeartbeats 4000000 in
theorem gstep_sim {i : Instr} {len : Nat} {ax : List Nat} {w : Value} {o : Nat × gL × List Value × gS} (X : gCx p s m args meth c cc nL own nm D ex) (hst : gstep i len ax w pc L st S = some o) (hd : decode cc pc = .ok (i, len)) (hck : gchk own nm (pc, i, len, ax, w) = true) (hr1 : o.2.2.2.1 ≤ n0 + R.cells) (hr2 : o.2.2.2.2.1 ≤ u0 + R.slots) (k : gG p l e R s m args below meth c Q nL D B ex H0 n0 u0 o.1 o.2.1 o.2.2.1 o.2.2.2) : gG p l e R s m args below meth c Q nL D B ex H0 n0 u0 pc L st S := by
  have X0 := X
  obtain ⟨hx, hb, hml, hown, hts, hnm, hKN⟩ := X0
  cases i
  case iconst n =>
    simp only [gchk, Bool.and_eq_true, decide_eq_true_eq] at hck
    obtain ⟨h1, rfl⟩ := hck
    have h1 := g_len h1
    subst h1
    have ho := gpush_inv hst
    subst ho
    exact fun ls H locs cells slots hL hR hl hc hs => lv_iconst hx hb hd rfl (k ls H locs cells slots hL hR hl hc hs)
  case lconst n =>
    simp only [gchk, Bool.and_eq_true, decide_eq_true_eq] at hck
    obtain ⟨h1, rfl⟩ := hck
    have h1 := g_len h1
    subst h1
    have ho := gpush_inv hst
    subst ho
    exact fun ls H locs cells slots hL hR hl hc hs => lv_lconst hx hb hd rfl (k ls H locs cells slots hL hR hl hc hs)
  case bipush n =>
    simp only [gchk, Bool.and_eq_true, decide_eq_true_eq] at hck
    obtain ⟨h1, rfl⟩ := hck
    have h1 := g_len h1
    subst h1
    have ho := gpush_inv hst
    subst ho
    exact fun ls H locs cells slots hL hR hl hc hs => lv_bipush hx hb hd rfl (k ls H locs cells slots hL hR hl hc hs)
  case sipush n =>
    simp only [gchk, Bool.and_eq_true, decide_eq_true_eq] at hck
    obtain ⟨h1, rfl⟩ := hck
    have h1 := g_len h1
    subst h1
    have ho := gpush_inv hst
    subst ho
    exact fun ls H locs cells slots hL hR hl hc hs => lv_sipush hx hb hd rfl (k ls H locs cells slots hL hR hl hc hs)
  case ldc n =>
    simp only [gchk, Bool.and_eq_true] at hck
    obtain ⟨h1, h2, h3⟩ := hck
    have h1 := g_len h1
    subst h1
    cases ax with
    | nil => cases hst
    | cons a t =>
      have ho := gpush_inv (len := 2) hst
      subst ho
      exact gs_ldc X hd h2 (by simpa using h3) (by simp) k
  case ldc_w n =>
    simp only [gchk, Bool.and_eq_true] at hck
    obtain ⟨h1, h2, h3⟩ := hck
    have h1 := g_len h1
    subst h1
    cases ax with
    | nil => cases hst
    | cons a t =>
      have ho := gpush_inv (len := 3) hst
      subst ho
      exact gs_ldcw X hd h2 h3 (by simp) k
  case ldc2_w n =>
    simp only [gchk, Bool.and_eq_true] at hck
    obtain ⟨h1, h2, h3⟩ := hck
    have h1 := g_len h1
    subst h1
    cases ax with
    | nil => cases hst
    | cons a t =>
      have ho := gpush_inv (len := 3) hst
      subst ho
      exact gs_ldc2 X hd h2 h3 (by simp) k
  case iload_n n =>
    simp only [gchk, Bool.and_eq_true] at hck
    obtain ⟨h1, h2⟩ := hck
    have h1 := g_len h1
    subst h1
    obtain ⟨x, hg, rfl⟩ := giload_inv hst
    exact fun ls H locs cells slots hL hR hl hc hs => lv_iload_n hx hb hd (Nat.eq_of_beq_eq_true h2) (hL.2.2.2 _ _ hg) (k ls H locs cells slots hL hR hl hc hs)
  case lload_n n =>
    simp only [gchk, Bool.and_eq_true] at hck
    obtain ⟨h1, h2⟩ := hck
    have h1 := g_len h1
    subst h1
    obtain ⟨x, hg, rfl⟩ := glload_inv hst
    exact fun ls H locs cells slots hL hR hl hc hs => lv_lload_n hx hb hd (Nat.eq_of_beq_eq_true h2) (hL.2.2.2 _ _ hg) (k ls H locs cells slots hL hR hl hc hs)
  case aload_n n =>
    simp only [gchk, Bool.and_eq_true] at hck
    obtain ⟨h1, h2⟩ := hck
    have h1 := g_len h1
    subst h1
    obtain ⟨x, hg, rfl⟩ := galoadL_inv hst
    exact fun ls H locs cells slots hL hR hl hc hs => lv_aload_n hx hb hd (Nat.eq_of_beq_eq_true h2) (hL.2.2.2 _ _ hg) (k ls H locs cells slots hL hR hl hc hs)
  case iload n =>
    simp only [gchk, Bool.and_eq_true] at hck
    obtain ⟨h1, h2⟩ := hck
    have h1 := g_len h1
    subst h1
    have h2 := Nat.eq_of_beq_eq_true h2
    obtain ⟨x, hg, rfl⟩ := giload_inv hst
    rw [← h2] at hg
    exact fun ls H locs cells slots hL hR hl hc hs => lv_iload hx hb hd (hL.2.2.2 _ _ hg) (k ls H locs cells slots hL hR hl hc hs)
  case lload n =>
    simp only [gchk, Bool.and_eq_true] at hck
    obtain ⟨h1, h2⟩ := hck
    have h1 := g_len h1
    subst h1
    have h2 := Nat.eq_of_beq_eq_true h2
    obtain ⟨x, hg, rfl⟩ := glload_inv hst
    rw [← h2] at hg
    exact fun ls H locs cells slots hL hR hl hc hs => lv_lload hx hb hd (hL.2.2.2 _ _ hg) (k ls H locs cells slots hL hR hl hc hs)
  case aload n =>
    simp only [gchk, Bool.and_eq_true] at hck
    obtain ⟨h1, h2⟩ := hck
    have h1 := g_len h1
    subst h1
    have h2 := Nat.eq_of_beq_eq_true h2
    obtain ⟨x, hg, rfl⟩ := galoadL_inv hst
    rw [← h2] at hg
    exact fun ls H locs cells slots hL hR hl hc hs => lv_aload hx hb hd (hL.2.2.2 _ _ hg) (k ls H locs cells slots hL hR hl hc hs)
  case istore_n n =>
    simp only [gchk, Bool.and_eq_true] at hck
    obtain ⟨h1, h2⟩ := hck
    have h1 := g_len h1
    subst h1
    obtain ⟨x, r, rfl, hok, hlt, rfl⟩ := gistore_inv hst
    exact fun ls H locs cells slots hL hR hl hc hs => lv_istore_n hx hb hd (Nat.eq_of_beq_eq_true h2) (gLR_has hL) (by rw [← hL.2.1]; exact hlt) rfl (fun ls2 hl2 => k ls2 H locs cells slots (gLR_store1 hL hlt hok hl2) hR hl hc hs)
  case astore_n n =>
    simp only [gchk, Bool.and_eq_true] at hck
    obtain ⟨h1, h2⟩ := hck
    have h1 := g_len h1
    subst h1
    obtain ⟨x, r, rfl, hok, hlt, rfl⟩ := gastoreL_inv hst
    exact fun ls H locs cells slots hL hR hl hc hs => lv_astore_n hx hb hd (Nat.eq_of_beq_eq_true h2) (gLR_has hL) (by rw [← hL.2.1]; exact hlt) rfl (fun ls2 hl2 => k ls2 H locs cells slots (gLR_store1 hL hlt hok hl2) hR hl hc hs)
  case lstore_n n =>
    simp only [gchk, Bool.and_eq_true] at hck
    obtain ⟨h1, h2⟩ := hck
    have h1 := g_len h1
    subst h1
    obtain ⟨x, r, rfl, hok, hlt, rfl⟩ := glstore_inv hst
    exact fun ls H locs cells slots hL hR hl hc hs => lv_lstore_n hx hb hd (Nat.eq_of_beq_eq_true h2) (gLR_has hL) (by rw [← hL.2.1]; exact hlt) rfl (fun ls2 hl2 => k ls2 H locs cells slots (gLR_store2 hL hlt hok hl2) hR hl hc hs)
  case istore n =>
    simp only [gchk, Bool.and_eq_true] at hck
    obtain ⟨h1, h2⟩ := hck
    have h1 := g_len h1
    subst h1
    have h2 := Nat.eq_of_beq_eq_true h2
    subst h2
    obtain ⟨x, r, rfl, hok, hlt, rfl⟩ := gistore_inv hst
    exact fun ls H locs cells slots hL hR hl hc hs => lv_istore hx hb hd (gLR_has hL) (by rw [← hL.2.1]; exact hlt) rfl (fun ls2 hl2 => k ls2 H locs cells slots (gLR_store1 hL hlt hok hl2) hR hl hc hs)
  case astore n =>
    simp only [gchk, Bool.and_eq_true] at hck
    obtain ⟨h1, h2⟩ := hck
    have h1 := g_len h1
    subst h1
    have h2 := Nat.eq_of_beq_eq_true h2
    subst h2
    obtain ⟨x, r, rfl, hok, hlt, rfl⟩ := gastoreL_inv hst
    exact fun ls H locs cells slots hL hR hl hc hs => lv_astore hx hb hd (gLR_has hL) (by rw [← hL.2.1]; exact hlt) rfl (fun ls2 hl2 => k ls2 H locs cells slots (gLR_store1 hL hlt hok hl2) hR hl hc hs)
  case lstore n =>
    simp only [gchk, Bool.and_eq_true] at hck
    obtain ⟨h1, h2⟩ := hck
    have h1 := g_len h1
    subst h1
    have h2 := Nat.eq_of_beq_eq_true h2
    subst h2
    obtain ⟨x, r, rfl, hok, hlt, rfl⟩ := glstore_inv hst
    exact fun ls H locs cells slots hL hR hl hc hs => lv_lstore hx hb hd (gLR_has hL) (by rw [← hL.2.1]; exact hlt) rfl (fun ls2 hl2 => k ls2 H locs cells slots (gLR_store2 hL hlt hok hl2) hR hl hc hs)
  case iinc n z =>
    simp only [gchk, Bool.and_eq_true, decide_eq_true_eq] at hck
    obtain ⟨h1, h2, rfl⟩ := hck
    have h1 := g_len h1
    subst h1
    have h2 := Nat.eq_of_beq_eq_true h2
    subst h2
    obtain ⟨x, y, hg, hw, hok, hlt, rfl⟩ := giinc_inv hst
    cases hw
    intro ls H locs cells slots hL hR hl hc hs
    have hm : (gax ax 0, Value.int x) ∈ gpl B ex 0 L := (mem_gpl L 0 _ _).mpr ⟨gax ax 0, .int x, by omega, hg, rfl⟩
    obtain ⟨kq, hkq⟩ := List.getElem?_of_mem hm
    exact lv_iinc hx hb hd (gLR_has hL) hkq rfl (by rw [← hL.2.1]; exact hlt) rfl (fun ls2 hl2 => k ls2 H locs cells slots (gLR_store1 hL hlt hok hl2) hR hl hc hs)
  case iadd =>
    have h1 := g_len hck
    subst h1
    obtain ⟨x, y, r, rfl, rfl⟩ := gii_inv hst
    exact fun ls H locs cells slots hL hR hl hc hs => lv_iadd hx hb hd (k ls H locs cells slots hL hR hl hc hs)
  case isub =>
    have h1 := g_len hck
    subst h1
    obtain ⟨x, y, r, rfl, rfl⟩ := gii_inv hst
    exact fun ls H locs cells slots hL hR hl hc hs => lv_isub hx hb hd (k ls H locs cells slots hL hR hl hc hs)
  case imul =>
    have h1 := g_len hck
    subst h1
    obtain ⟨x, y, r, rfl, rfl⟩ := gii_inv hst
    exact fun ls H locs cells slots hL hR hl hc hs => lv_imul hx hb hd (k ls H locs cells slots hL hR hl hc hs)
  case iand =>
    have h1 := g_len hck
    subst h1
    obtain ⟨x, y, r, rfl, rfl⟩ := gii_inv hst
    exact fun ls H locs cells slots hL hR hl hc hs => lv_iand hx hb hd (k ls H locs cells slots hL hR hl hc hs)
  case ior =>
    have h1 := g_len hck
    subst h1
    obtain ⟨x, y, r, rfl, rfl⟩ := gii_inv hst
    exact fun ls H locs cells slots hL hR hl hc hs => lv_ior hx hb hd (k ls H locs cells slots hL hR hl hc hs)
  case ixor =>
    have h1 := g_len hck
    subst h1
    obtain ⟨x, y, r, rfl, rfl⟩ := gii_inv hst
    exact fun ls H locs cells slots hL hR hl hc hs => lv_ixor hx hb hd (k ls H locs cells slots hL hR hl hc hs)
  case ishl =>
    have h1 := g_len hck
    subst h1
    obtain ⟨x, y, r, rfl, rfl⟩ := gii_inv hst
    exact fun ls H locs cells slots hL hR hl hc hs => lv_ishl hx hb hd (k ls H locs cells slots hL hR hl hc hs)
  case ishr =>
    have h1 := g_len hck
    subst h1
    obtain ⟨x, y, r, rfl, rfl⟩ := gii_inv hst
    exact fun ls H locs cells slots hL hR hl hc hs => lv_ishr hx hb hd (k ls H locs cells slots hL hR hl hc hs)
  case iushr =>
    have h1 := g_len hck
    subst h1
    obtain ⟨x, y, r, rfl, rfl⟩ := gii_inv hst
    exact fun ls H locs cells slots hL hR hl hc hs => lv_iushr hx hb hd rfl (k ls H locs cells slots hL hR hl hc hs)
  case ladd =>
    have h1 := g_len hck
    subst h1
    obtain ⟨x, y, r, rfl, rfl⟩ := gll_inv hst
    exact fun ls H locs cells slots hL hR hl hc hs => lv_ladd hx hb hd (k ls H locs cells slots hL hR hl hc hs)
  case lsub =>
    have h1 := g_len hck
    subst h1
    obtain ⟨x, y, r, rfl, rfl⟩ := gll_inv hst
    exact fun ls H locs cells slots hL hR hl hc hs => lv_lsub hx hb hd (k ls H locs cells slots hL hR hl hc hs)
  case lmul =>
    have h1 := g_len hck
    subst h1
    obtain ⟨x, y, r, rfl, rfl⟩ := gll_inv hst
    exact fun ls H locs cells slots hL hR hl hc hs => lv_lmul hx hb hd (k ls H locs cells slots hL hR hl hc hs)
  case land =>
    have h1 := g_len hck
    subst h1
    obtain ⟨x, y, r, rfl, rfl⟩ := gll_inv hst
    exact fun ls H locs cells slots hL hR hl hc hs => lv_land hx hb hd (k ls H locs cells slots hL hR hl hc hs)
  case lor =>
    have h1 := g_len hck
    subst h1
    obtain ⟨x, y, r, rfl, rfl⟩ := gll_inv hst
    exact fun ls H locs cells slots hL hR hl hc hs => lv_lor hx hb hd (k ls H locs cells slots hL hR hl hc hs)
  case lshl =>
    have h1 := g_len hck
    subst h1
    obtain ⟨x, y, r, rfl, rfl⟩ := gli_inv hst
    exact fun ls H locs cells slots hL hR hl hc hs => lv_lshl hx hb hd rfl (k ls H locs cells slots hL hR hl hc hs)
  case lshr =>
    have h1 := g_len hck
    subst h1
    obtain ⟨x, y, r, rfl, rfl⟩ := gli_inv hst
    exact fun ls H locs cells slots hL hR hl hc hs => lv_lshr hx hb hd rfl (k ls H locs cells slots hL hR hl hc hs)
  case lushr =>
    have h1 := g_len hck
    subst h1
    obtain ⟨x, y, r, rfl, rfl⟩ := gli_inv hst
    exact fun ls H locs cells slots hL hR hl hc hs => lv_lushr hx hb hd rfl (k ls H locs cells slots hL hR hl hc hs)
  case idiv =>
    have h1 := g_len hck
    subst h1
    simp only [gstep] at hst
    split at hst
    · split at hst
      · cases hst
      · rename_i hne
        cases hst
        exact fun ls H locs cells slots hL hR hl hc hs => lv_idiv hx hb hd hne (k ls H locs cells slots hL hR hl hc hs)
    · cases hst
  case irem =>
    have h1 := g_len hck
    subst h1
    simp only [gstep] at hst
    split at hst
    · split at hst
      · cases hst
      · rename_i hne
        cases hst
        exact fun ls H locs cells slots hL hR hl hc hs => lv_irem hx hb hd hne (k ls H locs cells slots hL hR hl hc hs)
    · cases hst
  case ldiv =>
    have h1 := g_len hck
    subst h1
    simp only [gstep] at hst
    split at hst
    · split at hst
      · cases hst
      · rename_i hne
        cases hst
        exact fun ls H locs cells slots hL hR hl hc hs => lv_ldiv hx hb hd hne (k ls H locs cells slots hL hR hl hc hs)
    · cases hst
  case lcmp =>
    have h1 := g_len hck
    subst h1
    simp only [gstep] at hst
    split at hst
    · cases hst
      exact fun ls H locs cells slots hL hR hl hc hs => W.lcmp hx hb hd (k ls H locs cells slots hL hR hl hc hs)
    · cases hst
  case i2l =>
    have h1 := g_len hck
    subst h1
    simp only [gstep] at hst
    split at hst
    · cases hst
      exact fun ls H locs cells slots hL hR hl hc hs => lv_i2l hx hb hd rfl (k ls H locs cells slots hL hR hl hc hs)
    · cases hst
  case l2i =>
    have h1 := g_len hck
    subst h1
    simp only [gstep] at hst
    split at hst
    · cases hst
      exact fun ls H locs cells slots hL hR hl hc hs => lv_l2i hx hb hd rfl (k ls H locs cells slots hL hR hl hc hs)
    · cases hst
  case i2c =>
    have h1 := g_len hck
    subst h1
    simp only [gstep] at hst
    split at hst
    · cases hst
      exact fun ls H locs cells slots hL hR hl hc hs => lv_i2c hx hb hd rfl (k ls H locs cells slots hL hR hl hc hs)
    · cases hst
  case dup =>
    have h1 := g_len hck
    subst h1
    simp only [gstep] at hst
    split at hst
    · cases hst
      exact fun ls H locs cells slots hL hR hl hc hs => lv_dup hx hb hd rfl (k ls H locs cells slots hL hR hl hc hs)
    · cases hst
      exact fun ls H locs cells slots hL hR hl hc hs => lv_dup hx hb hd rfl (k ls H locs cells slots hL hR hl hc hs)
    · cases hst
  case dup2 =>
    have h1 := g_len hck
    subst h1
    simp only [gstep] at hst
    split at hst
    · cases hst
      exact fun ls H locs cells slots hL hR hl hc hs => lv_dup2_11 hx hb hd rfl rfl (k ls H locs cells slots hL hR hl hc hs)
    · cases hst
  case ifCond cn off =>
    simp only [gchk, Bool.and_eq_true, decide_eq_true_eq] at hck
    obtain ⟨h1, h2⟩ := hck
    have h1 := g_len h1
    subst h1
    simp only [gstep] at hst
    split at hst
    · cases hst
      intro ls H locs cells slots hL hR hl hc hs
      have kk := k ls H locs cells slots hL hR hl hc hs
      cases cn
      · exact lv_if_eq hx hb hd h2 (fun hq => by simpa only [gbr, if_pos hq] using kk) (fun hq => by simpa only [gbr, if_neg hq] using kk)
      · exact lv_if_ne hx hb hd h2 (fun hq => by simpa only [gbr, if_pos hq] using kk) (fun hq => by simpa only [gbr, if_neg (not_not_intro hq)] using kk)
      · exact lv_if_lt hx hb hd h2 (fun hq => by simpa only [gbr, if_pos hq] using kk) (fun hq => by simpa only [gbr, if_neg hq] using kk)
      · exact lv_if_ge hx hb hd h2 (fun hq => by simpa only [gbr, if_pos hq] using kk) (fun hq => by simpa only [gbr, if_neg hq] using kk)
      · exact lv_if_gt hx hb hd h2 (fun hq => by simpa only [gbr, if_pos hq] using kk) (fun hq => by simpa only [gbr, if_neg hq] using kk)
      · exact lv_if_le hx hb hd h2 (fun hq => by simpa only [gbr, if_pos hq] using kk) (fun hq => by simpa only [gbr, if_neg hq] using kk)
    · cases hst
  case if_icmp cn off =>
    simp only [gchk, Bool.and_eq_true, decide_eq_true_eq] at hck
    obtain ⟨h1, h2⟩ := hck
    have h1 := g_len h1
    subst h1
    simp only [gstep] at hst
    split at hst
    · cases hst
      intro ls H locs cells slots hL hR hl hc hs
      have kk := k ls H locs cells slots hL hR hl hc hs
      cases cn
      · exact lv_icmp_eq hx hb hd h2 (fun hq => by simpa only [gbr, if_pos hq] using kk) (fun hq => by simpa only [gbr, if_neg hq] using kk)
      · exact lv_icmp_ne hx hb hd h2 (fun hq => by simpa only [gbr, if_pos hq] using kk) (fun hq => by simpa only [gbr, if_neg (not_not_intro hq)] using kk)
      · exact lv_icmp_lt hx hb hd h2 (fun hq => by simpa only [gbr, if_pos hq] using kk) (fun hq => by simpa only [gbr, if_neg hq] using kk)
      · exact lv_icmp_ge hx hb hd h2 (fun hq => by simpa only [gbr, if_pos hq] using kk) (fun hq => by simpa only [gbr, if_neg hq] using kk)
      · exact lv_icmp_gt hx hb hd h2 (fun hq => by simpa only [gbr, if_pos hq] using kk) (fun hq => by simpa only [gbr, if_neg hq] using kk)
      · exact lv_icmp_le hx hb hd h2 (fun hq => by simpa only [gbr, if_pos hq] using kk) (fun hq => by simpa only [gbr, if_neg hq] using kk)
    · cases hst
  case goto off =>
    simp only [gchk, Bool.and_eq_true, decide_eq_true_eq] at hck
    obtain ⟨h1, h2⟩ := hck
    have h1 := g_len h1
    subst h1
    cases hst
    exact fun ls H locs cells slots hL hR hl hc hs => lv_goto hx hb hd h2 (k ls H locs cells slots hL hR hl hc hs)
  case tableswitch d lo hi offs =>
    simp only [gchk, Bool.and_eq_true, decide_eq_true_eq] at hck
    obtain ⟨⟨h1, h2⟩, h3⟩ := hck
    simp only [gstep] at hst
    split at hst
    · rename_i x r
      cases hst
      intro ls H locs cells slots hL hR hl hc hs
      have kk := k ls H locs cells slots hL hR hl hc hs
      rcases g_sw (x := x.toInt) h1 h2 h3 with ⟨ho, he⟩ | ⟨ho1, ho2, off, he1, he2⟩
      · dsimp only at kk
        rw [he] at kk
        exact lv_tableOut hx hb hd ho h1 kk
      · exact lv_tableIn hx hb hd ho1 ho2 he1 he2 kk
    · cases hst
  case getfield idx =>
    simp only [gstep] at hst
    split at hst
    · rename_i ci sl ne ps
      have hc2 : gchkF own nm false idx len [ci, sl, ne, ps] = true := hck
      have h1 : len = 3 := by simp only [gchkF, Bool.and_eq_true] at hc2; exact g_len hc2.1
      subst h1
      obtain ⟨a, r, fs, v, rfl, ha, hv, rfl⟩ := gget_inv hst
      exact gs_get X hd hc2 ha hv k
    · cases hst
  case putfield idx =>
    simp only [gstep] at hst
    split at hst
    · rename_i ci sl ne ps
      have hc2 : gchkF own nm true idx len [ci, sl, ne, ps] = true := hck
      have h1 : len = 3 := by simp only [gchkF, Bool.and_eq_true] at hc2; exact g_len hc2.1
      subst h1
      obtain ⟨v, a, r, fs, rfl, ha, hs2, hf, rfl⟩ := gput_inv hst
      exact gs_put X hd hc2 ha hs2 hf k
    · cases hst
  case new idx =>
    simp only [gstep] at hst
    split at hst
    · rename_i ci ps
      obtain ⟨q, hq, hn, rfl⟩ := gnew_inv hst
      simp only [gchk, hq, Bool.and_eq_true] at hck
      have h1 := g_len hck.1
      subst h1
      exact gs_new X hd hq hck.2 hn hr1 hr2 k
    · cases hst
  case anewarray idx =>
    simp only [gstep] at hst
    split at hst
    · rename_i ci ps
      obtain ⟨n, r, q, rfl, h0, h9, hn, hq, rfl⟩ := gnewq_inv hst
      simp only [gchk, hq, Bool.and_eq_true, decide_eq_true_eq] at hck
      have h1 := g_len hck.1
      subst h1
      exact gs_newq X hd hck.2.1 hck.2.2 h0 h9 hn hr1 hr2 k
    · cases hst
  case newarray t =>
    simp only [gstep, gnewa] at hst
    split at hst
    · rename_i n r
      split at hst
      · cases hst
      · rename_i hcn
        have h0 : ¬ n < 0 := fun z => hcn (Or.inl z)
        have h9 : n.toNatClampNeg ≤ 1000000 := by omega
        have hn : S.1 < 1000000 := by omega
        simp only [gchk, Bool.and_eq_true] at hck
        obtain ⟨h1, h2⟩ := hck
        have h1 := g_len h1
        subst h1
        split at h2
        · split at hst
          · cases hst
            exact gs_newa X hd h2 rfl (fun _ _ h => h) (fun _ => rfl) h0 h9 (by decide) hn hr1 hr2 k
          · cases hst
            exact gs_newa X hd h2 rfl (fun _ _ h => h) (fun _ => rfl) h0 h9 (by decide) hn hr1 hr2 k
          · cases hst
            exact gs_newa X hd h2 rfl (fun _ _ h => h) (fun _ => rfl) h0 h9 (by decide) hn hr1 hr2 k
          · cases hst
            exact gs_newa X hd h2 rfl (fun _ _ h => h) (fun _ => rfl) h0 h9 (by decide) hn hr1 hr2 k
          · cases hst
        · cases h2
    · cases hst
  case iaload =>
    have h1 := g_len hck
    subst h1
    obtain ⟨i, a, r, n, f, rfl, ha, hin, rfl⟩ := giald_inv hst
    exact gs_iald X (Or.inl ⟨rfl, hd⟩) ha hin k
  case caload =>
    have h1 := g_len hck
    subst h1
    obtain ⟨i, a, r, n, f, rfl, ha, hin, rfl⟩ := giald_inv hst
    exact gs_iald X (Or.inr (Or.inl ⟨rfl, hd⟩)) ha hin k
  case baload =>
    have h1 := g_len hck
    subst h1
    obtain ⟨i, a, r, t, n, f, rfl, ht, ha, hin, rfl⟩ := gbald_inv hst
    rcases ht with rfl | rfl
    · exact gs_iald X (Or.inr (Or.inr (Or.inl ⟨rfl, hd⟩))) ha hin k
    · exact gs_iald X (Or.inr (Or.inr (Or.inr ⟨rfl, hd⟩))) ha hin k
  case laload =>
    have h1 := g_len hck
    subst h1
    obtain ⟨i, a, r, n, f, rfl, ha, hin, rfl⟩ := glald_inv hst
    exact gs_lald X hd ha hin k
  case aaload =>
    have h1 := g_len hck
    subst h1
    obtain ⟨i, a, r, C, n, f, rfl, ha, hin, rfl⟩ := gaald_inv hst
    exact gs_aald X hd ha hin k
  case iastore =>
    have h1 := g_len hck
    subst h1
    obtain ⟨x, i, a, r, n, f, rfl, ha, hin, hok, h9, rfl⟩ := giast_inv hst
    exact gs_iast X (Or.inl ⟨rfl, hd⟩) ha h9 hin k
  case castore =>
    have h1 := g_len hck
    subst h1
    obtain ⟨x, i, a, r, n, f, rfl, ha, hin, hok, h9, rfl⟩ := giast_inv hst
    exact gs_iast X (Or.inr (Or.inl ⟨rfl, hd, hok⟩)) ha h9 hin k
  case bastore =>
    have h1 := g_len hck
    subst h1
    obtain ⟨x, i, a, r, n, f, rfl, ha, hin, hok, h9, rfl⟩ := giast_inv hst
    exact gs_iast X (Or.inr (Or.inr ⟨rfl, hd, hok⟩)) ha h9 hin k
  case lastore =>
    have h1 := g_len hck
    subst h1
    obtain ⟨x, i, a, r, n, f, rfl, ha, hin, h9, rfl⟩ := glast_inv hst
    exact gs_last X hd ha h9 hin k
  case aastore =>
    have h1 := g_len hck
    subst h1
    obtain ⟨v, i, a, r, C, n, f, ci, fs, rfl, ha, hv, hC, hin, h9, rfl⟩ := gaast_inv hst
    exact gs_aast X hd ha hv hC h9 hin k
  case arraylength =>
    have h1 := g_len hck
    subst h1
    obtain ⟨a, r, t, n, x, rfl, ha, rfl⟩ := galen_inv hst
    exact gs_alen X hd ha k
  all_goals (have h9 : (none : gO) = some o := hst; cases h9)
end GSN
end
section
/-! ===== calls ===== -/
def gchkJ (MT : List gR) (own : String) (kd idx len : Nat) (ax : List Nat) : Bool := match ax with
  | [j, na, ne, ps, p1, p2] => len == 3 && (match MT[j]? with
    | none => false
    | some cr => (bif Nat.beq ne 0 then gtb ps (.methodLink own idx cr.1) else gtb ps (.methodLinkNest own idx cr.1 RX9)) && (decide ((parseMethodDescriptor cr.1.desc).map (fun d => d.parameters.length) = some (na - (if kd = 0 then 0 else 1))) && (decide ((kd = 0 ∨ 1 ≤ na) ∧ cr.1.name ≠ "law") &&
      (match kd with
        | 0 => gtb p1 (.static cr.1)
        | 1 => gtb p1 (.instanceMethod cr.1) && decide (lw_tbl[p2]? = some (.selects cr.1.cls cr.1 cr.1))
        | _ => gtb p1 (.instanceMethod cr.1) && decide (cr.1.name = "<init>" ∧ cr.2.2.2.1 = none)))))
  | _ => false
def gchkB (own : String) (kd idx len : Nat) (ax : List Nat) : Bool := match ax with
  | [j, na, ne, ps, _, _] => len == 3 && (decide ((j, kd, na, ne) ∈ [(1000, 2, 1, 0), (1001, 1, 2, 0), (1002, 1, 2, 0), (1003, 0, 4, 0), (1004, 0, 2, 0), (1005, 0, 2, 0)]) && gtb ps (.methodLink own idx (match j with
    | 1000 => objectInit
    | 1001 => ⟨"java/lang/String", "charAt", "(I)C"⟩
    | 1002 => ⟨"java/lang/String", "indexOf", "(I)I"⟩
    | 1004 => ⟨"java/lang/Math", "max", "(II)I"⟩
    | 1005 => ⟨"java/lang/Math", "min", "(II)I"⟩
    | _ => ⟨"GiftShopsLaw", "look", "(LGiftShops;II[J)I"⟩)))
  | _ => false
def gchkA (MT : List gR) (own : String) (kd idx len : Nat) (ax : List Nat) : Bool := match ax with
  | [] => true
  | j :: r => bif Nat.ble 1000 j then gchkB own kd idx len (j :: r) else gchkJ MT own kd idx len (j :: r)
def gchkI (MT : List gR) (own : String) (q : Nat × gI) : Bool := match q with
  | (_, i, len, ax, _) => match i with
    | .invokevirtual idx => gchkA MT own 1 idx len ax
    | .invokespecial idx => gchkA MT own 2 idx len ax
    | .invokestatic idx => gchkA MT own 0 idx len ax
    | _ => true
def gMOK (MT : List gR) (row : gR) : Prop := (row.1.name ≠ "law" → Cond.code row.1 row.2.1 row.2.2.1 row.2.2.2.1 ∈ gGW) ∧ Cond.initialized row.1.cls ∈ gGW ∧ plainName row.1.cls = true ∧ (row.1.cls ≠ "java/lang/invoke/MethodHandle" ∧ row.1.cls ≠ "java/lang/invoke/VarHandle") ∧ (∀ q ∈ row.2.2.2.2, decode row.2.1 q.1 = .ok (q.2.1, q.2.2.1)) ∧ (∀ q ∈ row.2.2.2.2, gchk row.1.cls row.1.name q = true) ∧ (∀ q ∈ row.2.2.2.2, gchkI MT row.1.cls q = true) ∧ row.2.2.1 ≤ 20
theorem glook_mem : ∀ {code : List (Nat × gI)} {pc : Nat} {i : gI}, glook code pc = some i → (pc, i) ∈ code := by
  intro code
  induction code with
  | nil => intro pc i h; cases h
  | cons q r ih =>
    intro pc i h
    simp only [glook] at h
    cases hb : Nat.beq q.1 pc with
    | true =>
      rw [hb] at h
      simp only [cond_true] at h
      have e : q.1 = pc := Nat.eq_of_beq_eq_true hb
      subst e
      cases h
      exact List.mem_cons_self
    | false =>
      rw [hb] at h
      exact List.mem_cons_of_mem _ (ih h)
def gPc (D : va_G) (B : Nat) (ex : Nat → Nat) (H0 : Heap) (as : List Value) (S : gS) : Array Value → State → Prop := fun a U => a = (as.map (gcv B ex)).toArray ∧ gKN D ex U ∧ gRH D U B ex H0 S U.heap
def gQc (D : va_G) (B : Nat) (ex : Nat → Nat) (H0 : Heap) (v : Option Value) (S' : gS) : Array Value → State → Outcome → State → Prop := fun _ _ o t => o = .returned (v.map (gcv B ex)) ∧ gRH D t B ex H0 S' t.heap
def grm (d : Nat) (S S' : gS) : Room := { frames := d, cells := S'.1 - S.1, slots := S'.2.1 - S.2.1, locals := 40 * d }
def gws (row : gR) : List Cond := .code row.1 row.2.1 row.2.2.1 row.2.2.2.1 :: gGW
def gMet (l : Launch) (D : va_G) (B : Nat) (ex : Nat → Nat) (H0 : Heap) (d : Nat) (row : gR) (as : List Value) (S : gS) (v : Option Value) (S' : gS) : Prop := Met l row.1 (gws row) (grm d S S') (gPc D B ex H0 as S) (gQc D B ex H0 v S') (S'.1 - S.1) (S'.2.1 - S.2.1) (fun q => B ≤ q)
theorem gPc_blind {D : va_G} {B : Nat} {ex : Nat → Nat} {H0 : Heap} {as : List Value} {S : gS} : FrameBlind (gPc D B ex H0 as S) := by
  intro a U g mk h
  obtain ⟨h1, h2, h3⟩ := h
  exact ⟨h1, gKN_warm (s := U) (U := U.calling g mk a) (State.WarmedH.refl U) h2, gRH_moved (u := U) (U := U.calling g mk a) (Vm.Alike.refl U.vm) h3⟩
theorem gGW_good {w : Cond} (h : w ∈ gGW) : (w.onTables && w.keeps) = true ∨ ∃ ty, w = .arrayClass ty := good_of_word (List.mem_filter.mp h).2
theorem gws_good {row : gR} (h : Cond.code row.1 row.2.1 row.2.2.1 row.2.2.2.1 ∈ gGW) : GoodIn gGW (gws row) := by
  intro w hw
  rcases List.mem_cons.mp hw with rfl | hw
  · exact ⟨h, gGW_good h⟩
  · exact ⟨hw, gGW_good hw⟩
section GCL
variable {p : Program} {l : Launch} {e : Env} {R : Room} {s : State} {m : MethodId} {args : Array Value} {below : List Frame} {meth : Method} {c : Code} {Q : State → Prop}
variable {cc : ByteArray} {nL : Nat} {own nm : String} {D : va_G} {B : Nat} {ex : Nat → Nat} {H0 : Heap} {n0 u0 : Nat} {pc : Nat} {L : gL} {st r : List Value} {S : gS}
theorem g_callX {H : Heap} {locs : List Loc} {cells slots mc ms : Nat} {ls : Array Slot} {st0 rest : List Value} {free : Addr → Prop} {Qa : State → Outcome → State → Prop} (hr : va_Run p l e R s m args below meth c H locs cells slots mc ms (F0 m pc ls st0) rest Qa free)
    (kk : ∀ (v : Option Value) (st₀ t : State) (L : List Loc), st₀.heap = H → s.vm.Alike t.vm → (∀ q ∈ L, free q.base) → Qa st₀ (.returned v) t → W p l e R s m args below meth c t.heap (locs ++ L) (cells + mc) (slots + ms) Q (F0 m (pc + 3) ls (v.toList ++ rest))) : W p l e R s m args below meth c H locs cells slots Q (F0 m pc ls st0) := by
  intro T hT X
  obtain ⟨v, st₀, t, T', L, h0, X', hL, e1, e2, hq, st⟩ := hr T hT X
  obtain ⟨t2, a1, b1⟩ := kk v st₀ t L h0 (by rw [← e2]; exact X'.warmed.alike) hL hq T' e1 X'
  exact ⟨t2, st t2 a1, b1⟩
theorem gcat_cv (st : List Value) : ((st.map (gcv B ex)).map (fun v => v.category)).sum = gcat st := by
  rw [List.map_map]
  have : (fun v => Value.category v) ∘ gcv B ex = fun v => v.category := by funext v; exact gcv_cat B ex v
  rw [this]; rfl
theorem g_mapval (v : Option Value) : (v.map (gcv B ex)).toList = v.toList.map (gcv B ex) := by cases v <;> rfl
/-- a call of an own method, by its contract -/
theorem gs_call {MT : List gR} {i : Instr} {kd idx j na d : Nat} {ax : List Nat} {cr : gR} {v1 : Option Value} {S1 : gS} (X : gCx p s m args meth c cc nL own nm D ex) (hi : (kd = 1 ∧ i = .invokevirtual idx) ∨ (kd = 2 ∧ i = .invokespecial idx) ∨ (kd = 0 ∧ i = .invokestatic idx)) (hd : decode cc pc = .ok (i, 3)) (hj : MT[j]? = some cr) (hck : gchkJ MT own kd idx 3 (j :: na :: ax) = true) (hok : gMOK MT cr)
    (hna : na ≤ st.length) (hcat : gcat (st.drop na) ≤ 8) (hkind : gkind i S cr.1.cls (st.take na).reverse) (hM : gMet l D B ex H0 d cr (st.take na).reverse S v1 S1) (hm1 : S.1 ≤ S1.1) (hm2 : S.2.1 ≤ S1.2.1) (hdr : d + 1 ≤ R.frames) (hdl : 40 * (d + 1) ≤ R.locals) (hr1 : S1.1 ≤ n0 + R.cells) (hr2 : S1.2.1 ≤ u0 + R.slots)
    (k : gG p l e R s m args below meth c Q nL D B ex H0 n0 u0 (pc + 3) L (v1.toList ++ st.drop na) S1) : gG p l e R s m args below meth c Q nL D B ex H0 n0 u0 pc L st S := by
  intro ls H locs cells slots hL hR hl hc hs
  obtain ⟨hx, hb, hml, hown, hts, hnm, hKN⟩ := X
  obtain ⟨hcode0, hini, hpl, hMH, -, -, -, hmax⟩ := hok
  have hst : st.map (gcv B ex) = ((st.take na).reverse.map (gcv B ex)).reverse ++ (st.drop na).map (gcv B ex) := by
    rw [List.map_reverse, List.reverse_reverse, ← List.map_append, List.take_append_drop]
  have hroom : 2 * (F0 m pc ls (st.map (gcv B ex))).monitorRoom + (((st.drop na).map (gcv B ex)).map fun v => v.category).sum ≤ 8 := lv_room (by rw [gcat_cv]; exact hcat)
  have hlen9 : (st.take na).length = na := by rw [List.length_take]; omega
  have kk : ∀ (v : Option Value) (st₀ t : State) (L1 : List Loc), st₀.heap = H → s.vm.Alike t.vm → (∀ q ∈ L1, B ≤ q.base) → gQc D B ex H0 v1 S1 (((st.take na).reverse.map (gcv B ex)).toArray) st₀ (.returned v) t → W p l e R s m args below meth c t.heap (locs ++ L1) (cells + (S1.1 - S.1)) (slots + (S1.2.1 - S.2.1)) Q (F0 m (pc + 3) ls (v.toList ++ (st.drop na).map (gcv B ex))) := by
    intro v st₀ t L1 h0 hal hL1 hq
    obtain ⟨h1, h2⟩ := hq
    cases h1
    have k1 := k ls t.heap (locs ++ L1) (cells + (S1.1 - S.1)) (slots + (S1.2.1 - S.2.1)) hL (gRH_moved hal.symm h2) (fun q hq => (List.mem_append.mp hq).elim (hl q) (hL1 q)) (by omega) (by omega)
    rw [List.map_append] at k1
    rw [g_mapval]
    exact k1
  have hpre : ∀ U : State, U.heap = H → s.WarmedH U.vm → gPc D B ex H0 (st.take na).reverse S ((st.take na).reverse.map (gcv B ex)).toArray U := fun U hU hW => ⟨rfl, gKN_warm hW hKN, by rw [hU]; exact gRH_moved hW.alike hR⟩
  unfold gchkJ at hck
  split at hck
  case h_2 => cases hck
  rename_i j2 na2 ne ps p1 p2 heq
  cases heq
  rw [hj] at hck
  simp only [Bool.and_eq_true, decide_eq_true_eq, beq_self_eq_true, true_and] at hck
  obtain ⟨hlk, hpar, hk1, hkd⟩ := hck
  have hcode := hcode0 hk1.2
  have hRR : (grm d S S1).frames + 1 ≤ R.frames ∧ 8 + (cr.2.2.1 + 11) + (grm d S S1).locals ≤ R.locals := ⟨hdr, by show 8 + (cr.2.2.1 + 11) + 40 * d ≤ R.locals; omega⟩
  have hF : CallFix p m c cc nL s args gGW own := ⟨hx, hb, hml, hown, hts⟩
  have hf2 : cells + (S1.1 - S.1) ≤ R.cells ∧ slots + (S1.2.1 - S.2.1) ≤ R.slots := ⟨by omega, by omega⟩
  rw [hst]
  rcases hi with ⟨rfl, rfl⟩ | ⟨rfl, rfl⟩ | ⟨rfl, rfl⟩
  · -- invokevirtual
    simp only [Nat.one_ne_zero, if_false] at hpar
    simp only [Bool.and_eq_true, decide_eq_true_eq] at hkd
    obtain ⟨hin, hsel⟩ := hkd
    have hselw : Cond.selects cr.1.cls cr.1 cr.1 ∈ gGW := List.mem_filter.mpr ⟨List.mem_of_getElem? hsel, rfl⟩
    have hin2 := hts _ (gtb_good hin rfl)
    have hsel2 := hts _ hselw
    simp only [gkind] at hkind
    cases has : (st.take na).reverse with
    | nil => rw [has] at hkind; exact hkind.elim
    | cons a0 as =>
      rw [has] at hkind hM kk hpre
      cases a0 with
      | ref a =>
        simp only [grcv] at hkind
        have hlen2 : as.length = na - 1 := by
          have := congrArg List.length has
          rw [List.length_reverse, hlen9] at this
          simp at this
          omega
        cases hcell : S.2.2 a with
        | inl x => rw [hcell] at hkind; exact hkind.elim
        | inr x =>
          obtain ⟨ci, fs⟩ := x
          rw [hcell] at hkind
          simp only at hkind
          cases hq : gcl[ci]? with
          | none => rw [hq] at hkind; cases hkind
          | some q =>
            rw [hq] at hkind
            have hqC : q.1 = cr.1.cls := Option.some.inj hkind
            have hne : S.2.2 a ≠ gz := by
              rw [hcell]
              intro h
              simp only [gz, Sum.inr.injEq, Prod.mk.injEq] at h
              rw [h.1] at hq
              simp [gcl] at hq
            have h9 : a < 1000000000 := by
              rcases Nat.lt_or_ge a 1000000000 with h | h
              · exact h
              · have := hR.2.2.2.2.2 a h hne
                rw [hcell] at this
                exact this.elim
            have hat := hR.2.2.2.2.1 a h9 hne
            rw [hcell] at hat
            obtain ⟨-, r', hr', -, cellB, g1, g2, g3, -⟩ := hat
            have hrecv : ∃ cellB : Cell, H[B + a]? = some cellB ∧ cellB.vm.isStatics = false ∧ s.vm.findClass cr.1.cls = some cellB.cls := ⟨cellB, g1, by rw [g3]; rfl, by rw [g2, ← hqC]; exact (hKN.1.1 ci q hq).2.1⟩
            have e1 : gcv B ex (.ref a) = .ref (B + a) := by simp [gcv, g_gal h9]
            simp only [List.map_cons, e1] at kk hpre ⊢
            rw [List.reverse_cons, List.append_assoc]
            cases hn : Nat.beq ne 0 with
            | true =>
              rw [hn] at hlk
              simp only [cond_true] at hlk
              refine g_callX (va_runV (As := as.map (gcv B ex)) (rest := (st.drop na).map (gcv B ex)) (b := B + a) (C := cr.1.cls) hF hM ⟨callB_of (na - 1) hts (gws_good hcode) rfl rfl rfl (hts _ hini) (hts _ (gtb_good hlk rfl)) ⟨hMH.1, hMH.2, hpar⟩ hRR, hin2, hsel2⟩ ⟨gPc_blind, hrecv, hpre⟩ rfl (by rw [List.length_map]; exact hlen2) hL.1 rfl hroom hd hf2) kk
            | false =>
              rw [hn] at hlk
              simp only [cond_false] at hlk
              refine g_callX (va_runVN (As := as.map (gcv B ex)) (rest := (st.drop na).map (gcv B ex)) (b := B + a) (C := cr.1.cls) hF hM ⟨va_cnB (na - 1) hts (gws_good hcode) rfl rfl rfl (hKN.2.1 _ (gtb_nest hlk rfl)) (hts _ hini) ⟨hMH.1, hMH.2, hpar⟩ hRR, hin2, hsel2⟩ ⟨gPc_blind, hrecv, hpre⟩ rfl (by rw [List.length_map]; exact hlen2) hL.1 rfl hroom hd hf2) kk
      | int x => exact hkind.elim
      | long x => exact hkind.elim
      | float x => exact hkind.elim
      | double x => exact hkind.elim
      | null => exact hkind.elim
      | retAddr x => exact hkind.elim
  · -- invokespecial <init>
    simp only [Nat.succ_ne_zero, if_false] at hpar
    simp only [Bool.and_eq_true, decide_eq_true_eq] at hkd
    obtain ⟨hin, hinit, hret⟩ := hkd
    have hin2 := hts _ (gtb_good hin rfl)
    simp only [gkind] at hkind
    obtain ⟨a, as, has⟩ := hkind
    rw [has] at hM kk hpre ⊢
    have hlen2 : as.length = na - 1 := by
      have := congrArg List.length has
      rw [List.length_reverse, hlen9] at this
      simp at this
      omega
    have hws : gws cr = Cond.code cr.1 cr.2.1 cr.2.2.1 none :: gGW := by rw [gws, hret]
    have e1 : gcv B ex (.ref a) = .ref (gal B ex a) := rfl
    simp only [List.map_cons, e1] at kk hpre ⊢
    rw [List.reverse_cons, List.append_assoc]
    cases hn : Nat.beq ne 0 with
    | true =>
      rw [hn] at hlk
      simp only [cond_true] at hlk
      refine g_callX (va_runI (As := as.map (gcv B ex)) (rest := (st.drop na).map (gcv B ex)) (b := gal B ex a) hF hM ⟨callB_of (na - 1) hts (gws_good hcode) hws rfl rfl (hts _ hini) (hts _ (gtb_good hlk rfl)) ⟨hMH.1, hMH.2, hpar⟩ hRR, hinit, hin2⟩ ⟨gPc_blind, hpre⟩ rfl (by rw [List.length_map]; exact hlen2) hL.1 rfl hroom hd hf2) kk
    | false =>
      rw [hn] at hlk
      simp only [cond_false] at hlk
      refine g_callX (va_runIN (As := as.map (gcv B ex)) (rest := (st.drop na).map (gcv B ex)) (b := gal B ex a) hF hM ⟨va_cnB (na - 1) hts (gws_good hcode) hws rfl rfl (hKN.2.1 _ (gtb_nest hlk rfl)) (hts _ hini) ⟨hMH.1, hMH.2, hpar⟩ hRR, hinit, hin2⟩ ⟨gPc_blind, hpre⟩ rfl (by rw [List.length_map]; exact hlen2) hL.1 rfl hroom hd hf2) kk
  · -- invokestatic
    simp only [if_true, Nat.sub_zero] at hpar
    have hstt := hts _ (gtb_good hkd rfl)
    have hlen2 : ((st.take na).reverse.map (gcv B ex)).length = na := by rw [List.length_map, List.length_reverse]; exact hlen9
    cases hn : Nat.beq ne 0 with
    | true =>
      rw [hn] at hlk
      simp only [cond_true] at hlk
      refine g_callX (va_runS (As := (st.take na).reverse.map (gcv B ex)) (rest := (st.drop na).map (gcv B ex)) hF hM ⟨callB_of na hts (gws_good hcode) rfl rfl rfl (hts _ hini) (hts _ (gtb_good hlk rfl)) ⟨hMH.1, hMH.2, hpar⟩ hRR, hstt⟩ ⟨gPc_blind, hpre⟩ rfl hlen2 hL.1 rfl hroom hd hf2) kk
    | false =>
      rw [hn] at hlk
      simp only [cond_false] at hlk
      refine g_callX (va_runSN (As := (st.take na).reverse.map (gcv B ex)) (rest := (st.drop na).map (gcv B ex)) hF hM ⟨va_cnB na hts (gws_good hcode) rfl rfl rfl (hKN.2.1 _ (gtb_nest hlk rfl)) (hts _ hini) ⟨hMH.1, hMH.2, hpar⟩ hRR, hstt, trivial⟩ ⟨gPc_blind, hpre⟩ rfl hlen2 hL.1 rfl hroom hd hf2) kk
end GCL
end
section
/-! ===== a run of the small machine is a run of the JVM ===== -/
/-- at a method's end -/
def gK (p : Program) (l : Launch) (e : Env) (R : Room) (s : State) (m : MethodId) (args : Array Value) (below : List Frame) (meth : Method) (c : Code) (Q : State → Prop) (D : va_G) (B : Nat) (ex : Nat → Nat) (H0 : Heap) (n0 u0 : Nat) (row : gR) (v : Option Value) (S' : gS) : Prop :=
  ∀ (pc : Nat) (ls : Array Slot) (H : Heap) (locs : List Loc) (cells slots : Nat), ((v = none ∧ row.2.2.2.1 = none ∧ decode row.2.1 pc = .ok (.return_, 1)) ∨ ∃ x, v = some (.int x) ∧ grok row.2.2.2.1 x ∧ decode row.2.1 pc = .ok (.ireturn, 1)) → gRH D s B ex H0 S' H → (∀ q ∈ locs, B ≤ q.base) → n0 + cells = S'.1 → u0 + slots = S'.2.1 → W p l e R s m args below meth c H locs cells slots Q (F0 m pc ls (v.toList.map (gcv B ex)))
def gBmono (BI : gB) : Prop := ∀ j as S v S', BI j as S v S' → S.1 ≤ S'.1 ∧ S.2.1 ≤ S'.2.1
/-- a call of one of the methods that are told by hand -/
def gWB (l : Launch) (D : va_G) (B : Nat) (ex : Nat → Nat) (H0 : Heap) (BI : gB) : Prop :=
  ∀ (p : Program) (e : Env) (R : Room) (s : State) (m : MethodId) (args : Array Value) (below : List Frame) (meth : Method) (c : Code) (Q : State → Prop) (cc : ByteArray) (nL : Nat) (own nm : String) (n0 u0 pc : Nat) (L : gL) (rest : List Value) (S : gS) (i : Instr) (kd idx j na : Nat) (ax : List Nat) (as : List Value) (v1 : Option Value) (S1 : gS),
    gCx p s m args meth c cc nL own nm D ex → ((kd = 1 ∧ i = .invokevirtual idx) ∨ (kd = 2 ∧ i = .invokespecial idx) ∨ (kd = 0 ∧ i = .invokestatic idx)) → decode cc pc = .ok (i, 3) → gchkB own kd idx 3 (j :: na :: ax) = true → as.length = na → gcat rest ≤ 8 → 10 ≤ R.frames → 400 ≤ R.locals → BI j as S v1 S1 → S1.1 ≤ n0 + R.cells → S1.2.1 ≤ u0 + R.slots →
    gG p l e R s m args below meth c Q nL D B ex H0 n0 u0 (pc + 3) L (v1.toList ++ rest) S1 → gG p l e R s m args below meth c Q nL D B ex H0 n0 u0 pc L (as.reverse ++ rest) S
theorem gcell_mono {i : Instr} {len : Nat} {ax : List Nat} {w : Value} {pc : Nat} {L : gL} {st : List Value} {S : gS} {o : Nat × gL × List Value × gS} (hst : gstep i len ax w pc L st S = some o) : S.1 ≤ o.2.2.2.1 ∧ S.2.1 ≤ o.2.2.2.2.1 := by
  have hid : ∀ {a : Nat × gL × List Value × gS}, a.2.2.2 = S → S.1 ≤ a.2.2.2.1 ∧ S.2.1 ≤ a.2.2.2.2.1 := fun h => by rw [h]; exact ⟨Nat.le_refl _, Nat.le_refl _⟩
  cases i
  case iconst n => rw [gpush_inv hst]; exact hid rfl
  case lconst n => rw [gpush_inv hst]; exact hid rfl
  case bipush n => rw [gpush_inv hst]; exact hid rfl
  case sipush n => rw [gpush_inv hst]; exact hid rfl
  case ldc n => cases ax with
    | nil => cases hst
    | cons a t => rw [gpush_inv (len := 2) hst]; exact hid rfl
  case ldc_w n => cases ax with
    | nil => cases hst
    | cons a t => rw [gpush_inv (len := 3) hst]; exact hid rfl
  case ldc2_w n => cases ax with
    | nil => cases hst
    | cons a t => rw [gpush_inv (len := 3) hst]; exact hid rfl
  case iload_n n => obtain ⟨x, -, rfl⟩ := giload_inv hst; exact hid rfl
  case iload n => obtain ⟨x, -, rfl⟩ := giload_inv hst; exact hid rfl
  case lload_n n => obtain ⟨x, -, rfl⟩ := glload_inv hst; exact hid rfl
  case lload n => obtain ⟨x, -, rfl⟩ := glload_inv hst; exact hid rfl
  case aload_n n => obtain ⟨x, -, rfl⟩ := galoadL_inv hst; exact hid rfl
  case aload n => obtain ⟨x, -, rfl⟩ := galoadL_inv hst; exact hid rfl
  case istore_n n => obtain ⟨x, r, -, -, -, rfl⟩ := gistore_inv hst; exact hid rfl
  case istore n => obtain ⟨x, r, -, -, -, rfl⟩ := gistore_inv hst; exact hid rfl
  case lstore_n n => obtain ⟨x, r, -, -, -, rfl⟩ := glstore_inv hst; exact hid rfl
  case lstore n => obtain ⟨x, r, -, -, -, rfl⟩ := glstore_inv hst; exact hid rfl
  case astore_n n => obtain ⟨x, r, -, -, -, rfl⟩ := gastoreL_inv hst; exact hid rfl
  case astore n => obtain ⟨x, r, -, -, -, rfl⟩ := gastoreL_inv hst; exact hid rfl
  case iinc n z => obtain ⟨x, y, -, -, -, -, rfl⟩ := giinc_inv hst; exact hid rfl
  case getfield idx =>
    simp only [gstep] at hst
    split at hst
    · obtain ⟨a, r, fs, v, -, -, -, rfl⟩ := gget_inv hst; exact hid rfl
    · cases hst
  case putfield idx =>
    simp only [gstep] at hst
    split at hst
    · obtain ⟨v, a, r, fs, -, -, -, -, rfl⟩ := gput_inv hst; exact ⟨Nat.le_refl _, Nat.le_refl _⟩
    · cases hst
  case new idx =>
    simp only [gstep] at hst
    split at hst
    · obtain ⟨q, -, -, rfl⟩ := gnew_inv hst; exact ⟨Nat.le_add_right _ _, Nat.le_add_right _ _⟩
    · cases hst
  case anewarray idx =>
    simp only [gstep] at hst
    split at hst
    · obtain ⟨n, r, q, -, -, -, -, -, rfl⟩ := gnewq_inv hst; exact ⟨Nat.le_add_right _ _, Nat.le_add_right _ _⟩
    · cases hst
  case newarray t =>
    simp only [gstep, gnewa] at hst
    split at hst
    · split at hst
      · cases hst
      · split at hst <;> first | (cases hst; exact ⟨Nat.le_add_right _ _, Nat.le_add_right _ _⟩) | cases hst
    · cases hst
  case iaload => obtain ⟨i, a, r, n, f, -, -, -, rfl⟩ := giald_inv hst; exact hid rfl
  case caload => obtain ⟨i, a, r, n, f, -, -, -, rfl⟩ := giald_inv hst; exact hid rfl
  case baload => obtain ⟨i, a, r, t, n, f, -, -, -, -, rfl⟩ := gbald_inv hst; exact hid rfl
  case laload => obtain ⟨i, a, r, n, f, -, -, -, rfl⟩ := glald_inv hst; exact hid rfl
  case aaload => obtain ⟨i, a, r, C, n, f, -, -, -, rfl⟩ := gaald_inv hst; exact hid rfl
  case iastore => obtain ⟨x, i, a, r, n, f, -, -, -, -, -, rfl⟩ := giast_inv hst; exact ⟨Nat.le_refl _, Nat.le_refl _⟩
  case castore => obtain ⟨x, i, a, r, n, f, -, -, -, -, -, rfl⟩ := giast_inv hst; exact ⟨Nat.le_refl _, Nat.le_refl _⟩
  case bastore => obtain ⟨x, i, a, r, n, f, -, -, -, -, -, rfl⟩ := giast_inv hst; exact ⟨Nat.le_refl _, Nat.le_refl _⟩
  case lastore => obtain ⟨x, i, a, r, n, f, -, -, -, -, rfl⟩ := glast_inv hst; exact ⟨Nat.le_refl _, Nat.le_refl _⟩
  case aastore => obtain ⟨v, i, a, r, C, n, f, ci, fs, -, -, -, -, -, -, rfl⟩ := gaast_inv hst; exact ⟨Nat.le_refl _, Nat.le_refl _⟩
  case arraylength => obtain ⟨a, r, t, n, x, -, -, rfl⟩ := galen_inv hst; exact hid rfl
  all_goals first
    | (obtain ⟨x, y, r, -, rfl⟩ := gii_inv hst; exact hid rfl)
    | (obtain ⟨x, y, r, -, rfl⟩ := gll_inv hst; exact hid rfl)
    | (obtain ⟨x, y, r, -, rfl⟩ := gli_inv hst; exact hid rfl)
    | (have h9 : (none : gO) = some o := hst; cases h9; done)
    | (simp only [gstep] at hst; split at hst <;> first | (cases hst; exact hid rfl) | (cases hst; done) | (split at hst <;> first | (cases hst; exact hid rfl) | (cases hst; done)))
    | (cases hst; exact hid rfl)
theorem gER_mono {MT : List gR} {BI : gB} (hB : gBmono BI) : ∀ (f d k pc : Nat) (L : gL) (st : List Value) (S : gS) (v : Option Value) (S' : gS), gER MT BI f d k pc L st S v S' → S.1 ≤ S'.1 ∧ S.2.1 ≤ S'.2.1 := by
  intro f
  induction f with
  | zero => intro d k pc L st S v S' h; exact h.elim
  | succ f ih =>
    intro d k pc L st S v S' h
    unfold gER at h
    split at h
    · exact h.elim
    · split at h
      · exact h.elim
      · rename_i q hl
        split at h
        · obtain ⟨-, -, rfl, -⟩ := h
          exact ⟨Nat.le_refl _, Nat.le_refl _⟩
        · obtain ⟨x, -, -, rfl, -⟩ := h
          exact ⟨Nat.le_refl _, Nat.le_refl _⟩
        · unfold gcallP at h
          split at h
          · obtain ⟨-, -, v1, S1, h1, h2⟩ := h
            have k2 := ih _ _ _ _ _ _ _ _ h2
            split at h1
            · have k1 := hB _ _ _ _ _ h1.2
              exact ⟨Nat.le_trans k1.1 k2.1, Nat.le_trans k1.2 k2.2⟩
            · obtain ⟨-, cr, -, -, -, h3⟩ := h1
              have k1 := ih _ _ _ _ _ _ _ _ h3
              exact ⟨Nat.le_trans k1.1 k2.1, Nat.le_trans k1.2 k2.2⟩
          · exact h.elim
        · split at h
          · exact h.elim
          · rename_i o hs
            have k1 := gcell_mono hs
            have k2 := ih _ _ _ _ _ _ _ _ h
            exact ⟨Nat.le_trans k1.1 k2.1, Nat.le_trans k1.2 k2.2⟩
/-! a method's entry -/
theorem gpad_len : ∀ (L : gL) (n : Nat), (gpad L n).length = n := by
  intro L n
  induction n generalizing L with
  | zero => cases L <;> rfl
  | succ n ih => cases L <;> simp [gpad, ih]
theorem gl_pad : ∀ (n : Nat) (L : gL) (i : Nat) (v : Value), gl (gpad L n) i = some v → gl L i = some v := by
  intro n
  induction n with
  | zero => intro L i v h; cases L <;> simp [gpad, gl] at h
  | succ n ih =>
    intro L i v h
    cases L with
    | nil =>
      cases i with
      | zero => simp [gpad, gl] at h
      | succ i =>
        simp only [gpad, gl] at h
        have := ih [] i v h
        simp [gl] at this
    | cons a r =>
      cases i with
      | zero => simpa [gpad, gl] using h
      | succ i => exact ih r i v (by simpa [gpad, gl] using h)
theorem lg_sl_len (v : Value) (r : List Value) : (lg_sl (v :: r)).length = (if v.category = 2 then 2 else 1) + (lg_sl r).length := by
  unfold lg_sl
  rw [List.flatMap_cons, List.length_append]
  split <;> rfl
theorem gent_sl {B : Nat} {ex : Nat → Nat} : ∀ (as : List Value), (lg_sl (as.map (gcv B ex))).length = (gent as).length := by
  intro as
  induction as with
  | nil => rfl
  | cons v r ih =>
    rw [List.map_cons, lg_sl_len, ih, gcv_cat]
    cases v <;> simp [gent, Value.category] <;> omega
theorem gent_args {B : Nat} {ex : Nat → Nat} : ∀ (as : List Value) (i j : Nat) (v : Value), gl (gent as) j = some v → (i + j, gcv B ex v) ∈ lv_args i (as.map (gcv B ex)) := by
  intro as
  induction as with
  | nil => intro i j v h; simp [gent, gl] at h
  | cons a r ih =>
    intro i j v h
    have one : ∀ (a : Value), a.category = 1 → gl (some a :: gent r) j = some v → (i + j, gcv B ex v) ∈ lv_args i ((a :: r).map (gcv B ex)) := by
      intro a ha h
      simp only [List.map_cons, lv_args, gcv_cat, ha]
      cases j with
      | zero => simp only [gl] at h; cases h; exact List.mem_cons_self
      | succ j =>
        refine List.mem_cons_of_mem _ ?_
        have := ih (i + 1) j v h
        simpa [Nat.add_assoc, Nat.add_comm 1 j] using this
    have two : ∀ (a : Value), a.category = 2 → gl (some a :: none :: gent r) j = some v → (i + j, gcv B ex v) ∈ lv_args i ((a :: r).map (gcv B ex)) := by
      intro a ha h
      simp only [List.map_cons, lv_args, gcv_cat, ha, if_true]
      match j, h with
      | 0, h => simp only [gl] at h; cases h; exact List.mem_cons_self
      | 1, h => simp [gl] at h
      | j + 2, h =>
        refine List.mem_cons_of_mem _ ?_
        have := ih (i + 2) j v h
        rw [show i + (j + 2) = i + 2 + j by omega]
        exact this
    cases a with
    | long x => exact two _ rfl h
    | double x => exact two _ rfl h
    | int x => exact one _ rfl h
    | float x => exact one _ rfl h
    | null => exact one _ rfl h
    | ref x => exact one _ rfl h
    | retAddr x => exact one _ rfl h
theorem g_entry {B : Nat} {ex : Nat → Nat} {as : List Value} {n : Nat} (h : (gent as).length ≤ n) : gLR B ex ((lg_sl (as.map (gcv B ex)) ++ List.replicate (n - (lg_sl (as.map (gcv B ex))).length) Slot.unset).toArray) n (gpad (gent as) n) := by
  have h1 := lv_entry (as.map (gcv B ex)) (n := n) (by rw [gent_sl]; exact h)
  refine ⟨h1.1, gpad_len _ _, h1.2.1, fun i v hv => ?_⟩
  have h2 := gent_args (B := B) (ex := ex) as 0 i v (gl_pad _ _ _ _ hv)
  rw [Nat.zero_add] at h2
  exact h1.2.2 (i, gcv B ex v) h2
end
section
section GMN
variable {l : Launch} {D : va_G} {B : Nat} {ex : Nat → Nat} {H0 : Heap} {MT : List gR} {BI : gB}
/-- what a run from a frame gives, for every method of the table -/
def gRuns (l : Launch) (D : va_G) (B : Nat) (ex : Nat → Nat) (H0 : Heap) (MT : List gR) (d k pc : Nat) (L : gL) (st : List Value) (S : gS) (v : Option Value) (S' : gS) : Prop :=
  ∀ (row : gR), MT[k]? = some row → ∀ (p : Program) (e : Env) (R : Room) (s : State) (m : MethodId) (args : Array Value) (below : List Frame) (meth : Method) (c : Code) (Q : State → Prop) (n0 u0 : Nat),
    gCx p s m args meth c row.2.1 row.2.2.1 row.1.cls row.1.name D ex → d ≤ R.frames → 40 * d ≤ R.locals → S'.1 ≤ n0 + R.cells → S'.2.1 ≤ u0 + R.slots → gK p l e R s m args below meth c Q D B ex H0 n0 u0 row v S' →
    gG p l e R s m args below meth c Q row.2.2.1 D B ex H0 n0 u0 pc L st S
theorem gmet_of {d k : Nat} {cr : gR} {as : List Value} {S S1 : gS} {v1 : Option Value} (hok : gMOK MT cr) (hk : MT[k]? = some cr) (hm1 : S.1 ≤ S1.1) (hm2 : S.2.1 ≤ S1.2.1) (hlen : (gent as).length ≤ cr.2.2.1) (h : gRuns l D B ex H0 MT d k 0 (gpad (gent as) cr.2.2.1) [] S v1 S1) : gMet l D B ex H0 d cr as S v1 S1 := by
  obtain ⟨hcode, hini, hpl, hMH, hdec, hchk, hchi, hmax⟩ := hok
  refine Met.ofW (cc := cr.2.1) (maxL := cr.2.2.1) (ret := cr.2.2.2.1) hpl rfl ?_
  intro p e s m args below meth c s₁ Bd hml hv
  obtain ⟨rfl, hKN, hRH⟩ := hv
  have hx := Bd.exec
  have hb := Bd.bytes
  have hr := Bd.returns
  have hts0 := atoms_spec (ws := gws cr) Bd.pre
  have hts : ∀ w ∈ gGW, w.before _ s = true := fun w hw => hts0 w (List.mem_cons_of_mem _ hw)
  have hown : s.vm.findClass cr.1.cls = some m.cls := findClass_of_methodNamed Bd.named
  have hlocks := Bd.notSynchronized
  have hnm : meth.name = cr.1.name := (name_of_methodNamed Bd.named Bd.method).1
  rw [lg_entry_eq]
  refine h cr hk p e (headSpec (gws cr) (grm d S S1)).room s m _ below meth c (MQ below (gQc D B ex H0 v1 S1) _ s (S1.1 - S.1) (S1.2.1 - S.2.1) (fun q => B ≤ q)) S.1 S.2.1 ⟨hx, hb, hml, hown, hts, hnm, hKN⟩ (Nat.le_refl _) (Nat.le_refl _) (by show S1.1 ≤ S.1 + (S1.1 - S.1); omega) (by show S1.2.1 ≤ S.2.1 + (S1.2.1 - S.2.1); omega) ?_ _ s.heap [] 0 0 (g_entry hlen) hRH (fun q h => by cases h) (Nat.add_zero _) (Nat.add_zero _)
  intro pc ls H locs cells slots hret hR hl hc hs
  have e1 : cells = S1.1 - S.1 := by omega
  have e2 : slots = S1.2.1 - S.2.1 := by omega
  subst e1; subst e2
  rcases hret with ⟨rfl, hn, hd⟩ | ⟨x, rfl, hg, hd⟩
  · exact W.vret hx hb (hr.trans hn) (fun t ht hW => ⟨rfl, by rw [ht]; exact gRH_moved hW.alike hR⟩) hl hd
  · cases hrt : cr.2.2.2.1 with
    | none => rw [hrt] at hg; exact hg.elim
    | some ty =>
      rw [hrt] at hg hr
      cases ty with
      | int => exact W.iret hx hb hr (fun t ht hW => ⟨rfl, by rw [ht]; exact gRH_moved hW.alike hR⟩) hl hd
      | boolean =>
        refine W.zret hx hb hr ?_ (fun t ht hW => ⟨rfl, by rw [ht]; exact gRH_moved hW.alike hR⟩) hl hd
        rcases hg with rfl | rfl <;> decide
      | char =>
        refine W.zret hx hb hr ?_ (fun t ht hW => ⟨rfl, by rw [ht]; exact gRH_moved hW.alike hR⟩) hl hd
        have hg' : vp_nar .char x = x := hg
        rw [vp_nar_char] at hg'
        exact congrArg Value.int hg'
      | byte => exact hg.elim
      | short => exact hg.elim
      | long => exact hg.elim
      | float => exact hg.elim
      | double => exact hg.elim
      | object n => exact hg.elim
      | array n => exact hg.elim
theorem gcls_call {i : Instr} (h : gcls i = 3) : ∃ kd idx, (kd = 1 ∧ i = .invokevirtual idx) ∨ (kd = 2 ∧ i = .invokespecial idx) ∨ (kd = 0 ∧ i = .invokestatic idx) := by
  cases i <;> first | exact ⟨1, _, Or.inl ⟨rfl, rfl⟩⟩ | exact ⟨2, _, Or.inr (Or.inl ⟨rfl, rfl⟩)⟩ | exact ⟨0, _, Or.inr (Or.inr ⟨rfl, rfl⟩)⟩ | (cases h; done)
theorem gcls_ret1 {i : Instr} (h : gcls i = 1) : i = .return_ := by
  cases i <;> first | rfl | (cases h; done)
theorem gcls_ret2 {i : Instr} (h : gcls i = 2) : i = .ireturn := by
  cases i <;> first | rfl | (cases h; done)
theorem gchkI_call {MT : List gR} {own : String} {pc : Nat} {i : Instr} {len : Nat} {ax : List Nat} {w : Value} {kd idx : Nat} (hi : (kd = 1 ∧ i = .invokevirtual idx) ∨ (kd = 2 ∧ i = .invokespecial idx) ∨ (kd = 0 ∧ i = .invokestatic idx)) (h : gchkI MT own (pc, i, len, ax, w) = true) : gchkA MT own kd idx len ax = true := by
  rcases hi with ⟨rfl, rfl⟩ | ⟨rfl, rfl⟩ | ⟨rfl, rfl⟩ <;> exact h
theorem gsim (hMT : ∀ row ∈ MT, gMOK MT row) (hB : gBmono BI) (hWB : gWB l D B ex H0 BI) : ∀ (f d k pc : Nat) (L : gL) (st : List Value) (S : gS) (v : Option Value) (S' : gS), gER MT BI f d k pc L st S v S' → gRuns l D B ex H0 MT d k pc L st S v S' := by
  intro f
  induction f with
  | zero => intro d k pc L st S v S' h; exact h.elim
  | succ f ih =>
    intro d k pc L st S v S' h row hrow p e R s m args below meth c Q n0 u0 X hd1 hd2 hr1 hr2 hK
    have hm := gER_mono hB _ _ _ _ _ _ _ _ _ h
    have hok := hMT row (List.mem_of_getElem? hrow)
    have hok0 := hok
    obtain ⟨hcode, hini, hpl, hMH, hdec, hchk, hchi, hmax⟩ := hok
    unfold gER at h
    rw [hrow] at h
    dsimp only at h
    split at h
    · exact h.elim
    · rename_i q hl
      obtain ⟨i, len, ax, w⟩ := q
      dsimp only at h
      have hmem := glook_mem hl
      have hdc := hdec _ hmem
      have hck := hchk _ hmem
      have hci := hchi _ hmem
      dsimp only at hdc hck hci
      split at h
      · rename_i hcl
        have e1 := gcls_ret1 hcl
        subst e1
        have h1 := g_len hck
        subst h1
        obtain ⟨rfl, rfl, rfl, hn⟩ := h
        intro ls H locs cells slots hL hR hl2 hc hs
        exact hK pc ls H locs cells slots (Or.inl ⟨rfl, hn, hdc⟩) hR hl2 hc hs
      · rename_i hcl
        have e1 := gcls_ret2 hcl
        subst e1
        have h1 := g_len hck
        subst h1
        obtain ⟨x, rfl, rfl, rfl, hg⟩ := h
        intro ls H locs cells slots hL hR hl2 hc hs
        exact hK pc ls H locs cells slots (Or.inr ⟨x, rfl, hg, hdc⟩) hR hl2 hc hs
      · rename_i hcl
        obtain ⟨kd, idx, hi⟩ := gcls_call hcl
        have hca := gchkI_call hi hci
        unfold gcallP at h
        split at h
        · rename_i j na t
          obtain ⟨hna, hcat, v1, S1, hcall, hgo⟩ := h
          have hm1 := gER_mono hB _ _ _ _ _ _ _ _ _ hgo
          have hgo2 := ih d k (pc + 3) L _ S1 v S' hgo row hrow p e R s m args below meth c Q n0 u0 X hd1 hd2 hr1 hr2 hK
          split at hcall
          · rename_i hj
            have hjb : Nat.ble 1000 j = true := Nat.ble_eq.mpr hj
            simp only [gchkA, hjb, cond_true] at hca
            have hl3 : len = 3 := by
              unfold gchkB at hca
              split at hca
              · rw [Bool.and_eq_true] at hca
                exact g_len hca.1
              · cases hca
            subst hl3
            have hst : st = ((st.take na).reverse).reverse ++ st.drop na := by rw [List.reverse_reverse, List.take_append_drop]
            rw [hst]
            refine hWB p e R s m args below meth c Q row.2.1 row.2.2.1 row.1.cls row.1.name n0 u0 pc L (st.drop na) S i kd idx j na t (st.take na).reverse v1 S1 X hi hdc hca ?_ hcat (by omega) (by omega) hcall.2 (by omega) (by omega) hgo2
            rw [List.length_reverse, List.length_take]; omega
          · rename_i hj
            have hjb : Nat.ble 1000 j = false := by
              cases hq : Nat.ble 1000 j with
              | false => rfl
              | true => exact absurd (Nat.ble_eq.mp hq) hj
            simp only [gchkA, hjb, cond_false] at hca
            have hl3 : len = 3 := by
              unfold gchkJ at hca
              split at hca
              · rw [Bool.and_eq_true] at hca
                exact g_len hca.1
              · cases hca
            subst hl3
            obtain ⟨hd0, cr, hcr, hlen, hkind, hce⟩ := hcall
            have hm0 := gER_mono hB _ _ _ _ _ _ _ _ _ hce
            have hokc := hMT cr (List.mem_of_getElem? hcr)
            have hM := gmet_of (l := l) (D := D) (B := B) (ex := ex) (H0 := H0) (as := (st.take na).reverse) hokc hcr hm0.1 hm0.2 hlen (ih (d - 1) j 0 _ [] S v1 S1 hce)
            exact gs_call (d := d - 1) X hi hdc hcr hca hokc hna hcat hkind hM hm0.1 hm0.2 (by omega) (by omega) (by omega) (by omega) hgo2
        · exact h.elim
      · split at h
        · exact h.elim
        · rename_i o hs
          have hm1 := gER_mono hB _ _ _ _ _ _ _ _ _ h
          exact gstep_sim X hs hdc hck (by omega) (by omega) (ih d k o.1 o.2.1 o.2.2.1 o.2.2.2 v S' h row hrow p e R s m args below meth c Q n0 u0 X hd1 hd2 hr1 hr2 hK)
end GMN
end
section
def gc_0 : List (Nat × gI) := [(0, .aload_n 0, 1, [0], .null),
  (1, .invokespecial 1, 3, [1000, 1, 0, 28, 29, 0], .null),
  (4, .aload_n 0, 1, [0], .null),
  (5, .bipush 100, 2, [], .int 100),
  (7, .anewarray 9, 3, [7, 31], .null),
  (10, .putfield 11, 3, [9, 0, 0, 184], .null),
  (13, .aload_n 0, 1, [0], .null),
  (14, .sipush 200, 3, [], .int 200),
  (17, .anewarray 15, 3, [3, 33], .null),
  (20, .putfield 17, 3, [9, 2, 0, 186], .null),
  (23, .aload_n 0, 1, [0], .null),
  (24, .iconst 5, 1, [], .int 5),
  (25, .anewarray 21, 3, [5, 35], .null),
  (28, .putfield 23, 3, [9, 4, 0, 188], .null),
  (31, .iconst 0, 1, [], .int 0),
  (32, .istore_n 1, 1, [1], .null),
  (33, .iload_n 1, 1, [1], .null),
  (34, .iconst 5, 1, [], .int 5),
  (35, .if_icmp .ge 22, 3, [57], .null),
  (38, .aload_n 0, 1, [0], .null),
  (39, .getfield 23, 3, [9, 4, 0, 188], .null),
  (42, .iload_n 1, 1, [1], .null),
  (43, .new 21, 3, [5, 35], .null),
  (46, .dup, 1, [], .null),
  (47, .invokespecial 27, 3, [1, 1, 1, 38, 39, 0], .null),
  (50, .aastore, 1, [], .null),
  (51, .iinc 1 1, 3, [1], .int 1),
  (54, .goto (-21), 3, [33], .null),
  (57, .aload_n 0, 1, [0], .null),
  (58, .bipush 8, 2, [], .int 8),
  (60, .newarray .int, 2, [62], .null),
  (62, .putfield 28, 3, [9, 5, 0, 189], .null),
  (65, .iconst 0, 1, [], .int 0),
  (66, .istore_n 1, 1, [1], .null),
  (67, .iload_n 1, 1, [1], .null),
  (68, .bipush 8, 2, [], .int 8),
  (70, .if_icmp .ge 17, 3, [87], .null),
  (73, .aload_n 0, 1, [0], .null),
  (74, .getfield 28, 3, [9, 5, 0, 189], .null),
  (77, .iload_n 1, 1, [1], .null),
  (78, .bipush 10, 2, [], .int 10),
  (80, .iastore, 1, [], .null),
  (81, .iinc 1 1, 3, [1], .int 1),
  (84, .goto (-17), 3, [67], .null),
  (87, .aload_n 0, 1, [0], .null),
  (88, .new 32, 3, [6, 63], .null),
  (91, .dup, 1, [], .null),
  (92, .invokespecial 34, 3, [2, 1, 1, 65, 66, 0], .null),
  (95, .putfield 35, 3, [9, 6, 0, 190], .null),
  (98, .aload_n 0, 1, [0], .null),
  (99, .new 39, 3, [2, 80], .null),
  (102, .dup, 1, [], .null),
  (103, .invokespecial 41, 3, [3, 1, 1, 82, 83, 0], .null),
  (106, .putfield 42, 3, [9, 8, 0, 192], .null),
  (109, .aload_n 0, 1, [0], .null),
  (110, .new 39, 3, [2, 80], .null),
  (113, .dup, 1, [], .null),
  (114, .invokespecial 41, 3, [3, 1, 1, 82, 83, 0], .null),
  (117, .putfield 46, 3, [9, 9, 0, 193], .null),
  (120, .aload_n 0, 1, [0], .null),
  (121, .new 49, 3, [0, 107], .null),
  (124, .dup, 1, [], .null),
  (125, .aload_n 0, 1, [0], .null),
  (126, .getfield 35, 3, [9, 6, 0, 190], .null),
  (129, .aload_n 0, 1, [0], .null),
  (130, .getfield 46, 3, [9, 9, 0, 193], .null),
  (133, .invokespecial 51, 3, [4, 3, 1, 109, 110, 0], .null),
  (136, .putfield 54, 3, [9, 7, 0, 191], .null),
  (139, .aload_n 0, 1, [0], .null),
  (140, .bipush 6, 2, [], .int 6),
  (142, .newarray .int, 2, [62], .null),
  (144, .putfield 58, 3, [9, 10, 0, 194], .null),
  (147, .aload_n 0, 1, [0], .null),
  (148, .bipush 10, 2, [], .int 10),
  (150, .newarray .int, 2, [62], .null),
  (152, .putfield 61, 3, [9, 11, 0, 195], .null),
  (155, .aload_n 0, 1, [0], .null),
  (156, .bipush 10, 2, [], .int 10),
  (158, .newarray .int, 2, [62], .null),
  (160, .putfield 64, 3, [9, 12, 0, 196], .null),
  (163, .aload_n 0, 1, [0], .null),
  (164, .bipush 10, 2, [], .int 10),
  (166, .newarray .int, 2, [62], .null),
  (168, .putfield 67, 3, [9, 13, 0, 197], .null),
  (171, .iconst 0, 1, [], .int 0),
  (172, .istore_n 1, 1, [1], .null),
  (173, .iload_n 1, 1, [1], .null),
  (174, .bipush 10, 2, [], .int 10),
  (176, .if_icmp .ge 17, 3, [193], .null),
  (179, .aload_n 0, 1, [0], .null),
  (180, .getfield 67, 3, [9, 13, 0, 197], .null),
  (183, .iload_n 1, 1, [1], .null),
  (184, .bipush 25, 2, [], .int 25),
  (186, .iastore, 1, [], .null),
  (187, .iinc 1 1, 3, [1], .int 1),
  (190, .goto (-17), 3, [173], .null),
  (193, .aload_n 0, 1, [0], .null),
  (194, .new 70, 3, [1, 148], .null),
  (197, .dup, 1, [], .null),
  (198, .invokespecial 72, 3, [6, 1, 1, 150, 151, 0], .null),
  (201, .putfield 73, 3, [9, 14, 0, 198], .null),
  (204, .aload_n 0, 1, [0], .null),
  (205, .new 77, 3, [8, 161], .null),
  (208, .dup, 1, [], .null),
  (209, .invokespecial 79, 3, [7, 1, 1, 163, 164, 0], .null),
  (212, .putfield 80, 3, [9, 15, 0, 199], .null),
  (215, .aload_n 0, 1, [0], .null),
  (216, .iconst 5, 1, [], .int 5),
  (217, .putfield 84, 3, [9, 17, 0, 201], .null),
  (220, .return_, 1, [], .null)]
def gc_1 : List (Nat × gI) := [(0, .aload_n 0, 1, [0], .null),
  (1, .invokespecial 3, 3, [1000, 1, 0, 41, 29, 0], .null),
  (4, .aload_n 0, 1, [0], .null),
  (5, .bipush 10, 2, [], .int 10),
  (7, .putfield 9, 3, [5, 0, 0, 42], .null),
  (10, .aload_n 0, 1, [0], .null),
  (11, .bipush 8, 2, [], .int 8),
  (13, .newarray .int, 2, [62], .null),
  (15, .putfield 15, 3, [5, 3, 0, 47], .null),
  (18, .aload_n 0, 1, [0], .null),
  (19, .bipush 8, 2, [], .int 8),
  (21, .newarray .int, 2, [62], .null),
  (23, .putfield 19, 3, [5, 4, 0, 49], .null),
  (26, .return_, 1, [], .null)]
def gc_2 : List (Nat × gI) := [(0, .aload_n 0, 1, [0], .null),
  (1, .invokespecial 1, 3, [1000, 1, 0, 68, 29, 0], .null),
  (4, .aload_n 0, 1, [0], .null),
  (5, .sipush 600, 3, [], .int 600),
  (8, .newarray .char, 2, [79], .null),
  (10, .putfield 9, 3, [6, 0, 0, 69], .null),
  (13, .return_, 1, [], .null)]
def gc_3 : List (Nat × gI) := [(0, .aload_n 0, 1, [0], .null),
  (1, .invokespecial 3, 3, [1000, 1, 0, 85, 29, 0], .null),
  (4, .aload_n 0, 1, [0], .null),
  (5, .sipush 600, 3, [], .int 600),
  (8, .newarray .int, 2, [62], .null),
  (10, .putfield 11, 3, [2, 0, 0, 86], .null),
  (13, .aload_n 0, 1, [0], .null),
  (14, .bipush 16, 2, [], .int 16),
  (16, .newarray .int, 2, [62], .null),
  (18, .putfield 17, 3, [2, 1, 0, 87], .null),
  (21, .aload_n 0, 1, [0], .null),
  (22, .bipush 16, 2, [], .int 16),
  (24, .newarray .int, 2, [62], .null),
  (26, .putfield 20, 3, [2, 2, 0, 88], .null),
  (29, .aload_n 0, 1, [0], .null),
  (30, .bipush 16, 2, [], .int 16),
  (32, .newarray .int, 2, [62], .null),
  (34, .putfield 23, 3, [2, 3, 0, 89], .null),
  (37, .return_, 1, [], .null)]
def gc_4 : List (Nat × gI) := [(0, .aload_n 0, 1, [0], .null),
  (1, .invokespecial 1, 3, [1000, 1, 0, 112, 29, 0], .null),
  (4, .aload_n 0, 1, [0], .null),
  (5, .new 7, 3, [4, 113], .null),
  (8, .dup, 1, [], .null),
  (9, .aload_n 1, 1, [1], .null),
  (10, .invokespecial 9, 3, [5, 2, 1, 115, 116, 0], .null),
  (13, .putfield 12, 3, [0, 0, 0, 138], .null),
  (16, .aload_n 0, 1, [0], .null),
  (17, .aload_n 2, 1, [2], .null),
  (18, .putfield 18, 3, [0, 1, 0, 139], .null),
  (21, .return_, 1, [], .null)]
def gc_5 : List (Nat × gI) := [(0, .aload_n 0, 1, [0], .null),
  (1, .invokespecial 3, 3, [1000, 1, 0, 118, 29, 0], .null),
  (4, .aload_n 0, 1, [0], .null),
  (5, .aload_n 1, 1, [1], .null),
  (6, .putfield 9, 3, [4, 0, 0, 119], .null),
  (9, .return_, 1, [], .null)]
def gc_6 : List (Nat × gI) := [(0, .aload_n 0, 1, [0], .null),
  (1, .invokespecial 3, 3, [1000, 1, 0, 153, 29, 0], .null),
  (4, .aload_n 0, 1, [0], .null),
  (5, .bipush 36, 2, [], .int 36),
  (7, .newarray .int, 2, [62], .null),
  (9, .putfield 11, 3, [1, 0, 0, 154], .null),
  (12, .iconst 0, 1, [], .int 0),
  (13, .istore_n 1, 1, [1], .null),
  (14, .iload_n 1, 1, [1], .null),
  (15, .aload_n 0, 1, [0], .null),
  (16, .getfield 11, 3, [1, 0, 0, 154], .null),
  (19, .arraylength, 1, [], .null),
  (20, .if_icmp .ge 17, 3, [37], .null),
  (23, .aload_n 0, 1, [0], .null),
  (24, .getfield 11, 3, [1, 0, 0, 154], .null),
  (27, .iload_n 1, 1, [1], .null),
  (28, .bipush 10, 2, [], .int 10),
  (30, .iastore, 1, [], .null),
  (31, .iinc 1 1, 3, [1], .int 1),
  (34, .goto (-20), 3, [14], .null),
  (37, .aload_n 0, 1, [0], .null),
  (38, .sipush 160, 3, [], .int 160),
  (41, .newarray .int, 2, [62], .null),
  (43, .putfield 15, 3, [1, 1, 0, 155], .null),
  (46, .return_, 1, [], .null)]
def gc_7 : List (Nat × gI) := [(0, .aload_n 0, 1, [0], .null),
  (1, .invokespecial 5, 3, [1000, 1, 0, 166, 29, 0], .null),
  (4, .aload_n 0, 1, [0], .null),
  (5, .bipush 10, 2, [], .int 10),
  (7, .newarray .int, 2, [62], .null),
  (9, .putfield 11, 3, [8, 0, 0, 167], .null),
  (12, .aload_n 0, 1, [0], .null),
  (13, .bipush 10, 2, [], .int 10),
  (15, .newarray .int, 2, [62], .null),
  (17, .putfield 15, 3, [8, 1, 0, 168], .null),
  (20, .return_, 1, [], .null)]
def gc_8 : List (Nat × gI) := [(0, .iload_n 1, 1, [1], .null),
  (1, .bipush 20, 2, [], .int 20),
  (3, .invokestatic 88, 3, [9, 2, 0, 243, 244, 0], .null),
  (6, .ifCond .eq 34, 3, [40], .null),
  (9, .iload_n 2, 1, [2], .null),
  (10, .bipush 8, 2, [], .int 8),
  (12, .invokestatic 88, 3, [9, 2, 0, 243, 244, 0], .null),
  (15, .ifCond .eq 25, 3, [40], .null),
  (18, .iload_n 3, 1, [3], .null),
  (19, .bipush 10, 2, [], .int 10),
  (21, .invokestatic 88, 3, [9, 2, 0, 243, 244, 0], .null),
  (24, .ifCond .eq 16, 3, [40], .null),
  (27, .iload 4, 2, [4], .null),
  (29, .iconst 5, 1, [], .int 5),
  (30, .invokestatic 88, 3, [9, 2, 0, 243, 244, 0], .null),
  (33, .ifCond .eq 7, 3, [40], .null),
  (36, .iconst 1, 1, [], .int 1),
  (37, .goto 4, 3, [41], .null),
  (40, .iconst 0, 1, [], .int 0),
  (41, .istore 5, 2, [5], .null),
  (43, .iload 5, 2, [5], .null),
  (45, .ifCond .eq 12, 3, [57], .null),
  (48, .aload_n 0, 1, [0], .null),
  (49, .getfield 92, 3, [9, 1, 0, 185], .null),
  (52, .bipush 100, 2, [], .int 100),
  (54, .if_icmp .lt 5, 3, [59], .null),
  (57, .iconst (-1), 1, [], .int (-1)),
  (58, .ireturn, 1, [], .null),
  (59, .aload_n 0, 1, [0], .null),
  (60, .getfield 11, 3, [9, 0, 0, 184], .null),
  (63, .aload_n 0, 1, [0], .null),
  (64, .getfield 92, 3, [9, 1, 0, 185], .null),
  (67, .new 9, 3, [7, 31], .null),
  (70, .dup, 1, [], .null),
  (71, .iload_n 1, 1, [1], .null),
  (72, .iload_n 2, 1, [2], .null),
  (73, .iload_n 3, 1, [3], .null),
  (74, .iload 4, 2, [4], .null),
  (76, .invokespecial 95, 3, [10, 5, 1, 247, 248, 0], .null),
  (79, .aastore, 1, [], .null),
  (80, .aload_n 0, 1, [0], .null),
  (81, .dup, 1, [], .null),
  (82, .getfield 92, 3, [9, 1, 0, 185], .null),
  (85, .iconst 1, 1, [], .int 1),
  (86, .iadd, 1, [], .null),
  (87, .putfield 92, 3, [9, 1, 0, 185], .null),
  (90, .aload_n 0, 1, [0], .null),
  (91, .getfield 92, 3, [9, 1, 0, 185], .null),
  (94, .iconst 1, 1, [], .int 1),
  (95, .isub, 1, [], .null),
  (96, .ireturn, 1, [], .null)]
def gc_9 : List (Nat × gI) := [(0, .iload_n 0, 1, [0], .null),
  (1, .ifCond .lt 12, 3, [13], .null),
  (4, .iload_n 0, 1, [0], .null),
  (5, .iload_n 1, 1, [1], .null),
  (6, .if_icmp .ge 7, 3, [13], .null),
  (9, .iconst 1, 1, [], .int 1),
  (10, .goto 4, 3, [14], .null),
  (13, .iconst 0, 1, [], .int 0),
  (14, .ireturn, 1, [], .null)]
def gc_10 : List (Nat × gI) := [(0, .aload_n 0, 1, [0], .null),
  (1, .invokespecial 3, 3, [1000, 1, 0, 250, 29, 0], .null),
  (4, .aload_n 0, 1, [0], .null),
  (5, .iload_n 1, 1, [1], .null),
  (6, .putfield 9, 3, [7, 0, 0, 251], .null),
  (9, .aload_n 0, 1, [0], .null),
  (10, .iload_n 2, 1, [2], .null),
  (11, .putfield 15, 3, [7, 1, 0, 253], .null),
  (14, .aload_n 0, 1, [0], .null),
  (15, .iload_n 3, 1, [3], .null),
  (16, .putfield 18, 3, [7, 2, 0, 255], .null),
  (19, .aload_n 0, 1, [0], .null),
  (20, .iload 4, 2, [4], .null),
  (22, .putfield 21, 3, [7, 3, 0, 257], .null),
  (25, .aload_n 0, 1, [0], .null),
  (26, .iconst 0, 1, [], .int 0),
  (27, .putfield 24, 3, [7, 4, 0, 259], .null),
  (30, .aload_n 0, 1, [0], .null),
  (31, .iconst (-1), 1, [], .int (-1)),
  (32, .putfield 27, 3, [7, 8, 0, 266], .null),
  (35, .return_, 1, [], .null)]
def gc_11 : List (Nat × gI) := [(0, .iload_n 1, 1, [1], .null),
  (1, .iconst 5, 1, [], .int 5),
  (2, .invokestatic 88, 3, [9, 2, 0, 243, 244, 0], .null),
  (5, .ifCond .eq 12, 3, [17], .null),
  (8, .iload_n 2, 1, [2], .null),
  (9, .bipush 41, 2, [], .int 41),
  (11, .invokestatic 88, 3, [9, 2, 0, 243, 244, 0], .null),
  (14, .ifCond .ne 5, 3, [19], .null),
  (17, .iconst 0, 1, [], .int 0),
  (18, .ireturn, 1, [], .null),
  (19, .aload_n 0, 1, [0], .null),
  (20, .getfield 23, 3, [9, 4, 0, 188], .null),
  (23, .iload_n 1, 1, [1], .null),
  (24, .aaload, 1, [], .null),
  (25, .iload_n 2, 1, [2], .null),
  (26, .putfield 98, 3, [5, 0, 1, 43], .null),
  (29, .iconst 1, 1, [], .int 1),
  (30, .ireturn, 1, [], .null)]
def gc_12 : List (Nat × gI) := [(0, .iload_n 1, 1, [1], .null),
  (1, .bipush 8, 2, [], .int 8),
  (3, .invokestatic 88, 3, [9, 2, 0, 243, 244, 0], .null),
  (6, .ifCond .eq 15, 3, [21], .null),
  (9, .iload_n 2, 1, [2], .null),
  (10, .iconst 1, 1, [], .int 1),
  (11, .if_icmp .lt 10, 3, [21], .null),
  (14, .iload_n 2, 1, [2], .null),
  (15, .sipush 10000, 3, [], .int 10000),
  (18, .if_icmp .le 5, 3, [23], .null),
  (21, .iconst 0, 1, [], .int 0),
  (22, .ireturn, 1, [], .null),
  (23, .aload_n 0, 1, [0], .null),
  (24, .getfield 28, 3, [9, 5, 0, 189], .null),
  (27, .iload_n 1, 1, [1], .null),
  (28, .iload_n 2, 1, [2], .null),
  (29, .iastore, 1, [], .null),
  (30, .iconst 1, 1, [], .int 1),
  (31, .ireturn, 1, [], .null)]
def gc_13 : List (Nat × gI) := [(0, .aload_n 0, 1, [0], .null),
  (1, .getfield 35, 3, [9, 6, 0, 190], .null),
  (4, .lload_n 1, 1, [1], .null),
  (5, .invokevirtual 101, 3, [14, 2, 1, 299, 301, 0], .null),
  (8, .aload_n 0, 1, [0], .null),
  (9, .getfield 35, 3, [9, 6, 0, 190], .null),
  (12, .lload_n 3, 1, [3], .null),
  (13, .invokevirtual 101, 3, [14, 2, 1, 299, 301, 0], .null),
  (16, .aload_n 0, 1, [0], .null),
  (17, .getfield 35, 3, [9, 6, 0, 190], .null),
  (20, .lload 5, 2, [5], .null),
  (22, .invokevirtual 101, 3, [14, 2, 1, 299, 301, 0], .null),
  (25, .aload_n 0, 1, [0], .null),
  (26, .getfield 35, 3, [9, 6, 0, 190], .null),
  (29, .getfield 105, 3, [6, 1, 1, 73], .null),
  (32, .ireturn, 1, [], .null)]
def gc_14 : List (Nat × gI) := [(0, .bipush 56, 2, [], .int 56),
  (2, .istore_n 3, 1, [3], .null),
  (3, .iload_n 3, 1, [3], .null),
  (4, .ifCond .lt 84, 3, [88], .null),
  (7, .lload_n 1, 1, [1], .null),
  (8, .iload_n 3, 1, [3], .null),
  (9, .lushr, 1, [], .null),
  (10, .l2i, 1, [], .null),
  (11, .sipush 255, 3, [], .int 255),
  (14, .iand, 1, [], .null),
  (15, .istore 4, 2, [4], .null),
  (17, .iload 4, 2, [4], .null),
  (19, .bipush 10, 2, [], .int 10),
  (21, .if_icmp .eq 17, 3, [38], .null),
  (24, .iload 4, 2, [4], .null),
  (26, .bipush 32, 2, [], .int 32),
  (28, .if_icmp .lt 14, 3, [42], .null),
  (31, .iload 4, 2, [4], .null),
  (33, .bipush 126, 2, [], .int 126),
  (35, .if_icmp .gt 7, 3, [42], .null),
  (38, .iconst 1, 1, [], .int 1),
  (39, .goto 4, 3, [43], .null),
  (42, .iconst 0, 1, [], .int 0),
  (43, .istore 5, 2, [5], .null),
  (45, .iload 5, 2, [5], .null),
  (47, .ifCond .eq 35, 3, [82], .null),
  (50, .aload_n 0, 1, [0], .null),
  (51, .getfield 13, 3, [6, 1, 0, 71], .null),
  (54, .sipush 600, 3, [], .int 600),
  (57, .if_icmp .ge 25, 3, [82], .null),
  (60, .aload_n 0, 1, [0], .null),
  (61, .getfield 9, 3, [6, 0, 0, 69], .null),
  (64, .aload_n 0, 1, [0], .null),
  (65, .getfield 13, 3, [6, 1, 0, 71], .null),
  (68, .iload 4, 2, [4], .null),
  (70, .i2c, 1, [], .null),
  (71, .castore, 1, [], .null),
  (72, .aload_n 0, 1, [0], .null),
  (73, .dup, 1, [], .null),
  (74, .getfield 13, 3, [6, 1, 0, 71], .null),
  (77, .iconst 1, 1, [], .int 1),
  (78, .iadd, 1, [], .null),
  (79, .putfield 13, 3, [6, 1, 0, 71], .null),
  (82, .iinc 3 (-8), 3, [3], .int (-8)),
  (85, .goto (-82), 3, [3], .null),
  (88, .return_, 1, [], .null)]
def gc_15 : List (Nat × gI) := [(0, .aload_n 0, 1, [0], .null),
  (1, .getfield 54, 3, [9, 7, 0, 191], .null),
  (4, .aload_n 0, 1, [0], .null),
  (5, .getfield 46, 3, [9, 9, 0, 193], .null),
  (8, .invokevirtual 108, 3, [16, 2, 1, 307, 309, 1], .null),
  (11, .istore_n 1, 1, [1], .null),
  (12, .aload_n 0, 1, [0], .null),
  (13, .getfield 35, 3, [9, 6, 0, 190], .null),
  (16, .iconst 0, 1, [], .int 0),
  (17, .putfield 105, 3, [6, 1, 1, 73], .null),
  (20, .iload_n 1, 1, [1], .null),
  (21, .ifCond .ne 21, 3, [42], .null),
  (24, .aload_n 0, 1, [0], .null),
  (25, .getfield 42, 3, [9, 8, 0, 192], .null),
  (28, .astore_n 2, 1, [2], .null),
  (29, .aload_n 0, 1, [0], .null),
  (30, .aload_n 0, 1, [0], .null),
  (31, .getfield 46, 3, [9, 9, 0, 193], .null),
  (34, .putfield 42, 3, [9, 8, 0, 192], .null),
  (37, .aload_n 0, 1, [0], .null),
  (38, .aload_n 2, 1, [2], .null),
  (39, .putfield 46, 3, [9, 9, 0, 193], .null),
  (42, .iload_n 1, 1, [1], .null),
  (43, .ireturn, 1, [], .null)]
def gc_16 : List (Nat × gI) := [(0, .aload_n 0, 1, [0], .null),
  (1, .aload_n 1, 1, [1], .null),
  (2, .putfield 18, 3, [0, 1, 0, 139], .null),
  (5, .aload_n 0, 1, [0], .null),
  (6, .getfield 18, 3, [0, 1, 0, 139], .null),
  (9, .invokevirtual 22, 3, [17, 1, 1, 311, 313, 2], .null),
  (12, .aload_n 0, 1, [0], .null),
  (13, .iconst 0, 1, [], .int 0),
  (14, .putfield 27, 3, [0, 2, 0, 140], .null),
  (17, .aload_n 0, 1, [0], .null),
  (18, .getfield 12, 3, [0, 0, 0, 138], .null),
  (21, .invokevirtual 31, 3, [18, 1, 1, 315, 317, 3], .null),
  (24, .iconst 0, 1, [], .int 0),
  (25, .istore_n 2, 1, [2], .null),
  (26, .iload_n 2, 1, [2], .null),
  (27, .bipush 16, 2, [], .int 16),
  (29, .if_icmp .gt 34, 3, [63], .null),
  (32, .aload_n 0, 1, [0], .null),
  (33, .getfield 12, 3, [0, 0, 0, 138], .null),
  (36, .getfield 34, 3, [4, 1, 1, 120], .null),
  (39, .sipush 301, 3, [], .int 301),
  (42, .if_icmp .eq 21, 3, [63], .null),
  (45, .aload_n 0, 1, [0], .null),
  (46, .invokevirtual 37, 3, [25, 1, 0, 450, 452, 9], .null),
  (49, .ifCond .ne 8, 3, [57], .null),
  (52, .aload_n 0, 1, [0], .null),
  (53, .getfield 27, 3, [0, 2, 0, 140], .null),
  (56, .ireturn, 1, [], .null),
  (57, .iinc 2 1, 3, [2], .int 1),
  (60, .goto (-34), 3, [26], .null),
  (63, .aload_n 0, 1, [0], .null),
  (64, .getfield 27, 3, [0, 2, 0, 140], .null),
  (67, .ireturn, 1, [], .null)]
def gc_17 : List (Nat × gI) := [(0, .aload_n 0, 1, [0], .null),
  (1, .iconst 0, 1, [], .int 0),
  (2, .putfield 26, 3, [2, 4, 0, 90], .null),
  (5, .aload_n 0, 1, [0], .null),
  (6, .iconst 0, 1, [], .int 0),
  (7, .putfield 30, 3, [2, 5, 0, 91], .null),
  (10, .return_, 1, [], .null)]
def gc_18 : List (Nat × gI) := [(0, .aload_n 0, 1, [0], .null),
  (1, .iconst 0, 1, [], .int 0),
  (2, .putfield 15, 3, [4, 3, 0, 124], .null),
  (5, .aload_n 0, 1, [0], .null),
  (6, .invokevirtual 19, 3, [19, 1, 0, 319, 321, 4], .null),
  (9, .return_, 1, [], .null)]
def gc_19 : List (Nat × gI) := [(0, .aload_n 0, 1, [0], .null),
  (1, .aload_n 0, 1, [0], .null),
  (2, .getfield 15, 3, [4, 3, 0, 124], .null),
  (5, .putfield 22, 3, [4, 2, 0, 122], .null),
  (8, .aload_n 0, 1, [0], .null),
  (9, .getfield 22, 3, [4, 2, 0, 122], .null),
  (12, .aload_n 0, 1, [0], .null),
  (13, .getfield 9, 3, [4, 0, 0, 119], .null),
  (16, .getfield 25, 3, [6, 1, 1, 72], .null),
  (19, .if_icmp .ge 34, 3, [53], .null),
  (22, .aload_n 0, 1, [0], .null),
  (23, .getfield 9, 3, [4, 0, 0, 119], .null),
  (26, .getfield 30, 3, [6, 0, 1, 70], .null),
  (29, .aload_n 0, 1, [0], .null),
  (30, .getfield 22, 3, [4, 2, 0, 122], .null),
  (33, .caload, 1, [], .null),
  (34, .invokestatic 34, 3, [20, 1, 0, 323, 324, 0], .null),
  (37, .ifCond .eq 16, 3, [53], .null),
  (40, .aload_n 0, 1, [0], .null),
  (41, .dup, 1, [], .null),
  (42, .getfield 22, 3, [4, 2, 0, 122], .null),
  (45, .iconst 1, 1, [], .int 1),
  (46, .iadd, 1, [], .null),
  (47, .putfield 22, 3, [4, 2, 0, 122], .null),
  (50, .goto (-42), 3, [8], .null),
  (53, .aload_n 0, 1, [0], .null),
  (54, .aload_n 0, 1, [0], .null),
  (55, .getfield 22, 3, [4, 2, 0, 122], .null),
  (58, .putfield 15, 3, [4, 3, 0, 124], .null),
  (61, .aload_n 0, 1, [0], .null),
  (62, .getfield 22, 3, [4, 2, 0, 122], .null),
  (65, .aload_n 0, 1, [0], .null),
  (66, .getfield 9, 3, [4, 0, 0, 119], .null),
  (69, .getfield 25, 3, [6, 1, 1, 72], .null),
  (72, .if_icmp .lt 11, 3, [83], .null),
  (75, .aload_n 0, 1, [0], .null),
  (76, .sipush 301, 3, [], .int 301),
  (79, .putfield 38, 3, [4, 1, 0, 121], .null),
  (82, .return_, 1, [], .null),
  (83, .aload_n 0, 1, [0], .null),
  (84, .getfield 9, 3, [4, 0, 0, 119], .null),
  (87, .getfield 30, 3, [6, 0, 1, 70], .null),
  (90, .aload_n 0, 1, [0], .null),
  (91, .getfield 22, 3, [4, 2, 0, 122], .null),
  (94, .caload, 1, [], .null),
  (95, .istore_n 1, 1, [1], .null),
  (96, .iload_n 1, 1, [1], .null),
  (97, .bipush 97, 2, [], .int 97),
  (99, .if_icmp .lt 32, 3, [131], .null),
  (102, .iload_n 1, 1, [1], .null),
  (103, .bipush 122, 2, [], .int 122),
  (105, .if_icmp .gt 26, 3, [131], .null),
  (108, .aload_n 0, 1, [0], .null),
  (109, .aload_n 0, 1, [0], .null),
  (110, .bipush 97, 2, [], .int 97),
  (112, .bipush 122, 2, [], .int 122),
  (114, .invokevirtual 41, 3, [21, 3, 0, 326, 328, 5], .null),
  (117, .putfield 15, 3, [4, 3, 0, 124], .null),
  (120, .aload_n 0, 1, [0], .null),
  (121, .aload_n 0, 1, [0], .null),
  (122, .invokevirtual 45, 3, [22, 1, 0, 330, 332, 6], .null),
  (125, .putfield 38, 3, [4, 1, 0, 121], .null),
  (128, .goto 68, 3, [196], .null),
  (131, .iload_n 1, 1, [1], .null),
  (132, .bipush 48, 2, [], .int 48),
  (134, .if_icmp .lt 32, 3, [166], .null),
  (137, .iload_n 1, 1, [1], .null),
  (138, .bipush 57, 2, [], .int 57),
  (140, .if_icmp .gt 26, 3, [166], .null),
  (143, .aload_n 0, 1, [0], .null),
  (144, .aload_n 0, 1, [0], .null),
  (145, .bipush 48, 2, [], .int 48),
  (147, .bipush 57, 2, [], .int 57),
  (149, .invokevirtual 41, 3, [21, 3, 0, 326, 328, 5], .null),
  (152, .putfield 15, 3, [4, 3, 0, 124], .null),
  (155, .aload_n 0, 1, [0], .null),
  (156, .aload_n 0, 1, [0], .null),
  (157, .invokevirtual 49, 3, [24, 1, 0, 379, 381, 8], .null),
  (160, .putfield 38, 3, [4, 1, 0, 121], .null),
  (163, .goto 33, 3, [196], .null),
  (166, .aload_n 0, 1, [0], .null),
  (167, .dup, 1, [], .null),
  (168, .getfield 15, 3, [4, 3, 0, 124], .null),
  (171, .iconst 1, 1, [], .int 1),
  (172, .iadd, 1, [], .null),
  (173, .putfield 15, 3, [4, 3, 0, 124], .null),
  (176, .aload_n 0, 1, [0], .null),
  (177, .ldc 52, 2, [383], .ref 2000000002),
  (179, .iload_n 1, 1, [1], .null),
  (180, .invokevirtual 54, 3, [1002, 2, 0, 384, 385, 475], .null),
  (183, .ifCond .lt 7, 3, [190], .null),
  (186, .iload_n 1, 1, [1], .null),
  (187, .goto 6, 3, [193], .null),
  (190, .sipush 302, 3, [], .int 302),
  (193, .putfield 38, 3, [4, 1, 0, 121], .null),
  (196, .return_, 1, [], .null)]
def gc_20 : List (Nat × gI) := [(0, .iload_n 0, 1, [0], .null),
  (1, .bipush 10, 2, [], .int 10),
  (3, .if_icmp .eq 9, 3, [12], .null),
  (6, .iload_n 0, 1, [0], .null),
  (7, .bipush 32, 2, [], .int 32),
  (9, .if_icmp .ne 7, 3, [16], .null),
  (12, .iconst 1, 1, [], .int 1),
  (13, .goto 4, 3, [17], .null),
  (16, .iconst 0, 1, [], .int 0),
  (17, .ireturn, 1, [], .null)]
def gc_21 : List (Nat × gI) := [(0, .aload_n 0, 1, [0], .null),
  (1, .getfield 22, 3, [4, 2, 0, 122], .null),
  (4, .istore_n 3, 1, [3], .null),
  (5, .iload_n 3, 1, [3], .null),
  (6, .aload_n 0, 1, [0], .null),
  (7, .getfield 9, 3, [4, 0, 0, 119], .null),
  (10, .getfield 25, 3, [6, 1, 1, 72], .null),
  (13, .if_icmp .ge 35, 3, [48], .null),
  (16, .aload_n 0, 1, [0], .null),
  (17, .getfield 9, 3, [4, 0, 0, 119], .null),
  (20, .getfield 30, 3, [6, 0, 1, 70], .null),
  (23, .iload_n 3, 1, [3], .null),
  (24, .caload, 1, [], .null),
  (25, .iload_n 1, 1, [1], .null),
  (26, .if_icmp .lt 22, 3, [48], .null),
  (29, .aload_n 0, 1, [0], .null),
  (30, .getfield 9, 3, [4, 0, 0, 119], .null),
  (33, .getfield 30, 3, [6, 0, 1, 70], .null),
  (36, .iload_n 3, 1, [3], .null),
  (37, .caload, 1, [], .null),
  (38, .iload_n 2, 1, [2], .null),
  (39, .if_icmp .gt 9, 3, [48], .null),
  (42, .iinc 3 1, 3, [3], .int 1),
  (45, .goto (-40), 3, [5], .null),
  (48, .iload_n 3, 1, [3], .null),
  (49, .ireturn, 1, [], .null)]
def gc_22 : List (Nat × gI) := [(0, .aload_n 0, 1, [0], .null),
  (1, .getfield 15, 3, [4, 3, 0, 124], .null),
  (4, .aload_n 0, 1, [0], .null),
  (5, .getfield 22, 3, [4, 2, 0, 122], .null),
  (8, .isub, 1, [], .null),
  (9, .bipush 8, 2, [], .int 8),
  (11, .if_icmp .le 7, 3, [18], .null),
  (14, .sipush 302, 3, [], .int 302),
  (17, .ireturn, 1, [], .null),
  (18, .iconst 0, 1, [], .int 0),
  (19, .istore_n 1, 1, [1], .null),
  (20, .iload_n 1, 1, [1], .null),
  (21, .bipush 12, 2, [], .int 12),
  (23, .if_icmp .ge 23, 3, [46], .null),
  (26, .aload_n 0, 1, [0], .null),
  (27, .iload_n 1, 1, [1], .null),
  (28, .invokevirtual 60, 3, [23, 2, 0, 334, 336, 7], .null),
  (31, .ifCond .eq 9, 3, [40], .null),
  (34, .sipush 200, 3, [], .int 200),
  (37, .iload_n 1, 1, [1], .null),
  (38, .iadd, 1, [], .null),
  (39, .ireturn, 1, [], .null),
  (40, .iinc 1 1, 3, [1], .int 1),
  (43, .goto (-23), 3, [20], .null),
  (46, .sipush 302, 3, [], .int 302),
  (49, .ireturn, 1, [], .null)]
def gc_23 : List (Nat × gI) := [(0, .iconst 0, 1, [], .int 0),
  (1, .istore_n 2, 1, [2], .null),
  (2, .iload_n 2, 1, [2], .null),
  (3, .bipush 8, 2, [], .int 8),
  (5, .if_icmp .ge 59, 3, [64], .null),
  (8, .aload_n 0, 1, [0], .null),
  (9, .getfield 22, 3, [4, 2, 0, 122], .null),
  (12, .iload_n 2, 1, [2], .null),
  (13, .iadd, 1, [], .null),
  (14, .aload_n 0, 1, [0], .null),
  (15, .getfield 15, 3, [4, 3, 0, 124], .null),
  (18, .if_icmp .ge 20, 3, [38], .null),
  (21, .aload_n 0, 1, [0], .null),
  (22, .getfield 9, 3, [4, 0, 0, 119], .null),
  (25, .getfield 30, 3, [6, 0, 1, 70], .null),
  (28, .aload_n 0, 1, [0], .null),
  (29, .getfield 22, 3, [4, 2, 0, 122], .null),
  (32, .iload_n 2, 1, [2], .null),
  (33, .iadd, 1, [], .null),
  (34, .caload, 1, [], .null),
  (35, .goto 5, 3, [40], .null),
  (38, .bipush 32, 2, [], .int 32),
  (40, .istore_n 3, 1, [3], .null),
  (41, .ldc 64, 2, [338], .ref 2000000001),
  (43, .iload_n 1, 1, [1], .null),
  (44, .bipush 8, 2, [], .int 8),
  (46, .imul, 1, [], .null),
  (47, .iload_n 2, 1, [2], .null),
  (48, .iadd, 1, [], .null),
  (49, .invokevirtual 66, 3, [1001, 2, 0, 339, 340, 430], .null),
  (52, .iload_n 3, 1, [3], .null),
  (53, .if_icmp .eq 5, 3, [58], .null),
  (56, .iconst 0, 1, [], .int 0),
  (57, .ireturn, 1, [], .null),
  (58, .iinc 2 1, 3, [2], .int 1),
  (61, .goto (-59), 3, [2], .null),
  (64, .iconst 1, 1, [], .int 1),
  (65, .ireturn, 1, [], .null)]
def gc_24 : List (Nat × gI) := [(0, .aload_n 0, 1, [0], .null),
  (1, .getfield 15, 3, [4, 3, 0, 124], .null),
  (4, .aload_n 0, 1, [0], .null),
  (5, .getfield 22, 3, [4, 2, 0, 122], .null),
  (8, .isub, 1, [], .null),
  (9, .iconst 4, 1, [], .int 4),
  (10, .if_icmp .le 7, 3, [17], .null),
  (13, .sipush 302, 3, [], .int 302),
  (16, .ireturn, 1, [], .null),
  (17, .aload_n 0, 1, [0], .null),
  (18, .iconst 0, 1, [], .int 0),
  (19, .putfield 70, 3, [4, 4, 0, 125], .null),
  (22, .aload_n 0, 1, [0], .null),
  (23, .getfield 22, 3, [4, 2, 0, 122], .null),
  (26, .istore_n 1, 1, [1], .null),
  (27, .iload_n 1, 1, [1], .null),
  (28, .aload_n 0, 1, [0], .null),
  (29, .getfield 15, 3, [4, 3, 0, 124], .null),
  (32, .if_icmp .ge 33, 3, [65], .null),
  (35, .aload_n 0, 1, [0], .null),
  (36, .aload_n 0, 1, [0], .null),
  (37, .getfield 70, 3, [4, 4, 0, 125], .null),
  (40, .bipush 10, 2, [], .int 10),
  (42, .imul, 1, [], .null),
  (43, .aload_n 0, 1, [0], .null),
  (44, .getfield 9, 3, [4, 0, 0, 119], .null),
  (47, .getfield 30, 3, [6, 0, 1, 70], .null),
  (50, .iload_n 1, 1, [1], .null),
  (51, .caload, 1, [], .null),
  (52, .bipush 48, 2, [], .int 48),
  (54, .isub, 1, [], .null),
  (55, .iadd, 1, [], .null),
  (56, .putfield 70, 3, [4, 4, 0, 125], .null),
  (59, .iinc 1 1, 3, [1], .int 1),
  (62, .goto (-35), 3, [27], .null),
  (65, .sipush 300, 3, [], .int 300),
  (68, .ireturn, 1, [], .null)]
def gc_25 : List (Nat × gI) := [(0, .aload_n 0, 1, [0], .null),
  (1, .getfield 12, 3, [0, 0, 0, 138], .null),
  (4, .invokevirtual 41, 3, [26, 1, 1, 454, 456, 10], .null),
  (7, .ifCond .ne 9, 3, [16], .null),
  (10, .aload_n 0, 1, [0], .null),
  (11, .iconst 1, 1, [], .int 1),
  (12, .invokevirtual 44, 3, [27, 2, 0, 458, 460, 11], .null),
  (15, .ireturn, 1, [], .null),
  (16, .aload_n 0, 1, [0], .null),
  (17, .getfield 18, 3, [0, 1, 0, 139], .null),
  (20, .getfield 48, 3, [2, 5, 1, 92], .null),
  (23, .bipush 16, 2, [], .int 16),
  (25, .if_icmp .lt 9, 3, [34], .null),
  (28, .aload_n 0, 1, [0], .null),
  (29, .iconst 5, 1, [], .int 5),
  (30, .invokevirtual 44, 3, [27, 2, 0, 458, 460, 11], .null),
  (33, .ireturn, 1, [], .null),
  (34, .aload_n 0, 1, [0], .null),
  (35, .getfield 12, 3, [0, 0, 0, 138], .null),
  (38, .invokevirtual 51, 3, [28, 1, 1, 462, 464, 12], .null),
  (41, .istore_n 1, 1, [1], .null),
  (42, .aload_n 0, 1, [0], .null),
  (43, .getfield 12, 3, [0, 0, 0, 138], .null),
  (46, .invokevirtual 55, 3, [19, 1, 1, 466, 321, 4], .null),
  (49, .aload_n 0, 1, [0], .null),
  (50, .sipush 204, 3, [], .int 204),
  (53, .invokevirtual 58, 3, [29, 2, 0, 467, 469, 13], .null),
  (56, .ifCond .eq 20, 3, [76], .null),
  (59, .aload_n 0, 1, [0], .null),
  (60, .iconst 1, 1, [], .int 1),
  (61, .invokevirtual 61, 3, [30, 2, 0, 471, 473, 14], .null),
  (64, .ifCond .eq 12, 3, [76], .null),
  (67, .aload_n 0, 1, [0], .null),
  (68, .bipush 59, 2, [], .int 59),
  (70, .invokevirtual 58, 3, [29, 2, 0, 467, 469, 13], .null),
  (73, .ifCond .ne 5, 3, [78], .null),
  (76, .iconst 0, 1, [], .int 0),
  (77, .ireturn, 1, [], .null),
  (78, .aload_n 0, 1, [0], .null),
  (79, .getfield 18, 3, [0, 1, 0, 139], .null),
  (82, .iload_n 1, 1, [1], .null),
  (83, .invokevirtual 64, 3, [37, 2, 1, 499, 501, 21], .null),
  (86, .iconst 1, 1, [], .int 1),
  (87, .ireturn, 1, [], .null)]
def gc_26 : List (Nat × gI) := [(0, .aload_n 0, 1, [0], .null),
  (1, .getfield 38, 3, [4, 1, 0, 121], .null),
  (4, .sipush 200, 3, [], .int 200),
  (7, .if_icmp .lt 17, 3, [24], .null),
  (10, .aload_n 0, 1, [0], .null),
  (11, .getfield 38, 3, [4, 1, 0, 121], .null),
  (14, .sipush 204, 3, [], .int 204),
  (17, .if_icmp .ge 7, 3, [24], .null),
  (20, .iconst 1, 1, [], .int 1),
  (21, .goto 4, 3, [25], .null),
  (24, .iconst 0, 1, [], .int 0),
  (25, .ireturn, 1, [], .null)]
def gc_27 : List (Nat × gI) := [(0, .aload_n 0, 1, [0], .null),
  (1, .iload_n 1, 1, [1], .null),
  (2, .bipush 16, 2, [], .int 16),
  (4, .aload_n 0, 1, [0], .null),
  (5, .getfield 12, 3, [0, 0, 0, 138], .null),
  (8, .getfield 91, 3, [4, 2, 1, 123], .null),
  (11, .imul, 1, [], .null),
  (12, .iadd, 1, [], .null),
  (13, .putfield 27, 3, [0, 2, 0, 140], .null),
  (16, .iconst 0, 1, [], .int 0),
  (17, .ireturn, 1, [], .null)]
def gc_28 : List (Nat × gI) := [(0, .aload_n 0, 1, [0], .null),
  (1, .getfield 38, 3, [4, 1, 0, 121], .null),
  (4, .sipush 200, 3, [], .int 200),
  (7, .isub, 1, [], .null),
  (8, .iconst 1, 1, [], .int 1),
  (9, .iadd, 1, [], .null),
  (10, .ireturn, 1, [], .null)]
def gc_29 : List (Nat × gI) := [(0, .aload_n 0, 1, [0], .null),
  (1, .getfield 12, 3, [0, 0, 0, 138], .null),
  (4, .getfield 34, 3, [4, 1, 1, 120], .null),
  (7, .iload_n 1, 1, [1], .null),
  (8, .if_icmp .eq 9, 3, [17], .null),
  (11, .aload_n 0, 1, [0], .null),
  (12, .iconst 1, 1, [], .int 1),
  (13, .invokevirtual 44, 3, [27, 2, 0, 458, 460, 11], .null),
  (16, .ireturn, 1, [], .null),
  (17, .aload_n 0, 1, [0], .null),
  (18, .getfield 12, 3, [0, 0, 0, 138], .null),
  (21, .invokevirtual 55, 3, [19, 1, 1, 466, 321, 4], .null),
  (24, .iconst 1, 1, [], .int 1),
  (25, .ireturn, 1, [], .null)]
def gc_30 : List (Nat × gI) := [(0, .aload_n 0, 1, [0], .null),
  (1, .iload_n 1, 1, [1], .null),
  (2, .invokevirtual 68, 3, [31, 2, 0, 475, 477, 15], .null),
  (5, .ifCond .ne 5, 3, [10], .null),
  (8, .iconst 0, 1, [], .int 0),
  (9, .ireturn, 1, [], .null),
  (10, .iconst 0, 1, [], .int 0),
  (11, .istore_n 2, 1, [2], .null),
  (12, .iload_n 2, 1, [2], .null),
  (13, .sipush 600, 3, [], .int 600),
  (16, .if_icmp .ge 48, 3, [64], .null),
  (19, .aload_n 0, 1, [0], .null),
  (20, .getfield 12, 3, [0, 0, 0, 138], .null),
  (23, .getfield 34, 3, [4, 1, 1, 120], .null),
  (26, .sipush 205, 3, [], .int 205),
  (29, .if_icmp .ne 35, 3, [64], .null),
  (32, .aload_n 0, 1, [0], .null),
  (33, .getfield 12, 3, [0, 0, 0, 138], .null),
  (36, .invokevirtual 55, 3, [19, 1, 1, 466, 321, 4], .null),
  (39, .aload_n 0, 1, [0], .null),
  (40, .iload_n 1, 1, [1], .null),
  (41, .invokevirtual 68, 3, [31, 2, 0, 475, 477, 15], .null),
  (44, .ifCond .ne 5, 3, [49], .null),
  (47, .iconst 0, 1, [], .int 0),
  (48, .ireturn, 1, [], .null),
  (49, .aload_n 0, 1, [0], .null),
  (50, .getfield 18, 3, [0, 1, 0, 139], .null),
  (53, .bipush (-15), 2, [], .int (-15)),
  (55, .invokevirtual 73, 3, [35, 2, 1, 491, 493, 19], .null),
  (58, .iinc 2 1, 3, [2], .int 1),
  (61, .goto (-49), 3, [12], .null),
  (64, .iconst 1, 1, [], .int 1),
  (65, .ireturn, 1, [], .null)]
def gc_31 : List (Nat × gI) := [(0, .aload_n 0, 1, [0], .null),
  (1, .iload_n 1, 1, [1], .null),
  (2, .invokevirtual 76, 3, [32, 2, 0, 479, 481, 16], .null),
  (5, .ifCond .ne 5, 3, [10], .null),
  (8, .iconst 0, 1, [], .int 0),
  (9, .ireturn, 1, [], .null),
  (10, .aload_n 0, 1, [0], .null),
  (11, .getfield 12, 3, [0, 0, 0, 138], .null),
  (14, .getfield 34, 3, [4, 1, 1, 120], .null),
  (17, .bipush 60, 2, [], .int 60),
  (19, .if_icmp .eq 17, 3, [36], .null),
  (22, .aload_n 0, 1, [0], .null),
  (23, .getfield 12, 3, [0, 0, 0, 138], .null),
  (26, .getfield 34, 3, [4, 1, 1, 120], .null),
  (29, .bipush 61, 2, [], .int 61),
  (31, .if_icmp .eq 5, 3, [36], .null),
  (34, .iconst 1, 1, [], .int 1),
  (35, .ireturn, 1, [], .null),
  (36, .aload_n 0, 1, [0], .null),
  (37, .getfield 12, 3, [0, 0, 0, 138], .null),
  (40, .getfield 34, 3, [4, 1, 1, 120], .null),
  (43, .bipush 60, 2, [], .int 60),
  (45, .if_icmp .ne 8, 3, [53], .null),
  (48, .bipush (-13), 2, [], .int (-13)),
  (50, .goto 5, 3, [55], .null),
  (53, .bipush (-14), 2, [], .int (-14)),
  (55, .istore_n 2, 1, [2], .null),
  (56, .aload_n 0, 1, [0], .null),
  (57, .getfield 12, 3, [0, 0, 0, 138], .null),
  (60, .invokevirtual 55, 3, [19, 1, 1, 466, 321, 4], .null),
  (63, .aload_n 0, 1, [0], .null),
  (64, .iload_n 1, 1, [1], .null),
  (65, .invokevirtual 76, 3, [32, 2, 0, 479, 481, 16], .null),
  (68, .ifCond .ne 5, 3, [73], .null),
  (71, .iconst 0, 1, [], .int 0),
  (72, .ireturn, 1, [], .null),
  (73, .aload_n 0, 1, [0], .null),
  (74, .getfield 18, 3, [0, 1, 0, 139], .null),
  (77, .iload_n 2, 1, [2], .null),
  (78, .invokevirtual 73, 3, [35, 2, 1, 491, 493, 19], .null),
  (81, .iconst 1, 1, [], .int 1),
  (82, .ireturn, 1, [], .null)]
def gc_32 : List (Nat × gI) := [(0, .aload_n 0, 1, [0], .null),
  (1, .iload_n 1, 1, [1], .null),
  (2, .invokevirtual 79, 3, [33, 2, 0, 483, 485, 17], .null),
  (5, .ifCond .ne 5, 3, [10], .null),
  (8, .iconst 0, 1, [], .int 0),
  (9, .ireturn, 1, [], .null),
  (10, .iconst 0, 1, [], .int 0),
  (11, .istore_n 2, 1, [2], .null),
  (12, .iload_n 2, 1, [2], .null),
  (13, .sipush 600, 3, [], .int 600),
  (16, .if_icmp .ge 78, 3, [94], .null),
  (19, .aload_n 0, 1, [0], .null),
  (20, .getfield 12, 3, [0, 0, 0, 138], .null),
  (23, .getfield 34, 3, [4, 1, 1, 120], .null),
  (26, .bipush 43, 2, [], .int 43),
  (28, .if_icmp .eq 15, 3, [43], .null),
  (31, .aload_n 0, 1, [0], .null),
  (32, .getfield 12, 3, [0, 0, 0, 138], .null),
  (35, .getfield 34, 3, [4, 1, 1, 120], .null),
  (38, .bipush 45, 2, [], .int 45),
  (40, .if_icmp .ne 54, 3, [94], .null),
  (43, .aload_n 0, 1, [0], .null),
  (44, .getfield 12, 3, [0, 0, 0, 138], .null),
  (47, .getfield 34, 3, [4, 1, 1, 120], .null),
  (50, .bipush 43, 2, [], .int 43),
  (52, .if_icmp .ne 8, 3, [60], .null),
  (55, .bipush (-11), 2, [], .int (-11)),
  (57, .goto 5, 3, [62], .null),
  (60, .bipush (-12), 2, [], .int (-12)),
  (62, .istore_n 3, 1, [3], .null),
  (63, .aload_n 0, 1, [0], .null),
  (64, .getfield 12, 3, [0, 0, 0, 138], .null),
  (67, .invokevirtual 55, 3, [19, 1, 1, 466, 321, 4], .null),
  (70, .aload_n 0, 1, [0], .null),
  (71, .iload_n 1, 1, [1], .null),
  (72, .invokevirtual 79, 3, [33, 2, 0, 483, 485, 17], .null),
  (75, .ifCond .ne 5, 3, [80], .null),
  (78, .iconst 0, 1, [], .int 0),
  (79, .ireturn, 1, [], .null),
  (80, .aload_n 0, 1, [0], .null),
  (81, .getfield 18, 3, [0, 1, 0, 139], .null),
  (84, .iload_n 3, 1, [3], .null),
  (85, .invokevirtual 73, 3, [35, 2, 1, 491, 493, 19], .null),
  (88, .iinc 2 1, 3, [2], .int 1),
  (91, .goto (-79), 3, [12], .null),
  (94, .iconst 1, 1, [], .int 1),
  (95, .ireturn, 1, [], .null)]
def gc_33 : List (Nat × gI) := [(0, .aload_n 0, 1, [0], .null),
  (1, .getfield 12, 3, [0, 0, 0, 138], .null),
  (4, .getfield 34, 3, [4, 1, 1, 120], .null),
  (7, .bipush 40, 2, [], .int 40),
  (9, .if_icmp .ne 7, 3, [16], .null),
  (12, .iconst 1, 1, [], .int 1),
  (13, .goto 4, 3, [17], .null),
  (16, .iconst 0, 1, [], .int 0),
  (17, .istore_n 2, 1, [2], .null),
  (18, .aload_n 0, 1, [0], .null),
  (19, .getfield 12, 3, [0, 0, 0, 138], .null),
  (22, .getfield 34, 3, [4, 1, 1, 120], .null),
  (25, .sipush 300, 3, [], .int 300),
  (28, .if_icmp .ne 7, 3, [35], .null),
  (31, .iconst 1, 1, [], .int 1),
  (32, .goto 4, 3, [36], .null),
  (35, .iconst 0, 1, [], .int 0),
  (36, .istore_n 3, 1, [3], .null),
  (37, .iload_n 2, 1, [2], .null),
  (38, .ifCond .ne 23, 3, [61], .null),
  (41, .iload_n 3, 1, [3], .null),
  (42, .ifCond .ne 19, 3, [61], .null),
  (45, .aload_n 0, 1, [0], .null),
  (46, .getfield 12, 3, [0, 0, 0, 138], .null),
  (49, .invokevirtual 82, 3, [34, 1, 1, 487, 489, 18], .null),
  (52, .ifCond .ne 9, 3, [61], .null),
  (55, .aload_n 0, 1, [0], .null),
  (56, .iconst 1, 1, [], .int 1),
  (57, .invokevirtual 44, 3, [27, 2, 0, 458, 460, 11], .null),
  (60, .ireturn, 1, [], .null),
  (61, .iload_n 1, 1, [1], .null),
  (62, .iconst 5, 1, [], .int 5),
  (63, .if_icmp .le 9, 3, [72], .null),
  (66, .aload_n 0, 1, [0], .null),
  (67, .iconst 5, 1, [], .int 5),
  (68, .invokevirtual 44, 3, [27, 2, 0, 458, 460, 11], .null),
  (71, .ireturn, 1, [], .null),
  (72, .iload_n 3, 1, [3], .null),
  (73, .ifCond .eq 20, 3, [93], .null),
  (76, .aload_n 0, 1, [0], .null),
  (77, .getfield 18, 3, [0, 1, 0, 139], .null),
  (80, .aload_n 0, 1, [0], .null),
  (81, .getfield 12, 3, [0, 0, 0, 138], .null),
  (84, .getfield 85, 3, [4, 4, 1, 126], .null),
  (87, .invokevirtual 73, 3, [35, 2, 1, 491, 493, 19], .null),
  (90, .goto 23, 3, [113], .null),
  (93, .iload_n 2, 1, [2], .null),
  (94, .ifCond .ne 19, 3, [113], .null),
  (97, .aload_n 0, 1, [0], .null),
  (98, .getfield 18, 3, [0, 1, 0, 139], .null),
  (101, .iconst (-1), 1, [], .int (-1)),
  (102, .aload_n 0, 1, [0], .null),
  (103, .getfield 12, 3, [0, 0, 0, 138], .null),
  (106, .invokevirtual 88, 3, [36, 1, 1, 495, 497, 20], .null),
  (109, .isub, 1, [], .null),
  (110, .invokevirtual 73, 3, [35, 2, 1, 491, 493, 19], .null),
  (113, .aload_n 0, 1, [0], .null),
  (114, .getfield 12, 3, [0, 0, 0, 138], .null),
  (117, .invokevirtual 55, 3, [19, 1, 1, 466, 321, 4], .null),
  (120, .iload_n 2, 1, [2], .null),
  (121, .ifCond .eq 22, 3, [143], .null),
  (124, .aload_n 0, 1, [0], .null),
  (125, .iload_n 1, 1, [1], .null),
  (126, .iconst 1, 1, [], .int 1),
  (127, .iadd, 1, [], .null),
  (128, .invokevirtual 61, 3, [30, 2, 0, 471, 473, 14], .null),
  (131, .ifCond .eq 16, 3, [147], .null),
  (134, .aload_n 0, 1, [0], .null),
  (135, .bipush 41, 2, [], .int 41),
  (137, .invokevirtual 58, 3, [29, 2, 0, 467, 469, 13], .null),
  (140, .ifCond .eq 7, 3, [147], .null),
  (143, .iconst 1, 1, [], .int 1),
  (144, .goto 4, 3, [148], .null),
  (147, .iconst 0, 1, [], .int 0),
  (148, .ireturn, 1, [], .null)]
def gc_34 : List (Nat × gI) := [(0, .aload_n 0, 1, [0], .null),
  (1, .getfield 38, 3, [4, 1, 0, 121], .null),
  (4, .sipush 206, 3, [], .int 206),
  (7, .if_icmp .lt 17, 3, [24], .null),
  (10, .aload_n 0, 1, [0], .null),
  (11, .getfield 38, 3, [4, 1, 0, 121], .null),
  (14, .sipush 212, 3, [], .int 212),
  (17, .if_icmp .ge 7, 3, [24], .null),
  (20, .iconst 1, 1, [], .int 1),
  (21, .goto 4, 3, [25], .null),
  (24, .iconst 0, 1, [], .int 0),
  (25, .ireturn, 1, [], .null)]
def gc_35 : List (Nat × gI) := [(0, .aload_n 0, 1, [0], .null),
  (1, .getfield 26, 3, [2, 4, 0, 90], .null),
  (4, .aload_n 0, 1, [0], .null),
  (5, .getfield 11, 3, [2, 0, 0, 86], .null),
  (8, .arraylength, 1, [], .null),
  (9, .if_icmp .ge 23, 3, [32], .null),
  (12, .aload_n 0, 1, [0], .null),
  (13, .getfield 11, 3, [2, 0, 0, 86], .null),
  (16, .aload_n 0, 1, [0], .null),
  (17, .getfield 26, 3, [2, 4, 0, 90], .null),
  (20, .iload_n 1, 1, [1], .null),
  (21, .iastore, 1, [], .null),
  (22, .aload_n 0, 1, [0], .null),
  (23, .dup, 1, [], .null),
  (24, .getfield 26, 3, [2, 4, 0, 90], .null),
  (27, .iconst 1, 1, [], .int 1),
  (28, .iadd, 1, [], .null),
  (29, .putfield 26, 3, [2, 4, 0, 90], .null),
  (32, .return_, 1, [], .null)]
def gc_36 : List (Nat × gI) := [(0, .aload_n 0, 1, [0], .null),
  (1, .getfield 38, 3, [4, 1, 0, 121], .null),
  (4, .sipush 206, 3, [], .int 206),
  (7, .isub, 1, [], .null),
  (8, .ireturn, 1, [], .null)]
def gc_37 : List (Nat × gI) := [(0, .aload_n 0, 1, [0], .null),
  (1, .getfield 30, 3, [2, 5, 0, 91], .null),
  (4, .bipush 16, 2, [], .int 16),
  (6, .if_icmp .ge 36, 3, [42], .null),
  (9, .aload_n 0, 1, [0], .null),
  (10, .getfield 20, 3, [2, 2, 0, 88], .null),
  (13, .aload_n 0, 1, [0], .null),
  (14, .getfield 30, 3, [2, 5, 0, 91], .null),
  (17, .iload_n 1, 1, [1], .null),
  (18, .iastore, 1, [], .null),
  (19, .aload_n 0, 1, [0], .null),
  (20, .getfield 17, 3, [2, 1, 0, 87], .null),
  (23, .aload_n 0, 1, [0], .null),
  (24, .getfield 30, 3, [2, 5, 0, 91], .null),
  (27, .aload_n 0, 1, [0], .null),
  (28, .getfield 26, 3, [2, 4, 0, 90], .null),
  (31, .iastore, 1, [], .null),
  (32, .aload_n 0, 1, [0], .null),
  (33, .dup, 1, [], .null),
  (34, .getfield 30, 3, [2, 5, 0, 91], .null),
  (37, .iconst 1, 1, [], .int 1),
  (38, .iadd, 1, [], .null),
  (39, .putfield 30, 3, [2, 5, 0, 91], .null),
  (42, .return_, 1, [], .null)]
def gc_38 : List (Nat × gI) := [(0, .iload_n 1, 1, [1], .null),
  (1, .aload_n 0, 1, [0], .null),
  (2, .getfield 92, 3, [9, 1, 0, 185], .null),
  (5, .invokestatic 88, 3, [9, 2, 0, 243, 244, 0], .null),
  (8, .ifCond .eq 11, 3, [19], .null),
  (11, .iload_n 2, 1, [2], .null),
  (12, .iconst 5, 1, [], .int 5),
  (13, .invokestatic 88, 3, [9, 2, 0, 243, 244, 0], .null),
  (16, .ifCond .ne 5, 3, [21], .null),
  (19, .iconst (-1), 1, [], .int (-1)),
  (20, .ireturn, 1, [], .null),
  (21, .aload_n 0, 1, [0], .null),
  (22, .getfield 11, 3, [9, 0, 0, 184], .null),
  (25, .iload_n 1, 1, [1], .null),
  (26, .aaload, 1, [], .null),
  (27, .astore_n 3, 1, [3], .null),
  (28, .aload_n 3, 1, [3], .null),
  (29, .getfield 112, 3, [7, 4, 1, 260], .null),
  (32, .ifCond .eq 21, 3, [53], .null),
  (35, .aload_n 3, 1, [3], .null),
  (36, .getfield 112, 3, [7, 4, 1, 260], .null),
  (39, .iconst 2, 1, [], .int 2),
  (40, .if_icmp .eq 13, 3, [53], .null),
  (43, .aload_n 3, 1, [3], .null),
  (44, .getfield 112, 3, [7, 4, 1, 260], .null),
  (47, .iconst 4, 1, [], .int 4),
  (48, .if_icmp .eq 5, 3, [53], .null),
  (51, .iconst (-1), 1, [], .int (-1)),
  (52, .ireturn, 1, [], .null),
  (53, .aload_n 0, 1, [0], .null),
  (54, .aload_n 3, 1, [3], .null),
  (55, .iload_n 2, 1, [2], .null),
  (56, .invokevirtual 115, 3, [39, 3, 0, 508, 510, 22], .null),
  (59, .aload_n 3, 1, [3], .null),
  (60, .getfield 112, 3, [7, 4, 1, 260], .null),
  (63, .ireturn, 1, [], .null)]
def gc_39 : List (Nat × gI) := [(0, .aload_n 0, 1, [0], .null),
  (1, .aload_n 1, 1, [1], .null),
  (2, .invokevirtual 119, 3, [40, 2, 0, 512, 514, 23], .null),
  (5, .istore_n 3, 1, [3], .null),
  (6, .iload_n 3, 1, [3], .null),
  (7, .iconst 1, 1, [], .int 1),
  (8, .if_icmp .eq 11, 3, [19], .null),
  (11, .aload_n 1, 1, [1], .null),
  (12, .iload_n 3, 1, [3], .null),
  (13, .putfield 112, 3, [7, 4, 1, 260], .null),
  (16, .goto 33, 3, [49], .null),
  (19, .aload_n 0, 1, [0], .null),
  (20, .getfield 23, 3, [9, 4, 0, 188], .null),
  (23, .iload_n 2, 1, [2], .null),
  (24, .aaload, 1, [], .null),
  (25, .invokevirtual 256, 3, [45, 1, 1, 531, 533, 27], .null),
  (28, .ifCond .eq 16, 3, [44], .null),
  (31, .aload_n 0, 1, [0], .null),
  (32, .aload_n 1, 1, [1], .null),
  (33, .iload_n 2, 1, [2], .null),
  (34, .aload_n 0, 1, [0], .null),
  (35, .getfield 125, 3, [9, 16, 0, 200], .null),
  (38, .invokevirtual 174, 3, [46, 4, 0, 535, 537, 28], .null),
  (41, .goto 8, 3, [49], .null),
  (44, .aload_n 1, 1, [1], .null),
  (45, .iconst 2, 1, [], .int 2),
  (46, .putfield 112, 3, [7, 4, 1, 260], .null),
  (49, .return_, 1, [], .null)]
def gc_40 : List (Nat × gI) := [(0, .aload_n 0, 1, [0], .null),
  (1, .getfield 58, 3, [9, 10, 0, 194], .null),
  (4, .iconst 0, 1, [], .int 0),
  (5, .aload_n 1, 1, [1], .null),
  (6, .getfield 156, 3, [7, 1, 1, 254], .null),
  (9, .iastore, 1, [], .null),
  (10, .aload_n 0, 1, [0], .null),
  (11, .getfield 58, 3, [9, 10, 0, 194], .null),
  (14, .iconst 1, 1, [], .int 1),
  (15, .aload_n 1, 1, [1], .null),
  (16, .getfield 243, 3, [7, 2, 1, 256], .null),
  (19, .iastore, 1, [], .null),
  (20, .aload_n 0, 1, [0], .null),
  (21, .getfield 58, 3, [9, 10, 0, 194], .null),
  (24, .iconst 2, 1, [], .int 2),
  (25, .aload_n 1, 1, [1], .null),
  (26, .getfield 246, 3, [7, 3, 1, 258], .null),
  (29, .iastore, 1, [], .null),
  (30, .aload_n 0, 1, [0], .null),
  (31, .getfield 58, 3, [9, 10, 0, 194], .null),
  (34, .iconst 3, 1, [], .int 3),
  (35, .aload_n 0, 1, [0], .null),
  (36, .invokevirtual 249, 3, [41, 1, 0, 516, 518, 24], .null),
  (39, .iastore, 1, [], .null),
  (40, .aload_n 0, 1, [0], .null),
  (41, .getfield 58, 3, [9, 10, 0, 194], .null),
  (44, .iconst 4, 1, [], .int 4),
  (45, .aload_n 0, 1, [0], .null),
  (46, .getfield 28, 3, [9, 5, 0, 189], .null),
  (49, .aload_n 1, 1, [1], .null),
  (50, .getfield 156, 3, [7, 1, 1, 254], .null),
  (53, .iaload, 1, [], .null),
  (54, .iastore, 1, [], .null),
  (55, .aload_n 0, 1, [0], .null),
  (56, .getfield 58, 3, [9, 10, 0, 194], .null),
  (59, .iconst 5, 1, [], .int 5),
  (60, .aload_n 1, 1, [1], .null),
  (61, .getfield 210, 3, [7, 0, 1, 252], .null),
  (64, .iastore, 1, [], .null),
  (65, .aload_n 0, 1, [0], .null),
  (66, .getfield 42, 3, [9, 8, 0, 192], .null),
  (69, .aload_n 0, 1, [0], .null),
  (70, .getfield 58, 3, [9, 10, 0, 194], .null),
  (73, .invokevirtual 252, 3, [42, 2, 1, 520, 522, 25], .null),
  (76, .ireturn, 1, [], .null)]
def gc_41 : List (Nat × gI) := [(0, .aload_n 0, 1, [0], .null),
  (1, .getfield 125, 3, [9, 16, 0, 200], .null),
  (4, .bipush 13, 2, [], .int 13),
  (6, .idiv, 1, [], .null),
  (7, .iconst 4, 1, [], .int 4),
  (8, .irem, 1, [], .null),
  (9, .ireturn, 1, [], .null)]
def gc_42 : List (Nat × gI) := [(0, .iconst 0, 1, [], .int 0),
  (1, .istore_n 2, 1, [2], .null),
  (2, .iconst 0, 1, [], .int 0),
  (3, .istore_n 3, 1, [3], .null),
  (4, .iload_n 3, 1, [3], .null),
  (5, .aload_n 0, 1, [0], .null),
  (6, .getfield 30, 3, [2, 5, 0, 91], .null),
  (9, .if_icmp .ge 38, 3, [47], .null),
  (12, .aload_n 0, 1, [0], .null),
  (13, .iload_n 2, 1, [2], .null),
  (14, .aload_n 0, 1, [0], .null),
  (15, .getfield 17, 3, [2, 1, 0, 87], .null),
  (18, .iload_n 3, 1, [3], .null),
  (19, .iaload, 1, [], .null),
  (20, .aload_n 1, 1, [1], .null),
  (21, .invokevirtual 33, 3, [43, 4, 0, 524, 526, 26], .null),
  (24, .ifCond .eq 10, 3, [34], .null),
  (27, .aload_n 0, 1, [0], .null),
  (28, .getfield 20, 3, [2, 2, 0, 88], .null),
  (31, .iload_n 3, 1, [3], .null),
  (32, .iaload, 1, [], .null),
  (33, .ireturn, 1, [], .null),
  (34, .aload_n 0, 1, [0], .null),
  (35, .getfield 17, 3, [2, 1, 0, 87], .null),
  (38, .iload_n 3, 1, [3], .null),
  (39, .iaload, 1, [], .null),
  (40, .istore_n 2, 1, [2], .null),
  (41, .iinc 3 1, 3, [3], .int 1),
  (44, .goto (-40), 3, [4], .null),
  (47, .iconst 3, 1, [], .int 3),
  (48, .ireturn, 1, [], .null)]
def gc_43 : List (Nat × gI) := [(0, .iconst 0, 1, [], .int 0),
  (1, .istore 4, 2, [4], .null),
  (3, .iload_n 1, 1, [1], .null),
  (4, .istore 5, 2, [5], .null),
  (6, .iload 5, 2, [5], .null),
  (8, .iload_n 2, 1, [2], .null),
  (9, .if_icmp .ge 100, 3, [109], .null),
  (12, .aload_n 0, 1, [0], .null),
  (13, .getfield 11, 3, [2, 0, 0, 86], .null),
  (16, .iload 5, 2, [5], .null),
  (18, .iaload, 1, [], .null),
  (19, .istore 6, 2, [6], .null),
  (21, .iload 6, 2, [6], .null),
  (23, .bipush (-7), 2, [], .int (-7)),
  (25, .if_icmp .le 39, 3, [64], .null),
  (28, .iload 4, 2, [4], .null),
  (30, .bipush 16, 2, [], .int 16),
  (32, .if_icmp .ge 32, 3, [64], .null),
  (35, .aload_n 0, 1, [0], .null),
  (36, .getfield 23, 3, [2, 3, 0, 89], .null),
  (39, .iload 4, 2, [4], .null),
  (41, .iload 6, 2, [6], .null),
  (43, .ifCond .lt 8, 3, [51], .null),
  (46, .iload 6, 2, [6], .null),
  (48, .goto 9, 3, [57], .null),
  (51, .aload_n 3, 1, [3], .null),
  (52, .iconst (-1), 1, [], .int (-1)),
  (53, .iload 6, 2, [6], .null),
  (55, .isub, 1, [], .null),
  (56, .iaload, 1, [], .null),
  (57, .iastore, 1, [], .null),
  (58, .iinc 4 1, 3, [4], .int 1),
  (61, .goto 42, 3, [103], .null),
  (64, .iload 4, 2, [4], .null),
  (66, .iconst 1, 1, [], .int 1),
  (67, .if_icmp .le 36, 3, [103], .null),
  (70, .iinc 4 (-1), 3, [4], .int (-1)),
  (73, .aload_n 0, 1, [0], .null),
  (74, .getfield 23, 3, [2, 3, 0, 89], .null),
  (77, .iload 4, 2, [4], .null),
  (79, .iconst 1, 1, [], .int 1),
  (80, .isub, 1, [], .null),
  (81, .iload 6, 2, [6], .null),
  (83, .aload_n 0, 1, [0], .null),
  (84, .getfield 23, 3, [2, 3, 0, 89], .null),
  (87, .iload 4, 2, [4], .null),
  (89, .iconst 1, 1, [], .int 1),
  (90, .isub, 1, [], .null),
  (91, .iaload, 1, [], .null),
  (92, .aload_n 0, 1, [0], .null),
  (93, .getfield 23, 3, [2, 3, 0, 89], .null),
  (96, .iload 4, 2, [4], .null),
  (98, .iaload, 1, [], .null),
  (99, .invokestatic 37, 3, [44, 3, 0, 528, 529, 0], .null),
  (102, .iastore, 1, [], .null),
  (103, .iinc 5 1, 3, [5], .int 1),
  (106, .goto (-100), 3, [6], .null),
  (109, .aload_n 0, 1, [0], .null),
  (110, .getfield 23, 3, [2, 3, 0, 89], .null),
  (113, .iconst 0, 1, [], .int 0),
  (114, .iaload, 1, [], .null),
  (115, .ireturn, 1, [], .null)]
def gc_44 : List (Nat × gI) := [(0, .iload_n 0, 1, [0], .null),
  (1, .tableswitch 61 (-14) (-11) #[50, 39, 35, 31], 31, [62, 51, 40, 36, 32], .null),
  (32, .iload_n 1, 1, [1], .null),
  (33, .iload_n 2, 1, [2], .null),
  (34, .iadd, 1, [], .null),
  (35, .ireturn, 1, [], .null),
  (36, .iload_n 1, 1, [1], .null),
  (37, .iload_n 2, 1, [2], .null),
  (38, .isub, 1, [], .null),
  (39, .ireturn, 1, [], .null),
  (40, .iload_n 1, 1, [1], .null),
  (41, .iload_n 2, 1, [2], .null),
  (42, .if_icmp .ge 7, 3, [49], .null),
  (45, .iconst 1, 1, [], .int 1),
  (46, .goto 4, 3, [50], .null),
  (49, .iconst 0, 1, [], .int 0),
  (50, .ireturn, 1, [], .null),
  (51, .iload_n 1, 1, [1], .null),
  (52, .iload_n 2, 1, [2], .null),
  (53, .if_icmp .ne 7, 3, [60], .null),
  (56, .iconst 1, 1, [], .int 1),
  (57, .goto 4, 3, [61], .null),
  (60, .iconst 0, 1, [], .int 0),
  (61, .ireturn, 1, [], .null),
  (62, .iload_n 1, 1, [1], .null),
  (63, .ifCond .eq 11, 3, [74], .null),
  (66, .iload_n 2, 1, [2], .null),
  (67, .ifCond .eq 7, 3, [74], .null),
  (70, .iconst 1, 1, [], .int 1),
  (71, .goto 4, 3, [75], .null),
  (74, .iconst 0, 1, [], .int 0),
  (75, .ireturn, 1, [], .null)]
def gc_45 : List (Nat × gI) := [(0, .aload_n 0, 1, [0], .null),
  (1, .getfield 22, 3, [5, 1, 0, 44], .null),
  (4, .aload_n 0, 1, [0], .null),
  (5, .getfield 9, 3, [5, 0, 0, 42], .null),
  (8, .if_icmp .ge 7, 3, [15], .null),
  (11, .iconst 1, 1, [], .int 1),
  (12, .goto 4, 3, [16], .null),
  (15, .iconst 0, 1, [], .int 0),
  (16, .ireturn, 1, [], .null)]
def gc_46 : List (Nat × gI) := [(0, .aload_n 1, 1, [1], .null),
  (1, .iconst 1, 1, [], .int 1),
  (2, .putfield 112, 3, [7, 4, 1, 260], .null),
  (5, .aload_n 1, 1, [1], .null),
  (6, .iload_n 2, 1, [2], .null),
  (7, .putfield 150, 3, [7, 5, 1, 262], .null),
  (10, .aload_n 1, 1, [1], .null),
  (11, .iload_n 3, 1, [3], .null),
  (12, .putfield 226, 3, [7, 6, 1, 264], .null),
  (15, .aload_n 0, 1, [0], .null),
  (16, .getfield 23, 3, [9, 4, 0, 188], .null),
  (19, .iload_n 2, 1, [2], .null),
  (20, .aaload, 1, [], .null),
  (21, .dup, 1, [], .null),
  (22, .getfield 260, 3, [5, 1, 1, 45], .null),
  (25, .iconst 1, 1, [], .int 1),
  (26, .iadd, 1, [], .null),
  (27, .putfield 260, 3, [5, 1, 1, 45], .null),
  (30, .return_, 1, [], .null)]
def gc_47 : List (Nat × gI) := [(0, .iload_n 1, 1, [1], .null),
  (1, .bipush 10, 2, [], .int 10),
  (3, .invokestatic 88, 3, [9, 2, 0, 243, 244, 0], .null),
  (6, .ifCond .eq 24, 3, [30], .null),
  (9, .iload_n 2, 1, [2], .null),
  (10, .aload_n 0, 1, [0], .null),
  (11, .getfield 92, 3, [9, 1, 0, 185], .null),
  (14, .invokestatic 88, 3, [9, 2, 0, 243, 244, 0], .null),
  (17, .ifCond .eq 13, 3, [30], .null),
  (20, .iload_n 3, 1, [3], .null),
  (21, .iconst 1, 1, [], .int 1),
  (22, .if_icmp .lt 8, 3, [30], .null),
  (25, .iload_n 3, 1, [3], .null),
  (26, .iconst 4, 1, [], .int 4),
  (27, .if_icmp .le 5, 3, [32], .null),
  (30, .iconst (-1), 1, [], .int (-1)),
  (31, .ireturn, 1, [], .null),
  (32, .aload_n 0, 1, [0], .null),
  (33, .getfield 61, 3, [9, 11, 0, 195], .null),
  (36, .iload_n 1, 1, [1], .null),
  (37, .dup2, 1, [], .null),
  (38, .iaload, 1, [], .null),
  (39, .iconst 1, 1, [], .int 1),
  (40, .iadd, 1, [], .null),
  (41, .iastore, 1, [], .null),
  (42, .aload_n 0, 1, [0], .null),
  (43, .aload_n 0, 1, [0], .null),
  (44, .getfield 11, 3, [9, 0, 0, 184], .null),
  (47, .iload_n 2, 1, [2], .null),
  (48, .aaload, 1, [], .null),
  (49, .invokevirtual 119, 3, [40, 2, 0, 512, 514, 23], .null),
  (52, .iload_n 3, 1, [3], .null),
  (53, .if_icmp .eq 5, 3, [58], .null),
  (56, .iconst 0, 1, [], .int 0),
  (57, .ireturn, 1, [], .null),
  (58, .aload_n 0, 1, [0], .null),
  (59, .getfield 64, 3, [9, 12, 0, 196], .null),
  (62, .iload_n 1, 1, [1], .null),
  (63, .dup2, 1, [], .null),
  (64, .iaload, 1, [], .null),
  (65, .iconst 1, 1, [], .int 1),
  (66, .iadd, 1, [], .null),
  (67, .iastore, 1, [], .null),
  (68, .iconst 1, 1, [], .int 1),
  (69, .ireturn, 1, [], .null)]
def gc_48 : List (Nat × gI) := [(0, .iload_n 1, 1, [1], .null),
  (1, .bipush 10, 2, [], .int 10),
  (3, .invokestatic 88, 3, [9, 2, 0, 243, 244, 0], .null),
  (6, .ifCond .eq 12, 3, [18], .null),
  (9, .aload_n 0, 1, [0], .null),
  (10, .getfield 61, 3, [9, 11, 0, 195], .null),
  (13, .iload_n 1, 1, [1], .null),
  (14, .iaload, 1, [], .null),
  (15, .ifCond .gt 5, 3, [20], .null),
  (18, .iconst (-1), 1, [], .int (-1)),
  (19, .ireturn, 1, [], .null),
  (20, .aload_n 0, 1, [0], .null),
  (21, .getfield 64, 3, [9, 12, 0, 196], .null),
  (24, .iload_n 1, 1, [1], .null),
  (25, .iaload, 1, [], .null),
  (26, .i2l, 1, [], .null),
  (27, .ldc2_w 123, 3, [547], .long 1000),
  (30, .lmul, 1, [], .null),
  (31, .aload_n 0, 1, [0], .null),
  (32, .getfield 61, 3, [9, 11, 0, 195], .null),
  (35, .iload_n 1, 1, [1], .null),
  (36, .iaload, 1, [], .null),
  (37, .i2l, 1, [], .null),
  (38, .ldiv, 1, [], .null),
  (39, .l2i, 1, [], .null),
  (40, .ireturn, 1, [], .null)]
def gc_49 : List (Nat × gI) := [(0, .iload_n 1, 1, [1], .null),
  (1, .bipush 61, 2, [], .int 61),
  (3, .invokestatic 88, 3, [9, 2, 0, 243, 244, 0], .null),
  (6, .ifCond .eq 15, 3, [21], .null),
  (9, .aload_n 0, 1, [0], .null),
  (10, .getfield 125, 3, [9, 16, 0, 200], .null),
  (13, .iload_n 1, 1, [1], .null),
  (14, .iadd, 1, [], .null),
  (15, .sipush 519, 3, [], .int 519),
  (18, .if_icmp .le 5, 3, [23], .null),
  (21, .iconst (-1), 1, [], .int (-1)),
  (22, .ireturn, 1, [], .null),
  (23, .iconst 0, 1, [], .int 0),
  (24, .istore_n 2, 1, [2], .null),
  (25, .iload_n 2, 1, [2], .null),
  (26, .iload_n 1, 1, [1], .null),
  (27, .if_icmp .ge 27, 3, [54], .null),
  (30, .aload_n 0, 1, [0], .null),
  (31, .invokevirtual 128, 3, [50, 1, 0, 552, 554, 29], .null),
  (34, .aload_n 0, 1, [0], .null),
  (35, .getfield 125, 3, [9, 16, 0, 200], .null),
  (38, .bipush 13, 2, [], .int 13),
  (40, .irem, 1, [], .null),
  (41, .ifCond .ne 7, 3, [48], .null),
  (44, .aload_n 0, 1, [0], .null),
  (45, .invokevirtual 131, 3, [53, 1, 0, 564, 566, 32], .null),
  (48, .iinc 2 1, 3, [2], .int 1),
  (51, .goto (-26), 3, [25], .null),
  (54, .aload_n 0, 1, [0], .null),
  (55, .getfield 125, 3, [9, 16, 0, 200], .null),
  (58, .ireturn, 1, [], .null)]
def gc_50 : List (Nat × gI) := [(0, .aload_n 0, 1, [0], .null),
  (1, .dup, 1, [], .null),
  (2, .getfield 125, 3, [9, 16, 0, 200], .null),
  (5, .iconst 1, 1, [], .int 1),
  (6, .iadd, 1, [], .null),
  (7, .putfield 125, 3, [9, 16, 0, 200], .null),
  (10, .iconst 0, 1, [], .int 0),
  (11, .istore_n 1, 1, [1], .null),
  (12, .iload_n 1, 1, [1], .null),
  (13, .aload_n 0, 1, [0], .null),
  (14, .getfield 92, 3, [9, 1, 0, 185], .null),
  (17, .if_icmp .ge 32, 3, [49], .null),
  (20, .aload_n 0, 1, [0], .null),
  (21, .getfield 11, 3, [9, 0, 0, 184], .null),
  (24, .iload_n 1, 1, [1], .null),
  (25, .aaload, 1, [], .null),
  (26, .getfield 112, 3, [7, 4, 1, 260], .null),
  (29, .iconst 1, 1, [], .int 1),
  (30, .if_icmp .ne 13, 3, [43], .null),
  (33, .aload_n 0, 1, [0], .null),
  (34, .aload_n 0, 1, [0], .null),
  (35, .getfield 11, 3, [9, 0, 0, 184], .null),
  (38, .iload_n 1, 1, [1], .null),
  (39, .aaload, 1, [], .null),
  (40, .invokevirtual 263, 3, [51, 2, 0, 556, 558, 30], .null),
  (43, .iinc 1 1, 3, [1], .int 1),
  (46, .goto (-34), 3, [12], .null),
  (49, .return_, 1, [], .null)]
def gc_51 : List (Nat × gI) := [(0, .aload_n 0, 1, [0], .null),
  (1, .getfield 23, 3, [9, 4, 0, 188], .null),
  (4, .aload_n 1, 1, [1], .null),
  (5, .getfield 150, 3, [7, 5, 1, 262], .null),
  (8, .aaload, 1, [], .null),
  (9, .getfield 267, 3, [5, 4, 1, 50], .null),
  (12, .aload_n 1, 1, [1], .null),
  (13, .getfield 156, 3, [7, 1, 1, 254], .null),
  (16, .dup2, 1, [], .null),
  (17, .iaload, 1, [], .null),
  (18, .iconst 1, 1, [], .int 1),
  (19, .iadd, 1, [], .null),
  (20, .iastore, 1, [], .null),
  (21, .aload_n 0, 1, [0], .null),
  (22, .getfield 125, 3, [9, 16, 0, 200], .null),
  (25, .aload_n 1, 1, [1], .null),
  (26, .getfield 226, 3, [7, 6, 1, 264], .null),
  (29, .isub, 1, [], .null),
  (30, .iconst 5, 1, [], .int 5),
  (31, .if_icmp .lt 9, 3, [40], .null),
  (34, .aload_n 0, 1, [0], .null),
  (35, .aload_n 1, 1, [1], .null),
  (36, .iconst 3, 1, [], .int 3),
  (37, .invokevirtual 159, 3, [52, 3, 0, 560, 562, 31], .null),
  (40, .return_, 1, [], .null)]
def gc_52 : List (Nat × gI) := [(0, .aload_n 0, 1, [0], .null),
  (1, .getfield 23, 3, [9, 4, 0, 188], .null),
  (4, .aload_n 1, 1, [1], .null),
  (5, .getfield 150, 3, [7, 5, 1, 262], .null),
  (8, .aaload, 1, [], .null),
  (9, .dup, 1, [], .null),
  (10, .getfield 260, 3, [5, 1, 1, 45], .null),
  (13, .iconst 1, 1, [], .int 1),
  (14, .isub, 1, [], .null),
  (15, .putfield 260, 3, [5, 1, 1, 45], .null),
  (18, .aload_n 1, 1, [1], .null),
  (19, .iload_n 2, 1, [2], .null),
  (20, .putfield 112, 3, [7, 4, 1, 260], .null),
  (23, .return_, 1, [], .null)]
def gc_53 : List (Nat × gI) := [(0, .aload_n 0, 1, [0], .null),
  (1, .invokevirtual 249, 3, [41, 1, 0, 516, 518, 24], .null),
  (4, .istore_n 1, 1, [1], .null),
  (5, .iconst 0, 1, [], .int 0),
  (6, .istore_n 2, 1, [2], .null),
  (7, .iload_n 2, 1, [2], .null),
  (8, .aload_n 0, 1, [0], .null),
  (9, .getfield 92, 3, [9, 1, 0, 185], .null),
  (12, .if_icmp .ge 49, 3, [61], .null),
  (15, .aload_n 0, 1, [0], .null),
  (16, .getfield 11, 3, [9, 0, 0, 184], .null),
  (19, .iload_n 2, 1, [2], .null),
  (20, .aaload, 1, [], .null),
  (21, .astore_n 3, 1, [3], .null),
  (22, .aload_n 3, 1, [3], .null),
  (23, .getfield 112, 3, [7, 4, 1, 260], .null),
  (26, .iconst 2, 1, [], .int 2),
  (27, .if_icmp .ne 28, 3, [55], .null),
  (30, .aload_n 3, 1, [3], .null),
  (31, .getfield 246, 3, [7, 3, 1, 258], .null),
  (34, .iload_n 1, 1, [1], .null),
  (35, .if_icmp .eq 11, 3, [46], .null),
  (38, .aload_n 3, 1, [3], .null),
  (39, .getfield 246, 3, [7, 3, 1, 258], .null),
  (42, .iconst 4, 1, [], .int 4),
  (43, .if_icmp .ne 12, 3, [55], .null),
  (46, .aload_n 0, 1, [0], .null),
  (47, .aload_n 3, 1, [3], .null),
  (48, .aload_n 0, 1, [0], .null),
  (49, .invokevirtual 270, 3, [54, 1, 0, 568, 570, 33], .null),
  (52, .invokevirtual 115, 3, [39, 3, 0, 508, 510, 22], .null),
  (55, .iinc 2 1, 3, [2], .int 1),
  (58, .goto (-51), 3, [7], .null),
  (61, .return_, 1, [], .null)]
def gc_54 : List (Nat × gI) := [(0, .iconst 0, 1, [], .int 0),
  (1, .istore_n 1, 1, [1], .null),
  (2, .iload_n 1, 1, [1], .null),
  (3, .iconst 5, 1, [], .int 5),
  (4, .if_icmp .ge 23, 3, [27], .null),
  (7, .aload_n 0, 1, [0], .null),
  (8, .getfield 23, 3, [9, 4, 0, 188], .null),
  (11, .iload_n 1, 1, [1], .null),
  (12, .aaload, 1, [], .null),
  (13, .invokevirtual 256, 3, [45, 1, 1, 531, 533, 27], .null),
  (16, .ifCond .eq 5, 3, [21], .null),
  (19, .iload_n 1, 1, [1], .null),
  (20, .ireturn, 1, [], .null),
  (21, .iinc 1 1, 3, [1], .int 1),
  (24, .goto (-22), 3, [2], .null),
  (27, .iconst 0, 1, [], .int 0),
  (28, .ireturn, 1, [], .null)]
def gc_55 : List (Nat × gI) := [(0, .aload_n 0, 1, [0], .null),
  (1, .iload_n 1, 1, [1], .null),
  (2, .invokevirtual 134, 3, [56, 2, 0, 576, 578, 34], .null),
  (5, .ifCond .eq 16, 3, [21], .null),
  (8, .aload_n 0, 1, [0], .null),
  (9, .aload_n 0, 1, [0], .null),
  (10, .getfield 11, 3, [9, 0, 0, 184], .null),
  (13, .iload_n 1, 1, [1], .null),
  (14, .aaload, 1, [], .null),
  (15, .invokevirtual 138, 3, [57, 2, 0, 580, 582, 35], .null),
  (18, .goto 4, 3, [22], .null),
  (21, .iconst (-1), 1, [], .int (-1)),
  (22, .ireturn, 1, [], .null)]
def gc_56 : List (Nat × gI) := [(0, .iload_n 1, 1, [1], .null),
  (1, .aload_n 0, 1, [0], .null),
  (2, .getfield 92, 3, [9, 1, 0, 185], .null),
  (5, .invokestatic 88, 3, [9, 2, 0, 243, 244, 0], .null),
  (8, .ifCond .eq 20, 3, [28], .null),
  (11, .aload_n 0, 1, [0], .null),
  (12, .getfield 11, 3, [9, 0, 0, 184], .null),
  (15, .iload_n 1, 1, [1], .null),
  (16, .aaload, 1, [], .null),
  (17, .getfield 112, 3, [7, 4, 1, 260], .null),
  (20, .iconst 1, 1, [], .int 1),
  (21, .if_icmp .ne 7, 3, [28], .null),
  (24, .iconst 1, 1, [], .int 1),
  (25, .goto 4, 3, [29], .null),
  (28, .iconst 0, 1, [], .int 0),
  (29, .ireturn, 1, [], .null)]
def gc_57 : List (Nat × gI) := [(0, .aload_n 0, 1, [0], .null),
  (1, .getfield 125, 3, [9, 16, 0, 200], .null),
  (4, .aload_n 1, 1, [1], .null),
  (5, .getfield 226, 3, [7, 6, 1, 264], .null),
  (8, .isub, 1, [], .null),
  (9, .istore_n 2, 1, [2], .null),
  (10, .iconst 1, 1, [], .int 1),
  (11, .aload_n 0, 1, [0], .null),
  (12, .getfield 28, 3, [9, 5, 0, 189], .null),
  (15, .aload_n 1, 1, [1], .null),
  (16, .getfield 156, 3, [7, 1, 1, 254], .null),
  (19, .iaload, 1, [], .null),
  (20, .bipush 10, 2, [], .int 10),
  (22, .iconst 2, 1, [], .int 2),
  (23, .iload_n 2, 1, [2], .null),
  (24, .imul, 1, [], .null),
  (25, .isub, 1, [], .null),
  (26, .imul, 1, [], .null),
  (27, .bipush 10, 2, [], .int 10),
  (29, .idiv, 1, [], .null),
  (30, .invokestatic 180, 3, [1004, 2, 0, 584, 407, 0], .null),
  (33, .ireturn, 1, [], .null)]
def gc_58 : List (Nat × gI) := [(0, .aload_n 0, 1, [0], .null),
  (1, .iload_n 1, 1, [1], .null),
  (2, .invokevirtual 134, 3, [56, 2, 0, 576, 578, 34], .null),
  (5, .ifCond .eq 13, 3, [18], .null),
  (8, .aload_n 0, 1, [0], .null),
  (9, .getfield 141, 3, [9, 3, 0, 187], .null),
  (12, .sipush 200, 3, [], .int 200),
  (15, .if_icmp .lt 5, 3, [20], .null),
  (18, .iconst (-1), 1, [], .int (-1)),
  (19, .ireturn, 1, [], .null),
  (20, .aload_n 0, 1, [0], .null),
  (21, .getfield 11, 3, [9, 0, 0, 184], .null),
  (24, .iload_n 1, 1, [1], .null),
  (25, .aaload, 1, [], .null),
  (26, .astore_n 2, 1, [2], .null),
  (27, .aload_n 0, 1, [0], .null),
  (28, .getfield 17, 3, [9, 2, 0, 186], .null),
  (31, .aload_n 0, 1, [0], .null),
  (32, .getfield 141, 3, [9, 3, 0, 187], .null),
  (35, .new 15, 3, [3, 33], .null),
  (38, .dup, 1, [], .null),
  (39, .aload_n 2, 1, [2], .null),
  (40, .aload_n 0, 1, [0], .null),
  (41, .aload_n 2, 1, [2], .null),
  (42, .invokevirtual 138, 3, [57, 2, 0, 580, 582, 35], .null),
  (45, .aload_n 0, 1, [0], .null),
  (46, .getfield 125, 3, [9, 16, 0, 200], .null),
  (49, .invokespecial 144, 3, [59, 4, 1, 590, 591, 0], .null),
  (52, .aastore, 1, [], .null),
  (53, .aload_n 2, 1, [2], .null),
  (54, .aload_n 0, 1, [0], .null),
  (55, .getfield 141, 3, [9, 3, 0, 187], .null),
  (58, .putfield 147, 3, [7, 8, 1, 267], .null),
  (61, .aload_n 0, 1, [0], .null),
  (62, .getfield 23, 3, [9, 4, 0, 188], .null),
  (65, .aload_n 2, 1, [2], .null),
  (66, .getfield 150, 3, [7, 5, 1, 262], .null),
  (69, .aaload, 1, [], .null),
  (70, .getfield 153, 3, [5, 3, 1, 48], .null),
  (73, .aload_n 2, 1, [2], .null),
  (74, .getfield 156, 3, [7, 1, 1, 254], .null),
  (77, .dup2, 1, [], .null),
  (78, .iaload, 1, [], .null),
  (79, .iconst 1, 1, [], .int 1),
  (80, .iadd, 1, [], .null),
  (81, .iastore, 1, [], .null),
  (82, .aload_n 0, 1, [0], .null),
  (83, .aload_n 2, 1, [2], .null),
  (84, .iconst 5, 1, [], .int 5),
  (85, .invokevirtual 159, 3, [52, 3, 0, 560, 562, 31], .null),
  (88, .aload_n 0, 1, [0], .null),
  (89, .dup, 1, [], .null),
  (90, .getfield 141, 3, [9, 3, 0, 187], .null),
  (93, .iconst 1, 1, [], .int 1),
  (94, .iadd, 1, [], .null),
  (95, .putfield 141, 3, [9, 3, 0, 187], .null),
  (98, .aload_n 0, 1, [0], .null),
  (99, .getfield 141, 3, [9, 3, 0, 187], .null),
  (102, .iconst 1, 1, [], .int 1),
  (103, .isub, 1, [], .null),
  (104, .ireturn, 1, [], .null)]
def gc_59 : List (Nat × gI) := [(0, .aload_n 0, 1, [0], .null),
  (1, .invokespecial 1, 3, [1000, 1, 0, 593, 29, 0], .null),
  (4, .aload_n 0, 1, [0], .null),
  (5, .aload_n 1, 1, [1], .null),
  (6, .putfield 7, 3, [3, 0, 0, 594], .null),
  (9, .aload_n 0, 1, [0], .null),
  (10, .aload_n 1, 1, [1], .null),
  (11, .getfield 13, 3, [7, 5, 1, 261], .null),
  (14, .putfield 19, 3, [3, 1, 0, 596], .null),
  (17, .aload_n 0, 1, [0], .null),
  (18, .aload_n 1, 1, [1], .null),
  (19, .getfield 20, 3, [7, 6, 1, 263], .null),
  (22, .putfield 23, 3, [3, 2, 0, 598], .null),
  (25, .aload_n 0, 1, [0], .null),
  (26, .iload_n 2, 1, [2], .null),
  (27, .putfield 24, 3, [3, 3, 0, 600], .null),
  (30, .aload_n 0, 1, [0], .null),
  (31, .iload_n 3, 1, [3], .null),
  (32, .putfield 27, 3, [3, 4, 0, 602], .null),
  (35, .return_, 1, [], .null)]
def gc_60 : List (Nat × gI) := [(0, .iload_n 1, 1, [1], .null),
  (1, .aload_n 0, 1, [0], .null),
  (2, .getfield 141, 3, [9, 3, 0, 187], .null),
  (5, .invokestatic 88, 3, [9, 2, 0, 243, 244, 0], .null),
  (8, .ifCond .ne 5, 3, [13], .null),
  (11, .iconst 0, 1, [], .int 0),
  (12, .ireturn, 1, [], .null),
  (13, .aload_n 0, 1, [0], .null),
  (14, .getfield 17, 3, [9, 2, 0, 186], .null),
  (17, .iload_n 1, 1, [1], .null),
  (18, .aaload, 1, [], .null),
  (19, .astore_n 2, 1, [2], .null),
  (20, .aload_n 2, 1, [2], .null),
  (21, .getfield 162, 3, [3, 5, 1, 604], .null),
  (24, .ifCond .ne 14, 3, [38], .null),
  (27, .aload_n 2, 1, [2], .null),
  (28, .getfield 166, 3, [3, 0, 1, 595], .null),
  (31, .getfield 147, 3, [7, 8, 1, 267], .null),
  (34, .iload_n 1, 1, [1], .null),
  (35, .if_icmp .eq 5, 3, [40], .null),
  (38, .iconst 0, 1, [], .int 0),
  (39, .ireturn, 1, [], .null),
  (40, .aload_n 2, 1, [2], .null),
  (41, .iconst 1, 1, [], .int 1),
  (42, .putfield 162, 3, [3, 5, 1, 604], .null),
  (45, .aload_n 0, 1, [0], .null),
  (46, .getfield 23, 3, [9, 4, 0, 188], .null),
  (49, .aload_n 2, 1, [2], .null),
  (50, .getfield 170, 3, [3, 1, 1, 597], .null),
  (53, .aaload, 1, [], .null),
  (54, .getfield 153, 3, [5, 3, 1, 48], .null),
  (57, .aload_n 2, 1, [2], .null),
  (58, .getfield 166, 3, [3, 0, 1, 595], .null),
  (61, .getfield 156, 3, [7, 1, 1, 254], .null),
  (64, .dup2, 1, [], .null),
  (65, .iaload, 1, [], .null),
  (66, .iconst 1, 1, [], .int 1),
  (67, .isub, 1, [], .null),
  (68, .iastore, 1, [], .null),
  (69, .aload_n 0, 1, [0], .null),
  (70, .aload_n 2, 1, [2], .null),
  (71, .getfield 166, 3, [3, 0, 1, 595], .null),
  (74, .aload_n 2, 1, [2], .null),
  (75, .getfield 170, 3, [3, 1, 1, 597], .null),
  (78, .aload_n 2, 1, [2], .null),
  (79, .getfield 171, 3, [3, 2, 1, 599], .null),
  (82, .invokevirtual 174, 3, [46, 4, 0, 535, 537, 28], .null),
  (85, .iconst 1, 1, [], .int 1),
  (86, .ireturn, 1, [], .null)]
def gc_61 : List (Nat × gI) := [(0, .aload_n 0, 1, [0], .null),
  (1, .iload_n 1, 1, [1], .null),
  (2, .invokevirtual 134, 3, [56, 2, 0, 576, 578, 34], .null),
  (5, .ifCond .ne 5, 3, [10], .null),
  (8, .iconst 0, 1, [], .int 0),
  (9, .ireturn, 1, [], .null),
  (10, .aload_n 0, 1, [0], .null),
  (11, .getfield 11, 3, [9, 0, 0, 184], .null),
  (14, .iload_n 1, 1, [1], .null),
  (15, .aaload, 1, [], .null),
  (16, .astore_n 2, 1, [2], .null),
  (17, .aload_n 0, 1, [0], .null),
  (18, .getfield 23, 3, [9, 4, 0, 188], .null),
  (21, .aload_n 2, 1, [2], .null),
  (22, .getfield 150, 3, [7, 5, 1, 262], .null),
  (25, .aaload, 1, [], .null),
  (26, .dup, 1, [], .null),
  (27, .getfield 177, 3, [5, 2, 1, 46], .null),
  (30, .iconst 1, 1, [], .int 1),
  (31, .iadd, 1, [], .null),
  (32, .putfield 177, 3, [5, 2, 1, 46], .null),
  (35, .aload_n 0, 1, [0], .null),
  (36, .aload_n 2, 1, [2], .null),
  (37, .bipush 6, 2, [], .int 6),
  (39, .invokevirtual 159, 3, [52, 3, 0, 560, 562, 31], .null),
  (42, .iconst 1, 1, [], .int 1),
  (43, .ireturn, 1, [], .null)]
def gc_62 : List (Nat × gI) := [(0, .iload_n 1, 1, [1], .null),
  (1, .iconst 5, 1, [], .int 5),
  (2, .invokestatic 88, 3, [9, 2, 0, 243, 244, 0], .null),
  (5, .ifCond .eq 12, 3, [17], .null),
  (8, .iload_n 2, 1, [2], .null),
  (9, .bipush 101, 2, [], .int 101),
  (11, .invokestatic 88, 3, [9, 2, 0, 243, 244, 0], .null),
  (14, .ifCond .ne 5, 3, [19], .null),
  (17, .iconst (-1), 1, [], .int (-1)),
  (18, .ireturn, 1, [], .null),
  (19, .iconst 0, 1, [], .int 0),
  (20, .aload_n 0, 1, [0], .null),
  (21, .getfield 23, 3, [9, 4, 0, 188], .null),
  (24, .iload_n 1, 1, [1], .null),
  (25, .aaload, 1, [], .null),
  (26, .getfield 177, 3, [5, 2, 1, 46], .null),
  (29, .iload_n 2, 1, [2], .null),
  (30, .isub, 1, [], .null),
  (31, .invokestatic 180, 3, [1004, 2, 0, 584, 407, 0], .null),
  (34, .ireturn, 1, [], .null)]
def gc_63 : List (Nat × gI) := [(0, .iload_n 1, 1, [1], .null),
  (1, .aload_n 0, 1, [0], .null),
  (2, .getfield 92, 3, [9, 1, 0, 185], .null),
  (5, .invokestatic 88, 3, [9, 2, 0, 243, 244, 0], .null),
  (8, .ifCond .eq 11, 3, [19], .null),
  (11, .iload_n 2, 1, [2], .null),
  (12, .iconst 5, 1, [], .int 5),
  (13, .invokestatic 88, 3, [9, 2, 0, 243, 244, 0], .null),
  (16, .ifCond .ne 5, 3, [21], .null),
  (19, .iconst (-1), 1, [], .int (-1)),
  (20, .ireturn, 1, [], .null),
  (21, .aload_n 0, 1, [0], .null),
  (22, .aload_n 0, 1, [0], .null),
  (23, .getfield 11, 3, [9, 0, 0, 184], .null),
  (26, .iload_n 1, 1, [1], .null),
  (27, .aaload, 1, [], .null),
  (28, .iload_n 2, 1, [2], .null),
  (29, .invokevirtual 186, 3, [64, 3, 0, 634, 636, 36], .null),
  (32, .ireturn, 1, [], .null)]
def gc_64 : List (Nat × gI) := [(0, .aload_n 0, 1, [0], .null),
  (1, .getfield 23, 3, [9, 4, 0, 188], .null),
  (4, .iload_n 2, 1, [2], .null),
  (5, .aaload, 1, [], .null),
  (6, .aload_n 0, 1, [0], .null),
  (7, .getfield 28, 3, [9, 5, 0, 189], .null),
  (10, .aload_n 1, 1, [1], .null),
  (11, .getfield 156, 3, [7, 1, 1, 254], .null),
  (14, .iaload, 1, [], .null),
  (15, .aload_n 1, 1, [1], .null),
  (16, .getfield 156, 3, [7, 1, 1, 254], .null),
  (19, .invokevirtual 273, 3, [65, 3, 1, 638, 640, 37], .null),
  (22, .ireturn, 1, [], .null)]
def gc_65 : List (Nat × gI) := [(0, .iload_n 1, 1, [1], .null),
  (1, .aload_n 0, 1, [0], .null),
  (2, .getfield 15, 3, [5, 3, 0, 47], .null),
  (5, .iload_n 2, 1, [2], .null),
  (6, .iaload, 1, [], .null),
  (7, .iconst 1, 1, [], .int 1),
  (8, .iadd, 1, [], .null),
  (9, .imul, 1, [], .null),
  (10, .aload_n 0, 1, [0], .null),
  (11, .getfield 15, 3, [5, 3, 0, 47], .null),
  (14, .iload_n 2, 1, [2], .null),
  (15, .iaload, 1, [], .null),
  (16, .aload_n 0, 1, [0], .null),
  (17, .getfield 19, 3, [5, 4, 0, 49], .null),
  (20, .iload_n 2, 1, [2], .null),
  (21, .iaload, 1, [], .null),
  (22, .iadd, 1, [], .null),
  (23, .iconst 2, 1, [], .int 2),
  (24, .iadd, 1, [], .null),
  (25, .idiv, 1, [], .null),
  (26, .ireturn, 1, [], .null)]
def gc_66 : List (Nat × gI) := [(0, .aload_n 0, 1, [0], .null),
  (1, .iload_n 1, 1, [1], .null),
  (2, .invokevirtual 134, 3, [56, 2, 0, 576, 578, 34], .null),
  (5, .ifCond .eq 16, 3, [21], .null),
  (8, .aload_n 0, 1, [0], .null),
  (9, .aload_n 0, 1, [0], .null),
  (10, .getfield 11, 3, [9, 0, 0, 184], .null),
  (13, .iload_n 1, 1, [1], .null),
  (14, .aaload, 1, [], .null),
  (15, .invokevirtual 190, 3, [67, 2, 0, 646, 648, 38], .null),
  (18, .goto 4, 3, [22], .null),
  (21, .iconst (-1), 1, [], .int (-1)),
  (22, .ireturn, 1, [], .null)]
def gc_67 : List (Nat × gI) := [(0, .iconst (-1), 1, [], .int (-1)),
  (1, .istore_n 2, 1, [2], .null),
  (2, .iconst (-1), 1, [], .int (-1)),
  (3, .istore_n 3, 1, [3], .null),
  (4, .iconst 0, 1, [], .int 0),
  (5, .istore 4, 2, [4], .null),
  (7, .iload 4, 2, [4], .null),
  (9, .iconst 5, 1, [], .int 5),
  (10, .if_icmp .ge 53, 3, [63], .null),
  (13, .iload 4, 2, [4], .null),
  (15, .aload_n 1, 1, [1], .null),
  (16, .getfield 150, 3, [7, 5, 1, 262], .null),
  (19, .if_icmp .eq 38, 3, [57], .null),
  (22, .aload_n 0, 1, [0], .null),
  (23, .getfield 23, 3, [9, 4, 0, 188], .null),
  (26, .iload 4, 2, [4], .null),
  (28, .aaload, 1, [], .null),
  (29, .invokevirtual 256, 3, [45, 1, 1, 531, 533, 27], .null),
  (32, .ifCond .eq 25, 3, [57], .null),
  (35, .aload_n 0, 1, [0], .null),
  (36, .aload_n 1, 1, [1], .null),
  (37, .iload 4, 2, [4], .null),
  (39, .invokevirtual 186, 3, [64, 3, 0, 634, 636, 36], .null),
  (42, .iload_n 3, 1, [3], .null),
  (43, .if_icmp .le 14, 3, [57], .null),
  (46, .iload 4, 2, [4], .null),
  (48, .istore_n 2, 1, [2], .null),
  (49, .aload_n 0, 1, [0], .null),
  (50, .aload_n 1, 1, [1], .null),
  (51, .iload 4, 2, [4], .null),
  (53, .invokevirtual 186, 3, [64, 3, 0, 634, 636, 36], .null),
  (56, .istore_n 3, 1, [3], .null),
  (57, .iinc 4 1, 3, [4], .int 1),
  (60, .goto (-53), 3, [7], .null),
  (63, .aload_n 0, 1, [0], .null),
  (64, .getfield 23, 3, [9, 4, 0, 188], .null),
  (67, .aload_n 1, 1, [1], .null),
  (68, .getfield 150, 3, [7, 5, 1, 262], .null),
  (71, .aaload, 1, [], .null),
  (72, .aload_n 0, 1, [0], .null),
  (73, .aload_n 1, 1, [1], .null),
  (74, .invokevirtual 138, 3, [57, 2, 0, 580, 582, 35], .null),
  (77, .aload_n 1, 1, [1], .null),
  (78, .getfield 156, 3, [7, 1, 1, 254], .null),
  (81, .invokevirtual 273, 3, [65, 3, 1, 638, 640, 37], .null),
  (84, .istore 4, 2, [4], .null),
  (86, .iload_n 2, 1, [2], .null),
  (87, .iconst (-1), 1, [], .int (-1)),
  (88, .if_icmp .eq 18, 3, [106], .null),
  (91, .iload_n 3, 1, [3], .null),
  (92, .iload 4, 2, [4], .null),
  (94, .isub, 1, [], .null),
  (95, .aload_n 0, 1, [0], .null),
  (96, .getfield 84, 3, [9, 17, 0, 201], .null),
  (99, .if_icmp .le 7, 3, [106], .null),
  (102, .iload_n 2, 1, [2], .null),
  (103, .goto 4, 3, [107], .null),
  (106, .iconst (-1), 1, [], .int (-1)),
  (107, .ireturn, 1, [], .null)]
def gc_68 : List (Nat × gI) := [(0, .aload_n 0, 1, [0], .null),
  (1, .iload_n 1, 1, [1], .null),
  (2, .invokevirtual 134, 3, [56, 2, 0, 576, 578, 34], .null),
  (5, .ifCond .eq 16, 3, [21], .null),
  (8, .aload_n 0, 1, [0], .null),
  (9, .aload_n 0, 1, [0], .null),
  (10, .getfield 11, 3, [9, 0, 0, 184], .null),
  (13, .iload_n 1, 1, [1], .null),
  (14, .aaload, 1, [], .null),
  (15, .invokevirtual 190, 3, [67, 2, 0, 646, 648, 38], .null),
  (18, .goto 4, 3, [22], .null),
  (21, .iconst (-1), 1, [], .int (-1)),
  (22, .istore_n 2, 1, [2], .null),
  (23, .iload_n 2, 1, [2], .null),
  (24, .iconst (-1), 1, [], .int (-1)),
  (25, .if_icmp .ne 5, 3, [30], .null),
  (28, .iconst 0, 1, [], .int 0),
  (29, .ireturn, 1, [], .null),
  (30, .aload_n 0, 1, [0], .null),
  (31, .getfield 11, 3, [9, 0, 0, 184], .null),
  (34, .iload_n 1, 1, [1], .null),
  (35, .aaload, 1, [], .null),
  (36, .astore_n 3, 1, [3], .null),
  (37, .aload_n 0, 1, [0], .null),
  (38, .aload_n 3, 1, [3], .null),
  (39, .iconst 0, 1, [], .int 0),
  (40, .invokevirtual 159, 3, [52, 3, 0, 560, 562, 31], .null),
  (43, .aload_n 0, 1, [0], .null),
  (44, .aload_n 3, 1, [3], .null),
  (45, .iload_n 2, 1, [2], .null),
  (46, .aload_n 0, 1, [0], .null),
  (47, .getfield 125, 3, [9, 16, 0, 200], .null),
  (50, .invokevirtual 174, 3, [46, 4, 0, 535, 537, 28], .null),
  (53, .aload_n 3, 1, [3], .null),
  (54, .dup, 1, [], .null),
  (55, .getfield 193, 3, [7, 7, 1, 265], .null),
  (58, .iconst 1, 1, [], .int 1),
  (59, .iadd, 1, [], .null),
  (60, .putfield 193, 3, [7, 7, 1, 265], .null),
  (63, .iconst 1, 1, [], .int 1),
  (64, .ireturn, 1, [], .null)]
def gc_69 : List (Nat × gI) := [(0, .iload_n 1, 1, [1], .null),
  (1, .sipush 1001, 3, [], .int 1001),
  (4, .invokestatic 88, 3, [9, 2, 0, 243, 244, 0], .null),
  (7, .ifCond .ne 5, 3, [12], .null),
  (10, .iconst 0, 1, [], .int 0),
  (11, .ireturn, 1, [], .null),
  (12, .aload_n 0, 1, [0], .null),
  (13, .iload_n 1, 1, [1], .null),
  (14, .putfield 84, 3, [9, 17, 0, 201], .null),
  (17, .iconst 1, 1, [], .int 1),
  (18, .ireturn, 1, [], .null)]
def gc_70 : List (Nat × gI) := [(0, .aload_n 0, 1, [0], .null),
  (1, .getfield 73, 3, [9, 14, 0, 198], .null),
  (4, .iload_n 1, 1, [1], .null),
  (5, .iload_n 2, 1, [2], .null),
  (6, .iload_n 3, 1, [3], .null),
  (7, .invokevirtual 196, 3, [71, 4, 1, 662, 664, 39], .null),
  (10, .ireturn, 1, [], .null)]
def gc_71 : List (Nat × gI) := [(0, .iload_n 1, 1, [1], .null),
  (1, .bipush 6, 2, [], .int 6),
  (3, .invokestatic 18, 3, [9, 2, 1, 666, 244, 0], .null),
  (6, .ifCond .eq 21, 3, [27], .null),
  (9, .iload_n 2, 1, [2], .null),
  (10, .bipush 6, 2, [], .int 6),
  (12, .invokestatic 18, 3, [9, 2, 1, 666, 244, 0], .null),
  (15, .ifCond .eq 12, 3, [27], .null),
  (18, .iload_n 1, 1, [1], .null),
  (19, .iload_n 2, 1, [2], .null),
  (20, .if_icmp .eq 7, 3, [27], .null),
  (23, .iconst 1, 1, [], .int 1),
  (24, .goto 4, 3, [28], .null),
  (27, .iconst 0, 1, [], .int 0),
  (28, .istore 4, 2, [4], .null),
  (30, .iload 4, 2, [4], .null),
  (32, .ifCond .eq 12, 3, [44], .null),
  (35, .iload_n 3, 1, [3], .null),
  (36, .bipush 100, 2, [], .int 100),
  (38, .invokestatic 18, 3, [9, 2, 1, 666, 244, 0], .null),
  (41, .ifCond .ne 5, 3, [46], .null),
  (44, .iconst 0, 1, [], .int 0),
  (45, .ireturn, 1, [], .null),
  (46, .aload_n 0, 1, [0], .null),
  (47, .getfield 11, 3, [1, 0, 0, 154], .null),
  (50, .iload_n 1, 1, [1], .null),
  (51, .bipush 6, 2, [], .int 6),
  (53, .imul, 1, [], .null),
  (54, .iload_n 2, 1, [2], .null),
  (55, .iadd, 1, [], .null),
  (56, .iload_n 3, 1, [3], .null),
  (57, .iastore, 1, [], .null),
  (58, .aload_n 0, 1, [0], .null),
  (59, .getfield 11, 3, [1, 0, 0, 154], .null),
  (62, .iload_n 2, 1, [2], .null),
  (63, .bipush 6, 2, [], .int 6),
  (65, .imul, 1, [], .null),
  (66, .iload_n 1, 1, [1], .null),
  (67, .iadd, 1, [], .null),
  (68, .iload_n 3, 1, [3], .null),
  (69, .iastore, 1, [], .null),
  (70, .iconst 1, 1, [], .int 1),
  (71, .ireturn, 1, [], .null)]
def gc_72 : List (Nat × gI) := [(0, .aload_n 0, 1, [0], .null),
  (1, .getfield 73, 3, [9, 14, 0, 198], .null),
  (4, .iload_n 1, 1, [1], .null),
  (5, .invokevirtual 200, 3, [73, 2, 1, 671, 673, 40], .null),
  (8, .ireturn, 1, [], .null)]
def gc_73 : List (Nat × gI) := [(0, .iload_n 1, 1, [1], .null),
  (1, .bipush 32, 2, [], .int 32),
  (3, .invokestatic 18, 3, [9, 2, 1, 666, 244, 0], .null),
  (6, .ifCond .ne 5, 3, [11], .null),
  (9, .iconst (-1), 1, [], .int (-1)),
  (10, .ireturn, 1, [], .null),
  (11, .iload_n 1, 1, [1], .null),
  (12, .ifCond .ne 5, 3, [17], .null),
  (15, .iconst 0, 1, [], .int 0),
  (16, .ireturn, 1, [], .null),
  (17, .iconst 1, 1, [], .int 1),
  (18, .istore_n 2, 1, [2], .null),
  (19, .iload_n 2, 1, [2], .null),
  (20, .iload_n 1, 1, [1], .null),
  (21, .if_icmp .gt 21, 3, [42], .null),
  (24, .iload_n 2, 1, [2], .null),
  (25, .iload_n 1, 1, [1], .null),
  (26, .iand, 1, [], .null),
  (27, .iload_n 2, 1, [2], .null),
  (28, .if_icmp .ne 8, 3, [36], .null),
  (31, .aload_n 0, 1, [0], .null),
  (32, .iload_n 2, 1, [2], .null),
  (33, .invokevirtual 22, 3, [74, 2, 0, 675, 677, 41], .null),
  (36, .iinc 2 1, 3, [2], .int 1),
  (39, .goto (-20), 3, [19], .null),
  (42, .aload_n 0, 1, [0], .null),
  (43, .iload_n 1, 1, [1], .null),
  (44, .iconst 5, 1, [], .int 5),
  (45, .invokevirtual 26, 3, [75, 3, 0, 679, 681, 42], .null),
  (48, .ireturn, 1, [], .null)]
def gc_74 : List (Nat × gI) := [(0, .iconst 0, 1, [], .int 0),
  (1, .istore_n 2, 1, [2], .null),
  (2, .iload_n 2, 1, [2], .null),
  (3, .iconst 5, 1, [], .int 5),
  (4, .if_icmp .ge 39, 3, [43], .null),
  (7, .iload_n 1, 1, [1], .null),
  (8, .iload_n 2, 1, [2], .null),
  (9, .ishr, 1, [], .null),
  (10, .iconst 1, 1, [], .int 1),
  (11, .iand, 1, [], .null),
  (12, .ifCond .eq 25, 3, [37], .null),
  (15, .aload_n 0, 1, [0], .null),
  (16, .getfield 15, 3, [1, 1, 0, 155], .null),
  (19, .iload_n 1, 1, [1], .null),
  (20, .iconst 5, 1, [], .int 5),
  (21, .imul, 1, [], .null),
  (22, .iload_n 2, 1, [2], .null),
  (23, .iadd, 1, [], .null),
  (24, .aload_n 0, 1, [0], .null),
  (25, .iload_n 1, 1, [1], .null),
  (26, .iconst 1, 1, [], .int 1),
  (27, .iload_n 2, 1, [2], .null),
  (28, .ishl, 1, [], .null),
  (29, .iconst (-1), 1, [], .int (-1)),
  (30, .ixor, 1, [], .null),
  (31, .iand, 1, [], .null),
  (32, .iload_n 2, 1, [2], .null),
  (33, .invokevirtual 26, 3, [75, 3, 0, 679, 681, 42], .null),
  (36, .iastore, 1, [], .null),
  (37, .iinc 2 1, 3, [2], .int 1),
  (40, .goto (-38), 3, [2], .null),
  (43, .return_, 1, [], .null)]
def gc_75 : List (Nat × gI) := [(0, .iload_n 1, 1, [1], .null),
  (1, .ifCond .ne 13, 3, [14], .null),
  (4, .aload_n 0, 1, [0], .null),
  (5, .getfield 11, 3, [1, 0, 0, 154], .null),
  (8, .bipush 30, 2, [], .int 30),
  (10, .iload_n 2, 1, [2], .null),
  (11, .iadd, 1, [], .null),
  (12, .iaload, 1, [], .null),
  (13, .ireturn, 1, [], .null),
  (14, .ldc 30, 2, [683], .int 1000000),
  (16, .istore_n 3, 1, [3], .null),
  (17, .iconst 0, 1, [], .int 0),
  (18, .istore 4, 2, [4], .null),
  (20, .iload 4, 2, [4], .null),
  (22, .iconst 5, 1, [], .int 5),
  (23, .if_icmp .ge 47, 3, [70], .null),
  (26, .iload_n 1, 1, [1], .null),
  (27, .iload 4, 2, [4], .null),
  (29, .ishr, 1, [], .null),
  (30, .iconst 1, 1, [], .int 1),
  (31, .iand, 1, [], .null),
  (32, .ifCond .eq 32, 3, [64], .null),
  (35, .iload_n 3, 1, [3], .null),
  (36, .aload_n 0, 1, [0], .null),
  (37, .getfield 15, 3, [1, 1, 0, 155], .null),
  (40, .iload_n 1, 1, [1], .null),
  (41, .iconst 5, 1, [], .int 5),
  (42, .imul, 1, [], .null),
  (43, .iload 4, 2, [4], .null),
  (45, .iadd, 1, [], .null),
  (46, .iaload, 1, [], .null),
  (47, .aload_n 0, 1, [0], .null),
  (48, .getfield 11, 3, [1, 0, 0, 154], .null),
  (51, .iload 4, 2, [4], .null),
  (53, .bipush 6, 2, [], .int 6),
  (55, .imul, 1, [], .null),
  (56, .iload_n 2, 1, [2], .null),
  (57, .iadd, 1, [], .null),
  (58, .iaload, 1, [], .null),
  (59, .iadd, 1, [], .null),
  (60, .invokestatic 31, 3, [1005, 2, 0, 684, 410, 0], .null),
  (63, .istore_n 3, 1, [3], .null),
  (64, .iinc 4 1, 3, [4], .int 1),
  (67, .goto (-47), 3, [20], .null),
  (70, .iload_n 3, 1, [3], .null),
  (71, .ireturn, 1, [], .null)]
def gc_76 : List (Nat × gI) := [(0, .aload_n 0, 1, [0], .null),
  (1, .getfield 80, 3, [9, 15, 0, 199], .null),
  (4, .iload_n 1, 1, [1], .null),
  (5, .invokevirtual 204, 3, [77, 2, 1, 689, 691, 43], .null),
  (8, .ireturn, 1, [], .null)]
def gc_77 : List (Nat × gI) := [(0, .iload_n 1, 1, [1], .null),
  (1, .sipush 4096, 3, [], .int 4096),
  (4, .invokestatic 18, 3, [9, 2, 1, 693, 244, 0], .null),
  (7, .ifCond .eq 12, 3, [19], .null),
  (10, .aload_n 0, 1, [0], .null),
  (11, .getfield 22, 3, [8, 2, 0, 169], .null),
  (14, .bipush 10, 2, [], .int 10),
  (16, .if_icmp .lt 5, 3, [21], .null),
  (19, .iconst (-1), 1, [], .int (-1)),
  (20, .ireturn, 1, [], .null),
  (21, .aload_n 0, 1, [0], .null),
  (22, .getfield 11, 3, [8, 0, 0, 167], .null),
  (25, .aload_n 0, 1, [0], .null),
  (26, .getfield 22, 3, [8, 2, 0, 169], .null),
  (29, .iload_n 1, 1, [1], .null),
  (30, .iastore, 1, [], .null),
  (31, .aload_n 0, 1, [0], .null),
  (32, .dup, 1, [], .null),
  (33, .getfield 22, 3, [8, 2, 0, 169], .null),
  (36, .iconst 1, 1, [], .int 1),
  (37, .iadd, 1, [], .null),
  (38, .putfield 22, 3, [8, 2, 0, 169], .null),
  (41, .aload_n 0, 1, [0], .null),
  (42, .getfield 22, 3, [8, 2, 0, 169], .null),
  (45, .iconst 1, 1, [], .int 1),
  (46, .isub, 1, [], .null),
  (47, .ireturn, 1, [], .null)]
def gc_78 : List (Nat × gI) := [(0, .aload_n 0, 1, [0], .null),
  (1, .getfield 80, 3, [9, 15, 0, 199], .null),
  (4, .iload_n 1, 1, [1], .null),
  (5, .invokevirtual 207, 3, [79, 2, 1, 698, 700, 44], .null),
  (8, .ireturn, 1, [], .null)]
def gc_79 : List (Nat × gI) := [(0, .iload_n 1, 1, [1], .null),
  (1, .sipush 4096, 3, [], .int 4096),
  (4, .invokestatic 18, 3, [9, 2, 1, 693, 244, 0], .null),
  (7, .ifCond .eq 11, 3, [18], .null),
  (10, .aload_n 0, 1, [0], .null),
  (11, .iload_n 1, 1, [1], .null),
  (12, .invokevirtual 26, 3, [80, 2, 0, 702, 704, 45], .null),
  (15, .ifCond .ne 5, 3, [20], .null),
  (18, .iconst (-1), 1, [], .int (-1)),
  (19, .ireturn, 1, [], .null),
  (20, .iconst 0, 1, [], .int 0),
  (21, .istore_n 2, 1, [2], .null),
  (22, .iload_n 2, 1, [2], .null),
  (23, .bipush 10, 2, [], .int 10),
  (25, .if_icmp .ge 16, 3, [41], .null),
  (28, .aload_n 0, 1, [0], .null),
  (29, .getfield 15, 3, [8, 1, 0, 168], .null),
  (32, .iload_n 2, 1, [2], .null),
  (33, .iconst 0, 1, [], .int 0),
  (34, .iastore, 1, [], .null),
  (35, .iinc 2 1, 3, [2], .int 1),
  (38, .goto (-16), 3, [22], .null),
  (41, .iconst 0, 1, [], .int 0),
  (42, .istore_n 2, 1, [2], .null),
  (43, .iconst 0, 1, [], .int 0),
  (44, .istore_n 3, 1, [3], .null),
  (45, .iload_n 3, 1, [3], .null),
  (46, .bipush 12, 2, [], .int 12),
  (48, .if_icmp .ge 31, 3, [79], .null),
  (51, .iload_n 1, 1, [1], .null),
  (52, .iload_n 3, 1, [3], .null),
  (53, .ishr, 1, [], .null),
  (54, .iconst 1, 1, [], .int 1),
  (55, .iand, 1, [], .null),
  (56, .ifCond .eq 17, 3, [73], .null),
  (59, .aload_n 0, 1, [0], .null),
  (60, .iload_n 3, 1, [3], .null),
  (61, .iload_n 2, 1, [2], .null),
  (62, .invokevirtual 30, 3, [82, 3, 0, 710, 712, 47], .null),
  (65, .istore_n 2, 1, [2], .null),
  (66, .aload_n 0, 1, [0], .null),
  (67, .iload_n 3, 1, [3], .null),
  (68, .iload_n 2, 1, [2], .null),
  (69, .invokevirtual 30, 3, [82, 3, 0, 710, 712, 47], .null),
  (72, .istore_n 2, 1, [2], .null),
  (73, .iinc 3 1, 3, [3], .int 1),
  (76, .goto (-31), 3, [45], .null),
  (79, .iload_n 2, 1, [2], .null),
  (80, .ireturn, 1, [], .null)]
def gc_80 : List (Nat × gI) := [(0, .iconst 0, 1, [], .int 0),
  (1, .istore_n 2, 1, [2], .null),
  (2, .iload_n 2, 1, [2], .null),
  (3, .bipush 12, 2, [], .int 12),
  (5, .if_icmp .ge 28, 3, [33], .null),
  (8, .iload_n 1, 1, [1], .null),
  (9, .iload_n 2, 1, [2], .null),
  (10, .ishr, 1, [], .null),
  (11, .iconst 1, 1, [], .int 1),
  (12, .iand, 1, [], .null),
  (13, .ifCond .eq 14, 3, [27], .null),
  (16, .aload_n 0, 1, [0], .null),
  (17, .iload_n 2, 1, [2], .null),
  (18, .invokevirtual 34, 3, [81, 2, 0, 706, 708, 46], .null),
  (21, .iconst 2, 1, [], .int 2),
  (22, .if_icmp .ge 5, 3, [27], .null),
  (25, .iconst 0, 1, [], .int 0),
  (26, .ireturn, 1, [], .null),
  (27, .iinc 2 1, 3, [2], .int 1),
  (30, .goto (-28), 3, [2], .null),
  (33, .iconst 1, 1, [], .int 1),
  (34, .ireturn, 1, [], .null)]
def gc_81 : List (Nat × gI) := [(0, .iconst 0, 1, [], .int 0),
  (1, .istore_n 2, 1, [2], .null),
  (2, .iconst 0, 1, [], .int 0),
  (3, .istore_n 3, 1, [3], .null),
  (4, .iload_n 3, 1, [3], .null),
  (5, .aload_n 0, 1, [0], .null),
  (6, .getfield 22, 3, [8, 2, 0, 169], .null),
  (9, .if_icmp .ge 22, 3, [31], .null),
  (12, .iload_n 2, 1, [2], .null),
  (13, .aload_n 0, 1, [0], .null),
  (14, .getfield 11, 3, [8, 0, 0, 167], .null),
  (17, .iload_n 3, 1, [3], .null),
  (18, .iaload, 1, [], .null),
  (19, .iload_n 1, 1, [1], .null),
  (20, .ishr, 1, [], .null),
  (21, .iconst 1, 1, [], .int 1),
  (22, .iand, 1, [], .null),
  (23, .iadd, 1, [], .null),
  (24, .istore_n 2, 1, [2], .null),
  (25, .iinc 3 1, 3, [3], .int 1),
  (28, .goto (-24), 3, [4], .null),
  (31, .iload_n 2, 1, [2], .null),
  (32, .ireturn, 1, [], .null)]
def gc_82 : List (Nat × gI) := [(0, .iload_n 2, 1, [2], .null),
  (1, .istore_n 3, 1, [3], .null),
  (2, .iload_n 3, 1, [3], .null),
  (3, .bipush 12, 2, [], .int 12),
  (5, .if_icmp .gt 31, 3, [36], .null),
  (8, .aload_n 0, 1, [0], .null),
  (9, .iconst 0, 1, [], .int 0),
  (10, .putfield 38, 3, [8, 3, 0, 171], .null),
  (13, .aload_n 0, 1, [0], .null),
  (14, .iconst 0, 1, [], .int 0),
  (15, .putfield 41, 3, [8, 4, 0, 172], .null),
  (18, .aload_n 0, 1, [0], .null),
  (19, .iload_n 1, 1, [1], .null),
  (20, .iload_n 3, 1, [3], .null),
  (21, .iconst 0, 1, [], .int 0),
  (22, .invokevirtual 44, 3, [83, 4, 0, 714, 716, 48], .null),
  (25, .ifCond .eq 5, 3, [30], .null),
  (28, .iload_n 3, 1, [3], .null),
  (29, .ireturn, 1, [], .null),
  (30, .iinc 3 1, 3, [3], .int 1),
  (33, .goto (-31), 3, [2], .null),
  (36, .bipush 12, 2, [], .int 12),
  (38, .ireturn, 1, [], .null)]
def gc_83 : List (Nat × gI) := [(0, .iload_n 3, 1, [3], .null),
  (1, .bipush 12, 2, [], .int 12),
  (3, .if_icmp .gt 14, 3, [17], .null),
  (6, .aload_n 0, 1, [0], .null),
  (7, .getfield 41, 3, [8, 4, 0, 172], .null),
  (10, .iload_n 1, 1, [1], .null),
  (11, .ishr, 1, [], .null),
  (12, .iconst 1, 1, [], .int 1),
  (13, .iand, 1, [], .null),
  (14, .ifCond .eq 5, 3, [19], .null),
  (17, .iconst 0, 1, [], .int 0),
  (18, .ireturn, 1, [], .null),
  (19, .aload_n 0, 1, [0], .null),
  (20, .dup, 1, [], .null),
  (21, .getfield 41, 3, [8, 4, 0, 172], .null),
  (24, .iconst 1, 1, [], .int 1),
  (25, .iload_n 1, 1, [1], .null),
  (26, .ishl, 1, [], .null),
  (27, .ior, 1, [], .null),
  (28, .putfield 41, 3, [8, 4, 0, 172], .null),
  (31, .iconst 0, 1, [], .int 0),
  (32, .istore 4, 2, [4], .null),
  (34, .iload 4, 2, [4], .null),
  (36, .aload_n 0, 1, [0], .null),
  (37, .getfield 22, 3, [8, 2, 0, 169], .null),
  (40, .if_icmp .ge 110, 3, [150], .null),
  (43, .aload_n 0, 1, [0], .null),
  (44, .getfield 11, 3, [8, 0, 0, 167], .null),
  (47, .iload 4, 2, [4], .null),
  (49, .iaload, 1, [], .null),
  (50, .aload_n 0, 1, [0], .null),
  (51, .getfield 15, 3, [8, 1, 0, 168], .null),
  (54, .iload 4, 2, [4], .null),
  (56, .iaload, 1, [], .null),
  (57, .iconst (-1), 1, [], .int (-1)),
  (58, .ixor, 1, [], .null),
  (59, .iand, 1, [], .null),
  (60, .iload_n 1, 1, [1], .null),
  (61, .ishr, 1, [], .null),
  (62, .iconst 1, 1, [], .int 1),
  (63, .iand, 1, [], .null),
  (64, .ifCond .eq 7, 3, [71], .null),
  (67, .iconst 1, 1, [], .int 1),
  (68, .goto 4, 3, [72], .null),
  (71, .iconst 0, 1, [], .int 0),
  (72, .istore 5, 2, [5], .null),
  (74, .iload 5, 2, [5], .null),
  (76, .ifCond .eq 68, 3, [144], .null),
  (79, .aload_n 0, 1, [0], .null),
  (80, .getfield 38, 3, [8, 3, 0, 171], .null),
  (83, .iload 4, 2, [4], .null),
  (85, .ishr, 1, [], .null),
  (86, .iconst 1, 1, [], .int 1),
  (87, .iand, 1, [], .null),
  (88, .ifCond .ne 56, 3, [144], .null),
  (91, .aload_n 0, 1, [0], .null),
  (92, .dup, 1, [], .null),
  (93, .getfield 38, 3, [8, 3, 0, 171], .null),
  (96, .iconst 1, 1, [], .int 1),
  (97, .iload 4, 2, [4], .null),
  (99, .ishl, 1, [], .null),
  (100, .ior, 1, [], .null),
  (101, .putfield 38, 3, [8, 3, 0, 171], .null),
  (104, .aload_n 0, 1, [0], .null),
  (105, .getfield 15, 3, [8, 1, 0, 168], .null),
  (108, .iload 4, 2, [4], .null),
  (110, .iaload, 1, [], .null),
  (111, .invokestatic 48, 3, [161, 1, 0, 718, 719, 0], .null),
  (114, .iload_n 2, 1, [2], .null),
  (115, .if_icmp .lt 14, 3, [129], .null),
  (118, .aload_n 0, 1, [0], .null),
  (119, .iload 4, 2, [4], .null),
  (121, .iload_n 2, 1, [2], .null),
  (122, .iload_n 3, 1, [3], .null),
  (123, .invokevirtual 53, 3, [84, 4, 0, 724, 726, 49], .null),
  (126, .ifCond .eq 18, 3, [144], .null),
  (129, .aload_n 0, 1, [0], .null),
  (130, .getfield 15, 3, [8, 1, 0, 168], .null),
  (133, .iload 4, 2, [4], .null),
  (135, .dup2, 1, [], .null),
  (136, .iaload, 1, [], .null),
  (137, .iconst 1, 1, [], .int 1),
  (138, .iload_n 1, 1, [1], .null),
  (139, .ishl, 1, [], .null),
  (140, .ior, 1, [], .null),
  (141, .iastore, 1, [], .null),
  (142, .iconst 1, 1, [], .int 1),
  (143, .ireturn, 1, [], .null),
  (144, .iinc 4 1, 3, [4], .int 1),
  (147, .goto (-113), 3, [34], .null),
  (150, .iconst 0, 1, [], .int 0),
  (151, .ireturn, 1, [], .null)]
def gc_84 : List (Nat × gI) := [(0, .iconst 0, 1, [], .int 0),
  (1, .istore 4, 2, [4], .null),
  (3, .iload 4, 2, [4], .null),
  (5, .bipush 12, 2, [], .int 12),
  (7, .if_icmp .ge 53, 3, [60], .null),
  (10, .aload_n 0, 1, [0], .null),
  (11, .getfield 15, 3, [8, 1, 0, 168], .null),
  (14, .iload_n 1, 1, [1], .null),
  (15, .iaload, 1, [], .null),
  (16, .iload 4, 2, [4], .null),
  (18, .ishr, 1, [], .null),
  (19, .iconst 1, 1, [], .int 1),
  (20, .iand, 1, [], .null),
  (21, .ifCond .eq 33, 3, [54], .null),
  (24, .aload_n 0, 1, [0], .null),
  (25, .iload 4, 2, [4], .null),
  (27, .iload_n 2, 1, [2], .null),
  (28, .iload_n 3, 1, [3], .null),
  (29, .iconst 1, 1, [], .int 1),
  (30, .iadd, 1, [], .null),
  (31, .invokevirtual 44, 3, [83, 4, 0, 714, 716, 48], .null),
  (34, .ifCond .eq 20, 3, [54], .null),
  (37, .aload_n 0, 1, [0], .null),
  (38, .getfield 15, 3, [8, 1, 0, 168], .null),
  (41, .iload_n 1, 1, [1], .null),
  (42, .dup2, 1, [], .null),
  (43, .iaload, 1, [], .null),
  (44, .iconst 1, 1, [], .int 1),
  (45, .iload 4, 2, [4], .null),
  (47, .ishl, 1, [], .null),
  (48, .iconst (-1), 1, [], .int (-1)),
  (49, .ixor, 1, [], .null),
  (50, .iand, 1, [], .null),
  (51, .iastore, 1, [], .null),
  (52, .iconst 1, 1, [], .int 1),
  (53, .ireturn, 1, [], .null),
  (54, .iinc 4 1, 3, [4], .int 1),
  (57, .goto (-54), 3, [3], .null),
  (60, .iconst 0, 1, [], .int 0),
  (61, .ireturn, 1, [], .null)]
def gc_85 : List (Nat × gI) := [(0, .iload_n 1, 1, [1], .null),
  (1, .bipush 101, 2, [], .int 101),
  (3, .invokestatic 88, 3, [9, 2, 0, 243, 244, 0], .null),
  (6, .ifCond .ne 5, 3, [11], .null),
  (9, .iconst 0, 1, [], .int 0),
  (10, .ireturn, 1, [], .null),
  (11, .aload_n 0, 1, [0], .null),
  (12, .getfield 125, 3, [9, 16, 0, 200], .null),
  (15, .bipush 52, 2, [], .int 52),
  (17, .idiv, 1, [], .null),
  (18, .istore_n 2, 1, [2], .null),
  (19, .iload_n 2, 1, [2], .null),
  (20, .bipush 10, 2, [], .int 10),
  (22, .if_icmp .ge 16, 3, [38], .null),
  (25, .aload_n 0, 1, [0], .null),
  (26, .getfield 67, 3, [9, 13, 0, 197], .null),
  (29, .iload_n 2, 1, [2], .null),
  (30, .iload_n 1, 1, [1], .null),
  (31, .iastore, 1, [], .null),
  (32, .iinc 2 1, 3, [2], .int 1),
  (35, .goto (-16), 3, [19], .null),
  (38, .iconst 1, 1, [], .int 1),
  (39, .ireturn, 1, [], .null)]
def gc_86 : List (Nat × gI) := [(0, .iload_n 1, 1, [1], .null),
  (1, .bipush 20, 2, [], .int 20),
  (3, .invokestatic 88, 3, [9, 2, 0, 243, 244, 0], .null),
  (6, .ifCond .eq 19, 3, [25], .null),
  (9, .iload_n 2, 1, [2], .null),
  (10, .aload_n 0, 1, [0], .null),
  (11, .getfield 125, 3, [9, 16, 0, 200], .null),
  (14, .bipush 52, 2, [], .int 52),
  (16, .idiv, 1, [], .null),
  (17, .iconst 1, 1, [], .int 1),
  (18, .iadd, 1, [], .null),
  (19, .invokestatic 88, 3, [9, 2, 0, 243, 244, 0], .null),
  (22, .ifCond .ne 5, 3, [27], .null),
  (25, .iconst (-1), 1, [], .int (-1)),
  (26, .ireturn, 1, [], .null),
  (27, .iconst 0, 1, [], .int 0),
  (28, .istore_n 3, 1, [3], .null),
  (29, .iconst 0, 1, [], .int 0),
  (30, .istore 4, 2, [4], .null),
  (32, .iload 4, 2, [4], .null),
  (34, .aload_n 0, 1, [0], .null),
  (35, .getfield 141, 3, [9, 3, 0, 187], .null),
  (38, .if_icmp .ge 58, 3, [96], .null),
  (41, .aload_n 0, 1, [0], .null),
  (42, .getfield 17, 3, [9, 2, 0, 186], .null),
  (45, .iload 4, 2, [4], .null),
  (47, .aaload, 1, [], .null),
  (48, .astore 5, 2, [5], .null),
  (50, .aload 5, 2, [5], .null),
  (52, .getfield 162, 3, [3, 5, 1, 604], .null),
  (55, .ifCond .ne 35, 3, [90], .null),
  (58, .aload 5, 2, [5], .null),
  (60, .getfield 166, 3, [3, 0, 1, 595], .null),
  (63, .getfield 210, 3, [7, 0, 1, 252], .null),
  (66, .iload_n 1, 1, [1], .null),
  (67, .if_icmp .ne 23, 3, [90], .null),
  (70, .aload 5, 2, [5], .null),
  (72, .getfield 213, 3, [3, 4, 1, 603], .null),
  (75, .bipush 52, 2, [], .int 52),
  (77, .idiv, 1, [], .null),
  (78, .iload_n 2, 1, [2], .null),
  (79, .if_icmp .ne 11, 3, [90], .null),
  (82, .iload_n 3, 1, [3], .null),
  (83, .aload 5, 2, [5], .null),
  (85, .getfield 216, 3, [3, 3, 1, 601], .null),
  (88, .iadd, 1, [], .null),
  (89, .istore_n 3, 1, [3], .null),
  (90, .iinc 4 1, 3, [4], .int 1),
  (93, .goto (-61), 3, [32], .null),
  (96, .iload_n 3, 1, [3], .null),
  (97, .aload_n 0, 1, [0], .null),
  (98, .getfield 67, 3, [9, 13, 0, 197], .null),
  (101, .iload_n 2, 1, [2], .null),
  (102, .iaload, 1, [], .null),
  (103, .imul, 1, [], .null),
  (104, .bipush 100, 2, [], .int 100),
  (106, .idiv, 1, [], .null),
  (107, .ireturn, 1, [], .null)]
def gc_87 : List (Nat × gI) := [(0, .iload_n 1, 1, [1], .null),
  (1, .tableswitch 117 0 9 #[55, 60, 65, 70, 75, 81, 87, 93, 101, 109], 55, [118, 56, 61, 66, 71, 76, 82, 88, 94, 102, 110], .null),
  (56, .aload_n 0, 1, [0], .null),
  (57, .getfield 92, 3, [9, 1, 0, 185], .null),
  (60, .ireturn, 1, [], .null),
  (61, .aload_n 0, 1, [0], .null),
  (62, .getfield 125, 3, [9, 16, 0, 200], .null),
  (65, .ireturn, 1, [], .null),
  (66, .aload_n 0, 1, [0], .null),
  (67, .invokevirtual 227, 3, [88, 1, 0, 740, 742, 50], .null),
  (70, .ireturn, 1, [], .null),
  (71, .aload_n 0, 1, [0], .null),
  (72, .invokevirtual 231, 3, [89, 1, 0, 744, 746, 51], .null),
  (75, .ireturn, 1, [], .null),
  (76, .aload_n 0, 1, [0], .null),
  (77, .iconst 1, 1, [], .int 1),
  (78, .invokevirtual 234, 3, [90, 2, 0, 748, 750, 52], .null),
  (81, .ireturn, 1, [], .null),
  (82, .aload_n 0, 1, [0], .null),
  (83, .iconst 2, 1, [], .int 2),
  (84, .invokevirtual 234, 3, [90, 2, 0, 748, 750, 52], .null),
  (87, .ireturn, 1, [], .null),
  (88, .aload_n 0, 1, [0], .null),
  (89, .iconst 3, 1, [], .int 3),
  (90, .invokevirtual 234, 3, [90, 2, 0, 748, 750, 52], .null),
  (93, .ireturn, 1, [], .null),
  (94, .aload_n 0, 1, [0], .null),
  (95, .getfield 42, 3, [9, 8, 0, 192], .null),
  (98, .getfield 237, 3, [2, 5, 1, 93], .null),
  (101, .ireturn, 1, [], .null),
  (102, .aload_n 0, 1, [0], .null),
  (103, .getfield 35, 3, [9, 6, 0, 190], .null),
  (106, .getfield 105, 3, [6, 1, 1, 73], .null),
  (109, .ireturn, 1, [], .null),
  (110, .aload_n 0, 1, [0], .null),
  (111, .getfield 80, 3, [9, 15, 0, 199], .null),
  (114, .getfield 240, 3, [8, 2, 1, 170], .null),
  (117, .ireturn, 1, [], .null),
  (118, .iconst (-1), 1, [], .int (-1)),
  (119, .ireturn, 1, [], .null)]
def gc_88 : List (Nat × gI) := [(0, .iconst 0, 1, [], .int 0),
  (1, .istore_n 1, 1, [1], .null),
  (2, .iconst 0, 1, [], .int 0),
  (3, .istore_n 2, 1, [2], .null),
  (4, .iload_n 2, 1, [2], .null),
  (5, .aload_n 0, 1, [0], .null),
  (6, .getfield 141, 3, [9, 3, 0, 187], .null),
  (9, .if_icmp .ge 24, 3, [33], .null),
  (12, .aload_n 0, 1, [0], .null),
  (13, .getfield 17, 3, [9, 2, 0, 186], .null),
  (16, .iload_n 2, 1, [2], .null),
  (17, .aaload, 1, [], .null),
  (18, .getfield 162, 3, [3, 5, 1, 604], .null),
  (21, .ifCond .ne 6, 3, [27], .null),
  (24, .iinc 1 1, 3, [1], .int 1),
  (27, .iinc 2 1, 3, [2], .int 1),
  (30, .goto (-26), 3, [4], .null),
  (33, .iload_n 1, 1, [1], .null),
  (34, .ireturn, 1, [], .null)]
def gc_89 : List (Nat × gI) := [(0, .iconst 0, 1, [], .int 0),
  (1, .istore_n 1, 1, [1], .null),
  (2, .iconst 0, 1, [], .int 0),
  (3, .istore_n 2, 1, [2], .null),
  (4, .iload_n 2, 1, [2], .null),
  (5, .aload_n 0, 1, [0], .null),
  (6, .getfield 141, 3, [9, 3, 0, 187], .null),
  (9, .if_icmp .ge 33, 3, [42], .null),
  (12, .aload_n 0, 1, [0], .null),
  (13, .getfield 17, 3, [9, 2, 0, 186], .null),
  (16, .iload_n 2, 1, [2], .null),
  (17, .aaload, 1, [], .null),
  (18, .getfield 162, 3, [3, 5, 1, 604], .null),
  (21, .ifCond .ne 15, 3, [36], .null),
  (24, .iload_n 1, 1, [1], .null),
  (25, .aload_n 0, 1, [0], .null),
  (26, .getfield 17, 3, [9, 2, 0, 186], .null),
  (29, .iload_n 2, 1, [2], .null),
  (30, .aaload, 1, [], .null),
  (31, .getfield 216, 3, [3, 3, 1, 601], .null),
  (34, .iadd, 1, [], .null),
  (35, .istore_n 1, 1, [1], .null),
  (36, .iinc 2 1, 3, [2], .int 1),
  (39, .goto (-35), 3, [4], .null),
  (42, .iload_n 1, 1, [1], .null),
  (43, .ireturn, 1, [], .null)]
def gc_90 : List (Nat × gI) := [(0, .iconst 0, 1, [], .int 0),
  (1, .istore_n 2, 1, [2], .null),
  (2, .iconst 0, 1, [], .int 0),
  (3, .istore_n 3, 1, [3], .null),
  (4, .iload_n 3, 1, [3], .null),
  (5, .aload_n 0, 1, [0], .null),
  (6, .getfield 92, 3, [9, 1, 0, 185], .null),
  (9, .if_icmp .ge 25, 3, [34], .null),
  (12, .aload_n 0, 1, [0], .null),
  (13, .getfield 11, 3, [9, 0, 0, 184], .null),
  (16, .iload_n 3, 1, [3], .null),
  (17, .aaload, 1, [], .null),
  (18, .getfield 112, 3, [7, 4, 1, 260], .null),
  (21, .iload_n 1, 1, [1], .null),
  (22, .if_icmp .ne 6, 3, [28], .null),
  (25, .iinc 2 1, 3, [2], .int 1),
  (28, .iinc 3 1, 3, [3], .int 1),
  (31, .goto (-27), 3, [4], .null),
  (34, .iload_n 2, 1, [2], .null),
  (35, .ireturn, 1, [], .null)]
def gc_91 : List (Nat × gI) := [(0, .iload_n 1, 1, [1], .null),
  (1, .aload_n 0, 1, [0], .null),
  (2, .getfield 92, 3, [9, 1, 0, 185], .null),
  (5, .invokestatic 88, 3, [9, 2, 0, 243, 244, 0], .null),
  (8, .ifCond .eq 11, 3, [19], .null),
  (11, .iload_n 2, 1, [2], .null),
  (12, .iconst 5, 1, [], .int 5),
  (13, .invokestatic 88, 3, [9, 2, 0, 243, 244, 0], .null),
  (16, .ifCond .ne 13, 3, [29], .null),
  (19, .new 219, 3, [], .null),
  (22, .dup, 1, [], .null),
  (23, .ldc 221, 2, [], .null),
  (25, .invokespecial 223, 3, [], .null),
  (28, .athrow, 1, [], .null),
  (29, .aload_n 0, 1, [0], .null),
  (30, .getfield 11, 3, [9, 0, 0, 184], .null),
  (33, .iload_n 1, 1, [1], .null),
  (34, .aaload, 1, [], .null),
  (35, .astore_n 3, 1, [3], .null),
  (36, .iload_n 2, 1, [2], .null),
  (37, .tableswitch 92 0 3 #[31, 36, 70, 87], 31, [129, 68, 73, 107, 124], .null),
  (68, .aload_n 3, 1, [3], .null),
  (69, .getfield 112, 3, [7, 4, 1, 260], .null),
  (72, .ireturn, 1, [], .null),
  (73, .aload_n 3, 1, [3], .null),
  (74, .getfield 112, 3, [7, 4, 1, 260], .null),
  (77, .iconst 1, 1, [], .int 1),
  (78, .if_icmp .eq 20, 3, [98], .null),
  (81, .aload_n 3, 1, [3], .null),
  (82, .getfield 112, 3, [7, 4, 1, 260], .null),
  (85, .iconst 5, 1, [], .int 5),
  (86, .if_icmp .eq 12, 3, [98], .null),
  (89, .aload_n 3, 1, [3], .null),
  (90, .getfield 112, 3, [7, 4, 1, 260], .null),
  (93, .bipush 6, 2, [], .int 6),
  (95, .if_icmp .ne 10, 3, [105], .null),
  (98, .aload_n 3, 1, [3], .null),
  (99, .getfield 150, 3, [7, 5, 1, 262], .null),
  (102, .goto 4, 3, [106], .null),
  (105, .iconst (-1), 1, [], .int (-1)),
  (106, .ireturn, 1, [], .null),
  (107, .aload_n 3, 1, [3], .null),
  (108, .getfield 112, 3, [7, 4, 1, 260], .null),
  (111, .iconst 1, 1, [], .int 1),
  (112, .if_icmp .ne 10, 3, [122], .null),
  (115, .aload_n 3, 1, [3], .null),
  (116, .getfield 226, 3, [7, 6, 1, 264], .null),
  (119, .goto 4, 3, [123], .null),
  (122, .iconst (-1), 1, [], .int (-1)),
  (123, .ireturn, 1, [], .null),
  (124, .aload_n 3, 1, [3], .null),
  (125, .getfield 193, 3, [7, 7, 1, 265], .null),
  (128, .ireturn, 1, [], .null),
  (129, .aload_n 0, 1, [0], .null),
  (130, .aload_n 3, 1, [3], .null),
  (131, .invokevirtual 119, 3, [40, 2, 0, 512, 514, 23], .null),
  (134, .ireturn, 1, [], .null)]
def gc_92 : List (Nat × gI) := [(0, .aload_n 0, 1, [0], .null),
  (1, .getfield 1, 3, [10, 0, 0, 855], .null),
  (4, .ireturn, 1, [], .null)]
def gc_93 : List (Nat × gI) := [(0, .aload_n 0, 1, [0], .null),
  (1, .iconst 0, 1, [], .int 0),
  (2, .putfield 1, 3, [10, 0, 0, 855], .null),
  (5, .aload_n 0, 1, [0], .null),
  (6, .lload_n 1, 1, [1], .null),
  (7, .invokevirtual 7, 3, [94, 2, 0, 833, 835, 54], .null),
  (10, .aload_n 0, 1, [0], .null),
  (11, .lload_n 3, 1, [3], .null),
  (12, .invokevirtual 7, 3, [94, 2, 0, 833, 835, 54], .null),
  (15, .aload_n 0, 1, [0], .null),
  (16, .lload 5, 2, [5], .null),
  (18, .invokevirtual 7, 3, [94, 2, 0, 833, 835, 54], .null),
  (21, .aload_n 0, 1, [0], .null),
  (22, .getfield 11, 3, [10, 2, 0, 857], .null),
  (25, .ireturn, 1, [], .null)]
def gc_94 : List (Nat × gI) := [(0, .bipush 56, 2, [], .int 56),
  (2, .istore_n 3, 1, [3], .null),
  (3, .iload_n 3, 1, [3], .null),
  (4, .ifCond .lt 71, 3, [75], .null),
  (7, .lload_n 1, 1, [1], .null),
  (8, .iload_n 3, 1, [3], .null),
  (9, .lshr, 1, [], .null),
  (10, .l2i, 1, [], .null),
  (11, .sipush 255, 3, [], .int 255),
  (14, .iand, 1, [], .null),
  (15, .istore 4, 2, [4], .null),
  (17, .iload 4, 2, [4], .null),
  (19, .bipush 10, 2, [], .int 10),
  (21, .if_icmp .eq 17, 3, [38], .null),
  (24, .iload 4, 2, [4], .null),
  (26, .bipush 32, 2, [], .int 32),
  (28, .if_icmp .lt 41, 3, [69], .null),
  (31, .iload 4, 2, [4], .null),
  (33, .bipush 126, 2, [], .int 126),
  (35, .if_icmp .gt 34, 3, [69], .null),
  (38, .aload_n 0, 1, [0], .null),
  (39, .getfield 11, 3, [10, 2, 0, 857], .null),
  (42, .sipush 600, 3, [], .int 600),
  (45, .if_icmp .ge 24, 3, [69], .null),
  (48, .aload_n 0, 1, [0], .null),
  (49, .getfield 14, 3, [10, 1, 0, 856], .null),
  (52, .aload_n 0, 1, [0], .null),
  (53, .getfield 11, 3, [10, 2, 0, 857], .null),
  (56, .iload 4, 2, [4], .null),
  (58, .iastore, 1, [], .null),
  (59, .aload_n 0, 1, [0], .null),
  (60, .dup, 1, [], .null),
  (61, .getfield 11, 3, [10, 2, 0, 857], .null),
  (64, .iconst 1, 1, [], .int 1),
  (65, .iadd, 1, [], .null),
  (66, .putfield 11, 3, [10, 2, 0, 857], .null),
  (69, .iinc 3 (-8), 3, [3], .int (-8)),
  (72, .goto (-69), 3, [3], .null),
  (75, .return_, 1, [], .null)]
def gc_95 : List (Nat × gI) := [(0, .aload_n 0, 1, [0], .null),
  (1, .invokespecial 18, 3, [1000, 1, 0, 842, 29, 0], .null),
  (4, .aload_n 0, 1, [0], .null),
  (5, .sipush 600, 3, [], .int 600),
  (8, .newarray .int, 2, [62], .null),
  (10, .putfield 14, 3, [10, 1, 0, 856], .null),
  (13, .aload_n 0, 1, [0], .null),
  (14, .sipush 602, 3, [], .int 602),
  (17, .newarray .int, 2, [62], .null),
  (19, .putfield 24, 3, [10, 4, 0, 859], .null),
  (22, .aload_n 0, 1, [0], .null),
  (23, .sipush 602, 3, [], .int 602),
  (26, .newarray .int, 2, [62], .null),
  (28, .putfield 27, 3, [10, 5, 0, 860], .null),
  (31, .aload_n 0, 1, [0], .null),
  (32, .sipush 602, 3, [], .int 602),
  (35, .newarray .long, 2, [1018], .null),
  (37, .putfield 30, 3, [10, 6, 0, 861], .null),
  (40, .aload_n 0, 1, [0], .null),
  (41, .bipush 12, 2, [], .int 12),
  (43, .newarray .long, 2, [1018], .null),
  (45, .dup, 1, [], .null),
  (46, .iconst 0, 1, [], .int 0),
  (47, .ldc2_w 34, 3, [843], .long 36021578),
  (50, .lastore, 1, [], .null),
  (51, .dup, 1, [], .null),
  (52, .iconst 1, 1, [], .int 1),
  (53, .ldc2_w 36, 3, [844], .long 36643325),
  (56, .lastore, 1, [], .null),
  (57, .dup, 1, [], .null),
  (58, .iconst 2, 1, [], .int 2),
  (59, .ldc2_w 38, 3, [845], .long 24686),
  (62, .lastore, 1, [], .null),
  (63, .dup, 1, [], .null),
  (64, .iconst 3, 1, [], .int 3),
  (65, .ldc2_w 40, 3, [846], .long 628937),
  (68, .lastore, 1, [], .null),
  (69, .dup, 1, [], .null),
  (70, .iconst 4, 1, [], .int 4),
  (71, .ldc2_w 42, 3, [847], .long 1176170),
  (74, .lastore, 1, [], .null),
  (75, .dup, 1, [], .null),
  (76, .iconst 5, 1, [], .int 5),
  (77, .ldc2_w 44, 3, [848], .long 1891),
  (80, .lastore, 1, [], .null),
  (81, .dup, 1, [], .null),
  (82, .bipush 6, 2, [], .int 6),
  (84, .ldc2_w 46, 3, [849], .long 570026),
  (87, .lastore, 1, [], .null),
  (88, .dup, 1, [], .null),
  (89, .bipush 7, 2, [], .int 7),
  (91, .ldc2_w 48, 3, [850], .long 36624233),
  (94, .lastore, 1, [], .null),
  (95, .dup, 1, [], .null),
  (96, .bipush 8, 2, [], .int 8),
  (98, .ldc2_w 50, 3, [851], .long 1326983221),
  (101, .lastore, 1, [], .null),
  (102, .dup, 1, [], .null),
  (103, .bipush 9, 2, [], .int 9),
  (105, .ldc2_w 52, 3, [852], .long 19744),
  (108, .lastore, 1, [], .null),
  (109, .dup, 1, [], .null),
  (110, .bipush 10, 2, [], .int 10),
  (112, .ldc2_w 54, 3, [853], .long 103383),
  (115, .lastore, 1, [], .null),
  (116, .dup, 1, [], .null),
  (117, .bipush 11, 2, [], .int 11),
  (119, .ldc2_w 56, 3, [854], .long 13605325),
  (122, .lastore, 1, [], .null),
  (123, .putfield 58, 3, [10, 9, 0, 864], .null),
  (126, .aload_n 0, 1, [0], .null),
  (127, .iconst 2, 1, [], .int 2),
  (128, .newarray .int, 2, [62], .null),
  (130, .putfield 61, 3, [10, 10, 0, 865], .null),
  (133, .aload_n 0, 1, [0], .null),
  (134, .bipush 32, 2, [], .int 32),
  (136, .newarray .int, 2, [62], .null),
  (138, .putfield 64, 3, [10, 11, 0, 866], .null),
  (141, .aload_n 0, 1, [0], .null),
  (142, .bipush 32, 2, [], .int 32),
  (144, .newarray .int, 2, [62], .null),
  (146, .putfield 67, 3, [10, 12, 0, 867], .null),
  (149, .aload_n 0, 1, [0], .null),
  (150, .sipush 1320, 3, [], .int 1320),
  (153, .newarray .int, 2, [62], .null),
  (155, .putfield 70, 3, [10, 13, 0, 868], .null),
  (158, .aload_n 0, 1, [0], .null),
  (159, .sipush 1320, 3, [], .int 1320),
  (162, .newarray .int, 2, [62], .null),
  (164, .putfield 73, 3, [10, 14, 0, 869], .null),
  (167, .aload_n 0, 1, [0], .null),
  (168, .bipush 7, 2, [], .int 7),
  (170, .newarray .int, 2, [62], .null),
  (172, .putfield 76, 3, [10, 19, 0, 874], .null),
  (175, .aload_n 0, 1, [0], .null),
  (176, .bipush 7, 2, [], .int 7),
  (178, .newarray .int, 2, [62], .null),
  (180, .putfield 79, 3, [10, 20, 0, 875], .null),
  (183, .aload_n 0, 1, [0], .null),
  (184, .bipush 7, 2, [], .int 7),
  (186, .newarray .int, 2, [62], .null),
  (188, .putfield 82, 3, [10, 21, 0, 876], .null),
  (191, .aload_n 0, 1, [0], .null),
  (192, .bipush 6, 2, [], .int 6),
  (194, .newarray .int, 2, [62], .null),
  (196, .putfield 85, 3, [10, 22, 0, 877], .null),
  (199, .aload_n 0, 1, [0], .null),
  (200, .sipush 660, 3, [], .int 660),
  (203, .newarray .int, 2, [62], .null),
  (205, .putfield 88, 3, [10, 23, 0, 878], .null),
  (208, .aload_n 0, 1, [0], .null),
  (209, .bipush 100, 2, [], .int 100),
  (211, .newarray .int, 2, [62], .null),
  (213, .putfield 91, 3, [10, 26, 0, 881], .null),
  (216, .aload_n 0, 1, [0], .null),
  (217, .bipush 100, 2, [], .int 100),
  (219, .newarray .int, 2, [62], .null),
  (221, .putfield 94, 3, [10, 27, 0, 882], .null),
  (224, .aload_n 0, 1, [0], .null),
  (225, .bipush 100, 2, [], .int 100),
  (227, .newarray .int, 2, [62], .null),
  (229, .putfield 97, 3, [10, 28, 0, 883], .null),
  (232, .aload_n 0, 1, [0], .null),
  (233, .bipush 100, 2, [], .int 100),
  (235, .newarray .int, 2, [62], .null),
  (237, .putfield 100, 3, [10, 29, 0, 884], .null),
  (240, .aload_n 0, 1, [0], .null),
  (241, .bipush 100, 2, [], .int 100),
  (243, .newarray .int, 2, [62], .null),
  (245, .putfield 103, 3, [10, 30, 0, 885], .null),
  (248, .aload_n 0, 1, [0], .null),
  (249, .bipush 100, 2, [], .int 100),
  (251, .newarray .int, 2, [62], .null),
  (253, .putfield 106, 3, [10, 31, 0, 886], .null),
  (256, .aload_n 0, 1, [0], .null),
  (257, .bipush 100, 2, [], .int 100),
  (259, .newarray .int, 2, [62], .null),
  (261, .putfield 109, 3, [10, 32, 0, 887], .null),
  (264, .aload_n 0, 1, [0], .null),
  (265, .bipush 100, 2, [], .int 100),
  (267, .newarray .int, 2, [62], .null),
  (269, .putfield 112, 3, [10, 33, 0, 888], .null),
  (272, .aload_n 0, 1, [0], .null),
  (273, .bipush 8, 2, [], .int 8),
  (275, .newarray .int, 2, [62], .null),
  (277, .putfield 115, 3, [10, 34, 0, 889], .null),
  (280, .aload_n 0, 1, [0], .null),
  (281, .iconst 5, 1, [], .int 5),
  (282, .newarray .int, 2, [62], .null),
  (284, .putfield 118, 3, [10, 35, 0, 890], .null),
  (287, .aload_n 0, 1, [0], .null),
  (288, .bipush 40, 2, [], .int 40),
  (290, .newarray .int, 2, [62], .null),
  (292, .putfield 121, 3, [10, 36, 0, 891], .null),
  (295, .aload_n 0, 1, [0], .null),
  (296, .bipush 10, 2, [], .int 10),
  (298, .newarray .int, 2, [62], .null),
  (300, .putfield 123, 3, [10, 37, 0, 892], .null),
  (303, .aload_n 0, 1, [0], .null),
  (304, .bipush 10, 2, [], .int 10),
  (306, .newarray .int, 2, [62], .null),
  (308, .putfield 126, 3, [10, 38, 0, 893], .null),
  (311, .aload_n 0, 1, [0], .null),
  (312, .bipush 25, 2, [], .int 25),
  (314, .putfield 129, 3, [10, 39, 0, 894], .null),
  (317, .aload_n 0, 1, [0], .null),
  (318, .bipush 11, 2, [], .int 11),
  (320, .newarray .int, 2, [62], .null),
  (322, .putfield 132, 3, [10, 40, 0, 895], .null),
  (325, .aload_n 0, 1, [0], .null),
  (326, .sipush 200, 3, [], .int 200),
  (329, .newarray .int, 2, [62], .null),
  (331, .putfield 135, 3, [10, 42, 0, 897], .null),
  (334, .aload_n 0, 1, [0], .null),
  (335, .sipush 200, 3, [], .int 200),
  (338, .newarray .int, 2, [62], .null),
  (340, .putfield 138, 3, [10, 43, 0, 898], .null),
  (343, .aload_n 0, 1, [0], .null),
  (344, .sipush 200, 3, [], .int 200),
  (347, .newarray .int, 2, [62], .null),
  (349, .putfield 141, 3, [10, 44, 0, 899], .null),
  (352, .aload_n 0, 1, [0], .null),
  (353, .sipush 200, 3, [], .int 200),
  (356, .newarray .int, 2, [62], .null),
  (358, .putfield 144, 3, [10, 45, 0, 900], .null),
  (361, .aload_n 0, 1, [0], .null),
  (362, .sipush 200, 3, [], .int 200),
  (365, .newarray .boolean, 2, [1019], .null),
  (367, .putfield 147, 3, [10, 46, 0, 901], .null),
  (370, .aload_n 0, 1, [0], .null),
  (371, .iconst 5, 1, [], .int 5),
  (372, .putfield 151, 3, [10, 47, 0, 902], .null),
  (375, .aload_n 0, 1, [0], .null),
  (376, .bipush 36, 2, [], .int 36),
  (378, .newarray .int, 2, [62], .null),
  (380, .putfield 154, 3, [10, 48, 0, 903], .null),
  (383, .aload_n 0, 1, [0], .null),
  (384, .bipush 10, 2, [], .int 10),
  (386, .newarray .int, 2, [62], .null),
  (388, .putfield 157, 3, [10, 50, 0, 905], .null),
  (391, .aload_n 0, 1, [0], .null),
  (392, .bipush 120, 2, [], .int 120),
  (394, .newarray .boolean, 2, [1019], .null),
  (396, .putfield 160, 3, [10, 51, 0, 906], .null),
  (399, .aload_n 0, 1, [0], .null),
  (400, .bipush 10, 2, [], .int 10),
  (402, .newarray .boolean, 2, [1019], .null),
  (404, .putfield 163, 3, [10, 52, 0, 907], .null),
  (407, .iconst 0, 1, [], .int 0),
  (408, .istore_n 1, 1, [1], .null),
  (409, .iload_n 1, 1, [1], .null),
  (410, .bipush 8, 2, [], .int 8),
  (412, .if_icmp .ge 17, 3, [429], .null),
  (415, .aload_n 0, 1, [0], .null),
  (416, .getfield 115, 3, [10, 34, 0, 889], .null),
  (419, .iload_n 1, 1, [1], .null),
  (420, .bipush 10, 2, [], .int 10),
  (422, .iastore, 1, [], .null),
  (423, .iinc 1 1, 3, [1], .int 1),
  (426, .goto (-17), 3, [409], .null),
  (429, .iconst 0, 1, [], .int 0),
  (430, .istore_n 1, 1, [1], .null),
  (431, .iload_n 1, 1, [1], .null),
  (432, .iconst 5, 1, [], .int 5),
  (433, .if_icmp .ge 17, 3, [450], .null),
  (436, .aload_n 0, 1, [0], .null),
  (437, .getfield 118, 3, [10, 35, 0, 890], .null),
  (440, .iload_n 1, 1, [1], .null),
  (441, .bipush 10, 2, [], .int 10),
  (443, .iastore, 1, [], .null),
  (444, .iinc 1 1, 3, [1], .int 1),
  (447, .goto (-16), 3, [431], .null),
  (450, .iconst 0, 1, [], .int 0),
  (451, .istore_n 1, 1, [1], .null),
  (452, .iload_n 1, 1, [1], .null),
  (453, .bipush 36, 2, [], .int 36),
  (455, .if_icmp .ge 17, 3, [472], .null),
  (458, .aload_n 0, 1, [0], .null),
  (459, .getfield 154, 3, [10, 48, 0, 903], .null),
  (462, .iload_n 1, 1, [1], .null),
  (463, .bipush 10, 2, [], .int 10),
  (465, .iastore, 1, [], .null),
  (466, .iinc 1 1, 3, [1], .int 1),
  (469, .goto (-17), 3, [452], .null),
  (472, .return_, 1, [], .null)]
def gc_96 : List (Nat × gI) := [(0, .aload_n 0, 1, [0], .null),
  (1, .iconst 0, 1, [], .int 0),
  (2, .putfield 1, 3, [10, 0, 0, 855], .null),
  (5, .aload_n 0, 1, [0], .null),
  (6, .invokevirtual 214, 3, [97, 1, 0, 1024, 1026, 55], .null),
  (9, .aload_n 0, 1, [0], .null),
  (10, .iconst 1, 1, [], .int 1),
  (11, .aload_n 0, 1, [0], .null),
  (12, .getfield 217, 3, [10, 15, 0, 870], .null),
  (15, .isub, 1, [], .null),
  (16, .putfield 208, 3, [10, 16, 0, 871], .null),
  (19, .aload_n 0, 1, [0], .null),
  (20, .getfield 61, 3, [10, 10, 0, 865], .null),
  (23, .aload_n 0, 1, [0], .null),
  (24, .getfield 208, 3, [10, 16, 0, 871], .null),
  (27, .iconst 0, 1, [], .int 0),
  (28, .iastore, 1, [], .null),
  (29, .aload_n 0, 1, [0], .null),
  (30, .iconst 0, 1, [], .int 0),
  (31, .putfield 211, 3, [10, 17, 0, 872], .null),
  (34, .aload_n 0, 1, [0], .null),
  (35, .getfield 192, 3, [10, 8, 0, 863], .null),
  (38, .ifCond .ne 22, 3, [60], .null),
  (41, .aload_n 0, 1, [0], .null),
  (42, .getfield 24, 3, [10, 4, 0, 859], .null),
  (45, .aload_n 0, 1, [0], .null),
  (46, .getfield 189, 3, [10, 7, 0, 862], .null),
  (49, .iaload, 1, [], .null),
  (50, .ifCond .eq 10, 3, [60], .null),
  (53, .aload_n 0, 1, [0], .null),
  (54, .invokevirtual 220, 3, [102, 1, 0, 1043, 1045, 56], .null),
  (57, .goto (-23), 3, [34], .null),
  (60, .aload_n 0, 1, [0], .null),
  (61, .getfield 192, 3, [10, 8, 0, 863], .null),
  (64, .ifCond .ne 11, 3, [75], .null),
  (67, .aload_n 0, 1, [0], .null),
  (68, .aload_n 0, 1, [0], .null),
  (69, .getfield 208, 3, [10, 16, 0, 871], .null),
  (72, .putfield 217, 3, [10, 15, 0, 870], .null),
  (75, .aload_n 0, 1, [0], .null),
  (76, .getfield 192, 3, [10, 8, 0, 863], .null),
  (79, .ireturn, 1, [], .null)]
def gc_97 : List (Nat × gI) := [(0, .aload_n 0, 1, [0], .null),
  (1, .aload_n 0, 1, [0], .null),
  (2, .getfield 11, 3, [10, 2, 0, 857], .null),
  (5, .putfield 170, 3, [10, 3, 0, 858], .null),
  (8, .aload_n 0, 1, [0], .null),
  (9, .iconst 0, 1, [], .int 0),
  (10, .putfield 11, 3, [10, 2, 0, 857], .null),
  (13, .iconst 0, 1, [], .int 0),
  (14, .istore_n 1, 1, [1], .null),
  (15, .iconst 0, 1, [], .int 0),
  (16, .istore_n 2, 1, [2], .null),
  (17, .iload_n 2, 1, [2], .null),
  (18, .aload_n 0, 1, [0], .null),
  (19, .getfield 170, 3, [10, 3, 0, 858], .null),
  (22, .if_icmp .ge 257, 3, [279], .null),
  (25, .aload_n 0, 1, [0], .null),
  (26, .getfield 14, 3, [10, 1, 0, 856], .null),
  (29, .iload_n 2, 1, [2], .null),
  (30, .iaload, 1, [], .null),
  (31, .istore_n 3, 1, [3], .null),
  (32, .iload_n 3, 1, [3], .null),
  (33, .bipush 10, 2, [], .int 10),
  (35, .if_icmp .eq 9, 3, [44], .null),
  (38, .iload_n 3, 1, [3], .null),
  (39, .bipush 32, 2, [], .int 32),
  (41, .if_icmp .ne 9, 3, [50], .null),
  (44, .iinc 2 1, 3, [2], .int 1),
  (47, .goto (-30), 3, [17], .null),
  (50, .iload_n 2, 1, [2], .null),
  (51, .istore 4, 2, [4], .null),
  (53, .lconst 0, 1, [], .long 0),
  (54, .lstore 5, 2, [5], .null),
  (56, .aload_n 0, 1, [0], .null),
  (57, .getfield 27, 3, [10, 5, 0, 860], .null),
  (60, .iload_n 1, 1, [1], .null),
  (61, .iload_n 2, 1, [2], .null),
  (62, .iastore, 1, [], .null),
  (63, .iload_n 3, 1, [3], .null),
  (64, .invokestatic 166, 3, [98, 1, 0, 1028, 1029, 0], .null),
  (67, .ifCond .eq 85, 3, [152], .null),
  (70, .iload_n 2, 1, [2], .null),
  (71, .aload_n 0, 1, [0], .null),
  (72, .getfield 170, 3, [10, 3, 0, 858], .null),
  (75, .if_icmp .ge 54, 3, [129], .null),
  (78, .aload_n 0, 1, [0], .null),
  (79, .getfield 14, 3, [10, 1, 0, 856], .null),
  (82, .iload_n 2, 1, [2], .null),
  (83, .iaload, 1, [], .null),
  (84, .invokestatic 166, 3, [98, 1, 0, 1028, 1029, 0], .null),
  (87, .ifCond .eq 42, 3, [129], .null),
  (90, .iload_n 2, 1, [2], .null),
  (91, .iload 4, 2, [4], .null),
  (93, .isub, 1, [], .null),
  (94, .bipush 8, 2, [], .int 8),
  (96, .if_icmp .ge 23, 3, [119], .null),
  (99, .ldc2_w 173, 3, [1031], .long 37),
  (102, .lload 5, 2, [5], .null),
  (104, .lmul, 1, [], .null),
  (105, .aload_n 0, 1, [0], .null),
  (106, .getfield 14, 3, [10, 1, 0, 856], .null),
  (109, .iload_n 2, 1, [2], .null),
  (110, .iaload, 1, [], .null),
  (111, .invokestatic 175, 3, [99, 1, 0, 1032, 1033, 0], .null),
  (114, .i2l, 1, [], .null),
  (115, .ladd, 1, [], .null),
  (116, .goto 5, 3, [121], .null),
  (119, .lload 5, 2, [5], .null),
  (121, .lstore 5, 2, [5], .null),
  (123, .iinc 2 1, 3, [2], .int 1),
  (126, .goto (-56), 3, [70], .null),
  (129, .aload_n 0, 1, [0], .null),
  (130, .getfield 24, 3, [10, 4, 0, 859], .null),
  (133, .iload_n 1, 1, [1], .null),
  (134, .iload_n 2, 1, [2], .null),
  (135, .iload 4, 2, [4], .null),
  (137, .isub, 1, [], .null),
  (138, .bipush 8, 2, [], .int 8),
  (140, .if_icmp .le 7, 3, [147], .null),
  (143, .iconst 4, 1, [], .int 4),
  (144, .goto 4, 3, [148], .null),
  (147, .iconst 1, 1, [], .int 1),
  (148, .iastore, 1, [], .null),
  (149, .goto 116, 3, [265], .null),
  (152, .iload_n 3, 1, [3], .null),
  (153, .invokestatic 179, 3, [100, 1, 0, 1035, 1036, 0], .null),
  (156, .ifCond .eq 84, 3, [240], .null),
  (159, .iload_n 2, 1, [2], .null),
  (160, .aload_n 0, 1, [0], .null),
  (161, .getfield 170, 3, [10, 3, 0, 858], .null),
  (164, .if_icmp .ge 54, 3, [218], .null),
  (167, .aload_n 0, 1, [0], .null),
  (168, .getfield 14, 3, [10, 1, 0, 856], .null),
  (171, .iload_n 2, 1, [2], .null),
  (172, .iaload, 1, [], .null),
  (173, .invokestatic 179, 3, [100, 1, 0, 1035, 1036, 0], .null),
  (176, .ifCond .eq 42, 3, [218], .null),
  (179, .iload_n 2, 1, [2], .null),
  (180, .iload 4, 2, [4], .null),
  (182, .isub, 1, [], .null),
  (183, .iconst 4, 1, [], .int 4),
  (184, .if_icmp .ge 24, 3, [208], .null),
  (187, .ldc2_w 182, 3, [1038], .long 10),
  (190, .lload 5, 2, [5], .null),
  (192, .lmul, 1, [], .null),
  (193, .aload_n 0, 1, [0], .null),
  (194, .getfield 14, 3, [10, 1, 0, 856], .null),
  (197, .iload_n 2, 1, [2], .null),
  (198, .iaload, 1, [], .null),
  (199, .i2l, 1, [], .null),
  (200, .ladd, 1, [], .null),
  (201, .ldc2_w 184, 3, [1039], .long 48),
  (204, .lsub, 1, [], .null),
  (205, .goto 5, 3, [210], .null),
  (208, .lload 5, 2, [5], .null),
  (210, .lstore 5, 2, [5], .null),
  (212, .iinc 2 1, 3, [2], .int 1),
  (215, .goto (-56), 3, [159], .null),
  (218, .aload_n 0, 1, [0], .null),
  (219, .getfield 24, 3, [10, 4, 0, 859], .null),
  (222, .iload_n 1, 1, [1], .null),
  (223, .iload_n 2, 1, [2], .null),
  (224, .iload 4, 2, [4], .null),
  (226, .isub, 1, [], .null),
  (227, .iconst 4, 1, [], .int 4),
  (228, .if_icmp .le 7, 3, [235], .null),
  (231, .iconst 4, 1, [], .int 4),
  (232, .goto 4, 3, [236], .null),
  (235, .iconst 2, 1, [], .int 2),
  (236, .iastore, 1, [], .null),
  (237, .goto 28, 3, [265], .null),
  (240, .iload_n 3, 1, [3], .null),
  (241, .i2l, 1, [], .null),
  (242, .lstore 5, 2, [5], .null),
  (244, .aload_n 0, 1, [0], .null),
  (245, .getfield 24, 3, [10, 4, 0, 859], .null),
  (248, .iload_n 1, 1, [1], .null),
  (249, .iload_n 3, 1, [3], .null),
  (250, .invokestatic 186, 3, [101, 1, 0, 1040, 1041, 0], .null),
  (253, .ifCond .eq 7, 3, [260], .null),
  (256, .iconst 3, 1, [], .int 3),
  (257, .goto 4, 3, [261], .null),
  (260, .iconst 4, 1, [], .int 4),
  (261, .iastore, 1, [], .null),
  (262, .iinc 2 1, 3, [2], .int 1),
  (265, .aload_n 0, 1, [0], .null),
  (266, .getfield 30, 3, [10, 6, 0, 861], .null),
  (269, .iload_n 1, 1, [1], .null),
  (270, .lload 5, 2, [5], .null),
  (272, .lastore, 1, [], .null),
  (273, .iinc 1 1, 3, [1], .int 1),
  (276, .goto (-259), 3, [17], .null),
  (279, .aload_n 0, 1, [0], .null),
  (280, .getfield 24, 3, [10, 4, 0, 859], .null),
  (283, .iload_n 1, 1, [1], .null),
  (284, .iconst 0, 1, [], .int 0),
  (285, .iastore, 1, [], .null),
  (286, .aload_n 0, 1, [0], .null),
  (287, .getfield 27, 3, [10, 5, 0, 860], .null),
  (290, .iload_n 1, 1, [1], .null),
  (291, .aload_n 0, 1, [0], .null),
  (292, .getfield 170, 3, [10, 3, 0, 858], .null),
  (295, .iastore, 1, [], .null),
  (296, .aload_n 0, 1, [0], .null),
  (297, .iconst 0, 1, [], .int 0),
  (298, .putfield 189, 3, [10, 7, 0, 862], .null),
  (301, .aload_n 0, 1, [0], .null),
  (302, .iconst 0, 1, [], .int 0),
  (303, .putfield 192, 3, [10, 8, 0, 863], .null),
  (306, .return_, 1, [], .null)]
def gc_98 : List (Nat × gI) := [(0, .iload_n 0, 1, [0], .null),
  (1, .bipush 97, 2, [], .int 97),
  (3, .if_icmp .lt 13, 3, [16], .null),
  (6, .iload_n 0, 1, [0], .null),
  (7, .bipush 122, 2, [], .int 122),
  (9, .if_icmp .gt 7, 3, [16], .null),
  (12, .iconst 1, 1, [], .int 1),
  (13, .goto 4, 3, [17], .null),
  (16, .iconst 0, 1, [], .int 0),
  (17, .ireturn, 1, [], .null)]
def gc_99 : List (Nat × gI) := [(0, .iload_n 0, 1, [0], .null),
  (1, .invokestatic 166, 3, [98, 1, 0, 1028, 1029, 0], .null),
  (4, .ifCond .eq 10, 3, [14], .null),
  (7, .iload_n 0, 1, [0], .null),
  (8, .bipush 96, 2, [], .int 96),
  (10, .isub, 1, [], .null),
  (11, .goto 7, 3, [18], .null),
  (14, .iload_n 0, 1, [0], .null),
  (15, .bipush 21, 2, [], .int 21),
  (17, .isub, 1, [], .null),
  (18, .ireturn, 1, [], .null)]
def gc_100 : List (Nat × gI) := [(0, .iload_n 0, 1, [0], .null),
  (1, .bipush 48, 2, [], .int 48),
  (3, .if_icmp .lt 13, 3, [16], .null),
  (6, .iload_n 0, 1, [0], .null),
  (7, .bipush 57, 2, [], .int 57),
  (9, .if_icmp .gt 7, 3, [16], .null),
  (12, .iconst 1, 1, [], .int 1),
  (13, .goto 4, 3, [17], .null),
  (16, .iconst 0, 1, [], .int 0),
  (17, .ireturn, 1, [], .null)]
def gc_101 : List (Nat × gI) := [(0, .iload_n 0, 1, [0], .null),
  (1, .bipush 40, 2, [], .int 40),
  (3, .if_icmp .eq 39, 3, [42], .null),
  (6, .iload_n 0, 1, [0], .null),
  (7, .bipush 41, 2, [], .int 41),
  (9, .if_icmp .eq 33, 3, [42], .null),
  (12, .iload_n 0, 1, [0], .null),
  (13, .bipush 59, 2, [], .int 59),
  (15, .if_icmp .eq 27, 3, [42], .null),
  (18, .iload_n 0, 1, [0], .null),
  (19, .bipush 61, 2, [], .int 61),
  (21, .if_icmp .eq 21, 3, [42], .null),
  (24, .iload_n 0, 1, [0], .null),
  (25, .bipush 60, 2, [], .int 60),
  (27, .if_icmp .eq 15, 3, [42], .null),
  (30, .iload_n 0, 1, [0], .null),
  (31, .bipush 43, 2, [], .int 43),
  (33, .if_icmp .eq 9, 3, [42], .null),
  (36, .iload_n 0, 1, [0], .null),
  (37, .bipush 45, 2, [], .int 45),
  (39, .if_icmp .ne 7, 3, [46], .null),
  (42, .iconst 1, 1, [], .int 1),
  (43, .goto 4, 3, [47], .null),
  (46, .iconst 0, 1, [], .int 0),
  (47, .ireturn, 1, [], .null)]
def gc_102 : List (Nat × gI) := [(0, .iconst 0, 1, [], .int 0),
  (1, .istore_n 1, 1, [1], .null),
  (2, .iload_n 1, 1, [1], .null),
  (3, .iconst 4, 1, [], .int 4),
  (4, .if_icmp .ge 19, 3, [23], .null),
  (7, .aload_n 0, 1, [0], .null),
  (8, .iconst 0, 1, [], .int 0),
  (9, .iload_n 1, 1, [1], .null),
  (10, .iadd, 1, [], .null),
  (11, .invokevirtual 202, 3, [103, 2, 0, 1047, 1049, 57], .null),
  (14, .ifCond .ne 9, 3, [23], .null),
  (17, .iinc 1 1, 3, [1], .int 1),
  (20, .goto (-18), 3, [2], .null),
  (23, .iload_n 1, 1, [1], .null),
  (24, .iconst 4, 1, [], .int 4),
  (25, .if_icmp .ne 11, 3, [36], .null),
  (28, .aload_n 0, 1, [0], .null),
  (29, .iconst 1, 1, [], .int 1),
  (30, .invokevirtual 198, 3, [104, 2, 0, 1051, 1053, 58], .null),
  (33, .goto 22, 3, [55], .null),
  (36, .aload_n 0, 1, [0], .null),
  (37, .getfield 61, 3, [10, 10, 0, 865], .null),
  (40, .aload_n 0, 1, [0], .null),
  (41, .getfield 208, 3, [10, 16, 0, 871], .null),
  (44, .iaload, 1, [], .null),
  (45, .bipush 16, 2, [], .int 16),
  (47, .if_icmp .ne 8, 3, [55], .null),
  (50, .aload_n 0, 1, [0], .null),
  (51, .iconst 5, 1, [], .int 5),
  (52, .invokevirtual 198, 3, [104, 2, 0, 1051, 1053, 58], .null),
  (55, .aload_n 0, 1, [0], .null),
  (56, .getfield 192, 3, [10, 8, 0, 863], .null),
  (59, .ifCond .le 4, 3, [63], .null),
  (62, .return_, 1, [], .null),
  (63, .aload_n 0, 1, [0], .null),
  (64, .dup, 1, [], .null),
  (65, .getfield 189, 3, [10, 7, 0, 862], .null),
  (68, .iconst 1, 1, [], .int 1),
  (69, .iadd, 1, [], .null),
  (70, .putfield 189, 3, [10, 7, 0, 862], .null),
  (73, .bipush 16, 2, [], .int 16),
  (75, .aload_n 0, 1, [0], .null),
  (76, .getfield 208, 3, [10, 16, 0, 871], .null),
  (79, .imul, 1, [], .null),
  (80, .aload_n 0, 1, [0], .null),
  (81, .getfield 61, 3, [10, 10, 0, 865], .null),
  (84, .aload_n 0, 1, [0], .null),
  (85, .getfield 208, 3, [10, 16, 0, 871], .null),
  (88, .iaload, 1, [], .null),
  (89, .iadd, 1, [], .null),
  (90, .istore_n 2, 1, [2], .null),
  (91, .aload_n 0, 1, [0], .null),
  (92, .getfield 64, 3, [10, 11, 0, 866], .null),
  (95, .iload_n 2, 1, [2], .null),
  (96, .iload_n 1, 1, [1], .null),
  (97, .iconst 1, 1, [], .int 1),
  (98, .iadd, 1, [], .null),
  (99, .iastore, 1, [], .null),
  (100, .aload_n 0, 1, [0], .null),
  (101, .iconst 4, 1, [], .int 4),
  (102, .invokevirtual 223, 3, [105, 2, 0, 1055, 1057, 59], .null),
  (105, .aload_n 0, 1, [0], .null),
  (106, .getfield 67, 3, [10, 12, 0, 867], .null),
  (109, .iload_n 2, 1, [2], .null),
  (110, .sipush 660, 3, [], .int 660),
  (113, .aload_n 0, 1, [0], .null),
  (114, .getfield 208, 3, [10, 16, 0, 871], .null),
  (117, .imul, 1, [], .null),
  (118, .aload_n 0, 1, [0], .null),
  (119, .getfield 211, 3, [10, 17, 0, 872], .null),
  (122, .iadd, 1, [], .null),
  (123, .iastore, 1, [], .null),
  (124, .aload_n 0, 1, [0], .null),
  (125, .iconst 0, 1, [], .int 0),
  (126, .putfield 226, 3, [10, 18, 0, 873], .null),
  (129, .aload_n 0, 1, [0], .null),
  (130, .invokevirtual 229, 3, [107, 1, 0, 1063, 1065, 61], .null),
  (133, .iconst 1, 1, [], .int 1),
  (134, .istore_n 3, 1, [3], .null),
  (135, .iload_n 3, 1, [3], .null),
  (136, .ifCond .eq 33, 3, [169], .null),
  (139, .aload_n 0, 1, [0], .null),
  (140, .getfield 192, 3, [10, 8, 0, 863], .null),
  (143, .ifCond .ne 26, 3, [169], .null),
  (146, .aload_n 0, 1, [0], .null),
  (147, .invokevirtual 232, 3, [108, 1, 0, 1067, 1069, 62], .null),
  (150, .ifCond .ne 10, 3, [160], .null),
  (153, .aload_n 0, 1, [0], .null),
  (154, .invokevirtual 236, 3, [113, 1, 0, 1087, 1089, 67], .null),
  (157, .ifCond .eq 7, 3, [164], .null),
  (160, .iconst 1, 1, [], .int 1),
  (161, .goto 4, 3, [165], .null),
  (164, .iconst 0, 1, [], .int 0),
  (165, .istore_n 3, 1, [3], .null),
  (166, .goto (-31), 3, [135], .null),
  (169, .aload_n 0, 1, [0], .null),
  (170, .iconst 0, 1, [], .int 0),
  (171, .iconst 0, 1, [], .int 0),
  (172, .invokevirtual 239, 3, [112, 3, 0, 1083, 1085, 66], .null),
  (175, .aload_n 0, 1, [0], .null),
  (176, .bipush 59, 2, [], .int 59),
  (178, .invokevirtual 243, 3, [114, 2, 0, 1091, 1093, 68], .null),
  (181, .aload_n 0, 1, [0], .null),
  (182, .getfield 61, 3, [10, 10, 0, 865], .null),
  (185, .aload_n 0, 1, [0], .null),
  (186, .getfield 208, 3, [10, 16, 0, 871], .null),
  (189, .dup2, 1, [], .null),
  (190, .iaload, 1, [], .null),
  (191, .iconst 1, 1, [], .int 1),
  (192, .iadd, 1, [], .null),
  (193, .iastore, 1, [], .null),
  (194, .return_, 1, [], .null)]
def gc_103 : List (Nat × gI) := [(0, .aload_n 0, 1, [0], .null),
  (1, .getfield 192, 3, [10, 8, 0, 863], .null),
  (4, .ifCond .ne 39, 3, [43], .null),
  (7, .aload_n 0, 1, [0], .null),
  (8, .getfield 24, 3, [10, 4, 0, 859], .null),
  (11, .aload_n 0, 1, [0], .null),
  (12, .getfield 189, 3, [10, 7, 0, 862], .null),
  (15, .iaload, 1, [], .null),
  (16, .iconst 1, 1, [], .int 1),
  (17, .if_icmp .ne 26, 3, [43], .null),
  (20, .aload_n 0, 1, [0], .null),
  (21, .getfield 30, 3, [10, 6, 0, 861], .null),
  (24, .aload_n 0, 1, [0], .null),
  (25, .getfield 189, 3, [10, 7, 0, 862], .null),
  (28, .laload, 1, [], .null),
  (29, .aload_n 0, 1, [0], .null),
  (30, .getfield 58, 3, [10, 9, 0, 864], .null),
  (33, .iload_n 1, 1, [1], .null),
  (34, .laload, 1, [], .null),
  (35, .lcmp, 1, [], .null),
  (36, .ifCond .ne 7, 3, [43], .null),
  (39, .iconst 1, 1, [], .int 1),
  (40, .goto 4, 3, [44], .null),
  (43, .iconst 0, 1, [], .int 0),
  (44, .ireturn, 1, [], .null)]
def gc_104 : List (Nat × gI) := [(0, .aload_n 0, 1, [0], .null),
  (1, .getfield 192, 3, [10, 8, 0, 863], .null),
  (4, .ifCond .ne 21, 3, [25], .null),
  (7, .aload_n 0, 1, [0], .null),
  (8, .iload_n 1, 1, [1], .null),
  (9, .bipush 16, 2, [], .int 16),
  (11, .aload_n 0, 1, [0], .null),
  (12, .getfield 27, 3, [10, 5, 0, 860], .null),
  (15, .aload_n 0, 1, [0], .null),
  (16, .getfield 189, 3, [10, 7, 0, 862], .null),
  (19, .iaload, 1, [], .null),
  (20, .imul, 1, [], .null),
  (21, .iadd, 1, [], .null),
  (22, .putfield 192, 3, [10, 8, 0, 863], .null),
  (25, .return_, 1, [], .null)]
def gc_105 : List (Nat × gI) := [(0, .aload_n 0, 1, [0], .null),
  (1, .iload_n 1, 1, [1], .null),
  (2, .invokevirtual 205, 3, [106, 2, 0, 1059, 1061, 60], .null),
  (5, .ifCond .ne 8, 3, [13], .null),
  (8, .aload_n 0, 1, [0], .null),
  (9, .iconst 1, 1, [], .int 1),
  (10, .invokevirtual 198, 3, [104, 2, 0, 1051, 1053, 58], .null),
  (13, .return_, 1, [], .null)]
def gc_106 : List (Nat × gI) := [(0, .aload_n 0, 1, [0], .null),
  (1, .iload_n 1, 1, [1], .null),
  (2, .invokevirtual 202, 3, [103, 2, 0, 1047, 1049, 57], .null),
  (5, .istore_n 2, 1, [2], .null),
  (6, .aload_n 0, 1, [0], .null),
  (7, .dup, 1, [], .null),
  (8, .getfield 189, 3, [10, 7, 0, 862], .null),
  (11, .iload_n 2, 1, [2], .null),
  (12, .ifCond .eq 7, 3, [19], .null),
  (15, .iconst 1, 1, [], .int 1),
  (16, .goto 4, 3, [20], .null),
  (19, .iconst 0, 1, [], .int 0),
  (20, .iadd, 1, [], .null),
  (21, .putfield 189, 3, [10, 7, 0, 862], .null),
  (24, .iload_n 2, 1, [2], .null),
  (25, .ireturn, 1, [], .null)]
def gc_107 : List (Nat × gI) := [(0, .aload_n 0, 1, [0], .null),
  (1, .getfield 76, 3, [10, 19, 0, 874], .null),
  (4, .aload_n 0, 1, [0], .null),
  (5, .getfield 226, 3, [10, 18, 0, 873], .null),
  (8, .iconst 0, 1, [], .int 0),
  (9, .iastore, 1, [], .null),
  (10, .aload_n 0, 1, [0], .null),
  (11, .getfield 79, 3, [10, 20, 0, 875], .null),
  (14, .aload_n 0, 1, [0], .null),
  (15, .getfield 226, 3, [10, 18, 0, 873], .null),
  (18, .iconst 0, 1, [], .int 0),
  (19, .iastore, 1, [], .null),
  (20, .aload_n 0, 1, [0], .null),
  (21, .getfield 82, 3, [10, 21, 0, 876], .null),
  (24, .aload_n 0, 1, [0], .null),
  (25, .getfield 226, 3, [10, 18, 0, 873], .null),
  (28, .iconst 0, 1, [], .int 0),
  (29, .iastore, 1, [], .null),
  (30, .return_, 1, [], .null)]
def gc_108 : List (Nat × gI) := [(0, .aload_n 0, 1, [0], .null),
  (1, .invokevirtual 246, 3, [109, 1, 0, 1071, 1073, 63], .null),
  (4, .istore_n 1, 1, [1], .null),
  (5, .aload_n 0, 1, [0], .null),
  (6, .getfield 192, 3, [10, 8, 0, 863], .null),
  (9, .ifCond .ne 37, 3, [46], .null),
  (12, .aload_n 0, 1, [0], .null),
  (13, .getfield 24, 3, [10, 4, 0, 859], .null),
  (16, .aload_n 0, 1, [0], .null),
  (17, .getfield 189, 3, [10, 7, 0, 862], .null),
  (20, .iaload, 1, [], .null),
  (21, .iconst 2, 1, [], .int 2),
  (22, .if_icmp .eq 24, 3, [46], .null),
  (25, .aload_n 0, 1, [0], .null),
  (26, .bipush 40, 2, [], .int 40),
  (28, .invokevirtual 195, 3, [110, 2, 0, 1075, 1077, 64], .null),
  (31, .ifCond .ne 15, 3, [46], .null),
  (34, .iload_n 1, 1, [1], .null),
  (35, .ifCond .ge 11, 3, [46], .null),
  (38, .aload_n 0, 1, [0], .null),
  (39, .iconst 1, 1, [], .int 1),
  (40, .invokevirtual 198, 3, [104, 2, 0, 1051, 1053, 58], .null),
  (43, .goto 16, 3, [59], .null),
  (46, .aload_n 0, 1, [0], .null),
  (47, .getfield 226, 3, [10, 18, 0, 873], .null),
  (50, .iconst 5, 1, [], .int 5),
  (51, .if_icmp .ne 8, 3, [59], .null),
  (54, .aload_n 0, 1, [0], .null),
  (55, .iconst 5, 1, [], .int 5),
  (56, .invokevirtual 198, 3, [104, 2, 0, 1051, 1053, 58], .null),
  (59, .aload_n 0, 1, [0], .null),
  (60, .getfield 192, 3, [10, 8, 0, 863], .null),
  (63, .ifCond .le 5, 3, [68], .null),
  (66, .iconst 0, 1, [], .int 0),
  (67, .ireturn, 1, [], .null),
  (68, .aload_n 0, 1, [0], .null),
  (69, .bipush 40, 2, [], .int 40),
  (71, .invokevirtual 250, 3, [111, 2, 0, 1079, 1081, 65], .null),
  (74, .ifCond .eq 19, 3, [93], .null),
  (77, .aload_n 0, 1, [0], .null),
  (78, .dup, 1, [], .null),
  (79, .getfield 226, 3, [10, 18, 0, 873], .null),
  (82, .iconst 1, 1, [], .int 1),
  (83, .iadd, 1, [], .null),
  (84, .putfield 226, 3, [10, 18, 0, 873], .null),
  (87, .aload_n 0, 1, [0], .null),
  (88, .invokevirtual 229, 3, [107, 1, 0, 1063, 1065, 61], .null),
  (91, .iconst 1, 1, [], .int 1),
  (92, .ireturn, 1, [], .null),
  (93, .aload_n 0, 1, [0], .null),
  (94, .iload_n 1, 1, [1], .null),
  (95, .ifCond .ge 7, 3, [102], .null),
  (98, .iconst 1, 1, [], .int 1),
  (99, .goto 4, 3, [103], .null),
  (102, .iconst 2, 1, [], .int 2),
  (103, .iload_n 1, 1, [1], .null),
  (104, .ifCond .ge 16, 3, [120], .null),
  (107, .aload_n 0, 1, [0], .null),
  (108, .getfield 30, 3, [10, 6, 0, 861], .null),
  (111, .aload_n 0, 1, [0], .null),
  (112, .getfield 189, 3, [10, 7, 0, 862], .null),
  (115, .laload, 1, [], .null),
  (116, .l2i, 1, [], .null),
  (117, .goto 4, 3, [121], .null),
  (120, .iload_n 1, 1, [1], .null),
  (121, .invokevirtual 239, 3, [112, 3, 0, 1083, 1085, 66], .null),
  (124, .aload_n 0, 1, [0], .null),
  (125, .dup, 1, [], .null),
  (126, .getfield 189, 3, [10, 7, 0, 862], .null),
  (129, .iconst 1, 1, [], .int 1),
  (130, .iadd, 1, [], .null),
  (131, .putfield 189, 3, [10, 7, 0, 862], .null),
  (134, .iconst 0, 1, [], .int 0),
  (135, .ireturn, 1, [], .null)]
def gc_109 : List (Nat × gI) := [(0, .iconst 0, 1, [], .int 0),
  (1, .istore_n 1, 1, [1], .null),
  (2, .iload_n 1, 1, [1], .null),
  (3, .bipush 6, 2, [], .int 6),
  (5, .if_icmp .ge 22, 3, [27], .null),
  (8, .aload_n 0, 1, [0], .null),
  (9, .bipush 6, 2, [], .int 6),
  (11, .iload_n 1, 1, [1], .null),
  (12, .iadd, 1, [], .null),
  (13, .invokevirtual 202, 3, [103, 2, 0, 1047, 1049, 57], .null),
  (16, .ifCond .eq 5, 3, [21], .null),
  (19, .iload_n 1, 1, [1], .null),
  (20, .ireturn, 1, [], .null),
  (21, .iinc 1 1, 3, [1], .int 1),
  (24, .goto (-22), 3, [2], .null),
  (27, .iconst (-1), 1, [], .int (-1)),
  (28, .ireturn, 1, [], .null)]
def gc_110 : List (Nat × gI) := [(0, .aload_n 0, 1, [0], .null),
  (1, .getfield 192, 3, [10, 8, 0, 863], .null),
  (4, .ifCond .ne 35, 3, [39], .null),
  (7, .aload_n 0, 1, [0], .null),
  (8, .getfield 24, 3, [10, 4, 0, 859], .null),
  (11, .aload_n 0, 1, [0], .null),
  (12, .getfield 189, 3, [10, 7, 0, 862], .null),
  (15, .iaload, 1, [], .null),
  (16, .iconst 3, 1, [], .int 3),
  (17, .if_icmp .ne 22, 3, [39], .null),
  (20, .aload_n 0, 1, [0], .null),
  (21, .getfield 30, 3, [10, 6, 0, 861], .null),
  (24, .aload_n 0, 1, [0], .null),
  (25, .getfield 189, 3, [10, 7, 0, 862], .null),
  (28, .laload, 1, [], .null),
  (29, .iload_n 1, 1, [1], .null),
  (30, .i2l, 1, [], .null),
  (31, .lcmp, 1, [], .null),
  (32, .ifCond .ne 7, 3, [39], .null),
  (35, .iconst 1, 1, [], .int 1),
  (36, .goto 4, 3, [40], .null),
  (39, .iconst 0, 1, [], .int 0),
  (40, .ireturn, 1, [], .null)]
def gc_111 : List (Nat × gI) := [(0, .aload_n 0, 1, [0], .null),
  (1, .iload_n 1, 1, [1], .null),
  (2, .invokevirtual 195, 3, [110, 2, 0, 1075, 1077, 64], .null),
  (5, .istore_n 2, 1, [2], .null),
  (6, .aload_n 0, 1, [0], .null),
  (7, .dup, 1, [], .null),
  (8, .getfield 189, 3, [10, 7, 0, 862], .null),
  (11, .iload_n 2, 1, [2], .null),
  (12, .ifCond .eq 7, 3, [19], .null),
  (15, .iconst 1, 1, [], .int 1),
  (16, .goto 4, 3, [20], .null),
  (19, .iconst 0, 1, [], .int 0),
  (20, .iadd, 1, [], .null),
  (21, .putfield 189, 3, [10, 7, 0, 862], .null),
  (24, .iload_n 2, 1, [2], .null),
  (25, .ireturn, 1, [], .null)]
def gc_112 : List (Nat × gI) := [(0, .aload_n 0, 1, [0], .null),
  (1, .getfield 70, 3, [10, 13, 0, 868], .null),
  (4, .sipush 660, 3, [], .int 660),
  (7, .aload_n 0, 1, [0], .null),
  (8, .getfield 208, 3, [10, 16, 0, 871], .null),
  (11, .imul, 1, [], .null),
  (12, .aload_n 0, 1, [0], .null),
  (13, .getfield 211, 3, [10, 17, 0, 872], .null),
  (16, .iadd, 1, [], .null),
  (17, .iload_n 1, 1, [1], .null),
  (18, .iastore, 1, [], .null),
  (19, .aload_n 0, 1, [0], .null),
  (20, .getfield 73, 3, [10, 14, 0, 869], .null),
  (23, .sipush 660, 3, [], .int 660),
  (26, .aload_n 0, 1, [0], .null),
  (27, .getfield 208, 3, [10, 16, 0, 871], .null),
  (30, .imul, 1, [], .null),
  (31, .aload_n 0, 1, [0], .null),
  (32, .getfield 211, 3, [10, 17, 0, 872], .null),
  (35, .iadd, 1, [], .null),
  (36, .iload_n 2, 1, [2], .null),
  (37, .iastore, 1, [], .null),
  (38, .aload_n 0, 1, [0], .null),
  (39, .dup, 1, [], .null),
  (40, .getfield 211, 3, [10, 17, 0, 872], .null),
  (43, .iconst 1, 1, [], .int 1),
  (44, .iadd, 1, [], .null),
  (45, .putfield 211, 3, [10, 17, 0, 872], .null),
  (48, .return_, 1, [], .null)]
def gc_113 : List (Nat × gI) := [(0, .aload_n 0, 1, [0], .null),
  (1, .getfield 192, 3, [10, 8, 0, 863], .null),
  (4, .ifCond .ne 273, 3, [277], .null),
  (7, .aload_n 0, 1, [0], .null),
  (8, .getfield 76, 3, [10, 19, 0, 874], .null),
  (11, .aload_n 0, 1, [0], .null),
  (12, .getfield 226, 3, [10, 18, 0, 873], .null),
  (15, .iaload, 1, [], .null),
  (16, .ifCond .eq 27, 3, [43], .null),
  (19, .aload_n 0, 1, [0], .null),
  (20, .aload_n 0, 1, [0], .null),
  (21, .getfield 76, 3, [10, 19, 0, 874], .null),
  (24, .aload_n 0, 1, [0], .null),
  (25, .getfield 226, 3, [10, 18, 0, 873], .null),
  (28, .iaload, 1, [], .null),
  (29, .iconst 0, 1, [], .int 0),
  (30, .invokevirtual 239, 3, [112, 3, 0, 1083, 1085, 66], .null),
  (33, .aload_n 0, 1, [0], .null),
  (34, .getfield 76, 3, [10, 19, 0, 874], .null),
  (37, .aload_n 0, 1, [0], .null),
  (38, .getfield 226, 3, [10, 18, 0, 873], .null),
  (41, .iconst 0, 1, [], .int 0),
  (42, .iastore, 1, [], .null),
  (43, .aload_n 0, 1, [0], .null),
  (44, .bipush 43, 2, [], .int 43),
  (46, .invokevirtual 195, 3, [110, 2, 0, 1075, 1077, 64], .null),
  (49, .ifCond .ne 12, 3, [61], .null),
  (52, .aload_n 0, 1, [0], .null),
  (53, .bipush 45, 2, [], .int 45),
  (55, .invokevirtual 195, 3, [110, 2, 0, 1075, 1077, 64], .null),
  (58, .ifCond .eq 38, 3, [96], .null),
  (61, .aload_n 0, 1, [0], .null),
  (62, .getfield 76, 3, [10, 19, 0, 874], .null),
  (65, .aload_n 0, 1, [0], .null),
  (66, .getfield 226, 3, [10, 18, 0, 873], .null),
  (69, .aload_n 0, 1, [0], .null),
  (70, .bipush 43, 2, [], .int 43),
  (72, .invokevirtual 195, 3, [110, 2, 0, 1075, 1077, 64], .null),
  (75, .ifCond .eq 7, 3, [82], .null),
  (78, .iconst 3, 1, [], .int 3),
  (79, .goto 4, 3, [83], .null),
  (82, .iconst 4, 1, [], .int 4),
  (83, .iastore, 1, [], .null),
  (84, .aload_n 0, 1, [0], .null),
  (85, .dup, 1, [], .null),
  (86, .getfield 189, 3, [10, 7, 0, 862], .null),
  (89, .iconst 1, 1, [], .int 1),
  (90, .iadd, 1, [], .null),
  (91, .putfield 189, 3, [10, 7, 0, 862], .null),
  (94, .iconst 1, 1, [], .int 1),
  (95, .ireturn, 1, [], .null),
  (96, .aload_n 0, 1, [0], .null),
  (97, .getfield 79, 3, [10, 20, 0, 875], .null),
  (100, .aload_n 0, 1, [0], .null),
  (101, .getfield 226, 3, [10, 18, 0, 873], .null),
  (104, .iaload, 1, [], .null),
  (105, .ifCond .eq 30, 3, [135], .null),
  (108, .aload_n 0, 1, [0], .null),
  (109, .aload_n 0, 1, [0], .null),
  (110, .getfield 79, 3, [10, 20, 0, 875], .null),
  (113, .aload_n 0, 1, [0], .null),
  (114, .getfield 226, 3, [10, 18, 0, 873], .null),
  (117, .iaload, 1, [], .null),
  (118, .iconst 0, 1, [], .int 0),
  (119, .invokevirtual 239, 3, [112, 3, 0, 1083, 1085, 66], .null),
  (122, .aload_n 0, 1, [0], .null),
  (123, .getfield 79, 3, [10, 20, 0, 875], .null),
  (126, .aload_n 0, 1, [0], .null),
  (127, .getfield 226, 3, [10, 18, 0, 873], .null),
  (130, .iconst 0, 1, [], .int 0),
  (131, .iastore, 1, [], .null),
  (132, .goto 57, 3, [189], .null),
  (135, .aload_n 0, 1, [0], .null),
  (136, .bipush 60, 2, [], .int 60),
  (138, .invokevirtual 195, 3, [110, 2, 0, 1075, 1077, 64], .null),
  (141, .ifCond .ne 12, 3, [153], .null),
  (144, .aload_n 0, 1, [0], .null),
  (145, .bipush 61, 2, [], .int 61),
  (147, .invokevirtual 195, 3, [110, 2, 0, 1075, 1077, 64], .null),
  (150, .ifCond .eq 39, 3, [189], .null),
  (153, .aload_n 0, 1, [0], .null),
  (154, .getfield 79, 3, [10, 20, 0, 875], .null),
  (157, .aload_n 0, 1, [0], .null),
  (158, .getfield 226, 3, [10, 18, 0, 873], .null),
  (161, .aload_n 0, 1, [0], .null),
  (162, .bipush 60, 2, [], .int 60),
  (164, .invokevirtual 195, 3, [110, 2, 0, 1075, 1077, 64], .null),
  (167, .ifCond .eq 7, 3, [174], .null),
  (170, .iconst 5, 1, [], .int 5),
  (171, .goto 5, 3, [176], .null),
  (174, .bipush 6, 2, [], .int 6),
  (176, .iastore, 1, [], .null),
  (177, .aload_n 0, 1, [0], .null),
  (178, .dup, 1, [], .null),
  (179, .getfield 189, 3, [10, 7, 0, 862], .null),
  (182, .iconst 1, 1, [], .int 1),
  (183, .iadd, 1, [], .null),
  (184, .putfield 189, 3, [10, 7, 0, 862], .null),
  (187, .iconst 1, 1, [], .int 1),
  (188, .ireturn, 1, [], .null),
  (189, .aload_n 0, 1, [0], .null),
  (190, .getfield 82, 3, [10, 21, 0, 876], .null),
  (193, .aload_n 0, 1, [0], .null),
  (194, .getfield 226, 3, [10, 18, 0, 873], .null),
  (197, .iaload, 1, [], .null),
  (198, .ifCond .eq 20, 3, [218], .null),
  (201, .aload_n 0, 1, [0], .null),
  (202, .bipush 7, 2, [], .int 7),
  (204, .iconst 0, 1, [], .int 0),
  (205, .invokevirtual 239, 3, [112, 3, 0, 1083, 1085, 66], .null),
  (208, .aload_n 0, 1, [0], .null),
  (209, .getfield 82, 3, [10, 21, 0, 876], .null),
  (212, .aload_n 0, 1, [0], .null),
  (213, .getfield 226, 3, [10, 18, 0, 873], .null),
  (216, .iconst 0, 1, [], .int 0),
  (217, .iastore, 1, [], .null),
  (218, .aload_n 0, 1, [0], .null),
  (219, .iconst 5, 1, [], .int 5),
  (220, .invokevirtual 202, 3, [103, 2, 0, 1047, 1049, 57], .null),
  (223, .ifCond .eq 26, 3, [249], .null),
  (226, .aload_n 0, 1, [0], .null),
  (227, .getfield 82, 3, [10, 21, 0, 876], .null),
  (230, .aload_n 0, 1, [0], .null),
  (231, .getfield 226, 3, [10, 18, 0, 873], .null),
  (234, .bipush 7, 2, [], .int 7),
  (236, .iastore, 1, [], .null),
  (237, .aload_n 0, 1, [0], .null),
  (238, .dup, 1, [], .null),
  (239, .getfield 189, 3, [10, 7, 0, 862], .null),
  (242, .iconst 1, 1, [], .int 1),
  (243, .iadd, 1, [], .null),
  (244, .putfield 189, 3, [10, 7, 0, 862], .null),
  (247, .iconst 1, 1, [], .int 1),
  (248, .ireturn, 1, [], .null),
  (249, .aload_n 0, 1, [0], .null),
  (250, .getfield 226, 3, [10, 18, 0, 873], .null),
  (253, .ifCond .ne 5, 3, [258], .null),
  (256, .iconst 0, 1, [], .int 0),
  (257, .ireturn, 1, [], .null),
  (258, .aload_n 0, 1, [0], .null),
  (259, .bipush 41, 2, [], .int 41),
  (261, .invokevirtual 243, 3, [114, 2, 0, 1091, 1093, 68], .null),
  (264, .aload_n 0, 1, [0], .null),
  (265, .dup, 1, [], .null),
  (266, .getfield 226, 3, [10, 18, 0, 873], .null),
  (269, .iconst 1, 1, [], .int 1),
  (270, .isub, 1, [], .null),
  (271, .putfield 226, 3, [10, 18, 0, 873], .null),
  (274, .goto (-274), 3, [0], .null),
  (277, .iconst 0, 1, [], .int 0),
  (278, .ireturn, 1, [], .null)]
def gc_114 : List (Nat × gI) := [(0, .aload_n 0, 1, [0], .null),
  (1, .iload_n 1, 1, [1], .null),
  (2, .invokevirtual 195, 3, [110, 2, 0, 1075, 1077, 64], .null),
  (5, .ifCond .eq 16, 3, [21], .null),
  (8, .aload_n 0, 1, [0], .null),
  (9, .dup, 1, [], .null),
  (10, .getfield 189, 3, [10, 7, 0, 862], .null),
  (13, .iconst 1, 1, [], .int 1),
  (14, .iadd, 1, [], .null),
  (15, .putfield 189, 3, [10, 7, 0, 862], .null),
  (18, .goto 8, 3, [26], .null),
  (21, .aload_n 0, 1, [0], .null),
  (22, .iconst 1, 1, [], .int 1),
  (23, .invokevirtual 198, 3, [104, 2, 0, 1051, 1053, 58], .null),
  (26, .return_, 1, [], .null)]
def gc_115 : List (Nat × gI) := [(0, .aload_n 0, 1, [0], .null),
  (1, .iconst 0, 1, [], .int 0),
  (2, .putfield 1, 3, [10, 0, 0, 855], .null),
  (5, .iload_n 1, 1, [1], .null),
  (6, .iconst 0, 1, [], .int 0),
  (7, .bipush 19, 2, [], .int 19),
  (9, .invokestatic 253, 3, [116, 3, 0, 1099, 1100, 0], .null),
  (12, .ifCond .eq 42, 3, [54], .null),
  (15, .iload_n 2, 1, [2], .null),
  (16, .iconst 0, 1, [], .int 0),
  (17, .bipush 7, 2, [], .int 7),
  (19, .invokestatic 253, 3, [116, 3, 0, 1099, 1100, 0], .null),
  (22, .ifCond .eq 32, 3, [54], .null),
  (25, .iload_n 3, 1, [3], .null),
  (26, .iconst 0, 1, [], .int 0),
  (27, .bipush 9, 2, [], .int 9),
  (29, .invokestatic 253, 3, [116, 3, 0, 1099, 1100, 0], .null),
  (32, .ifCond .eq 22, 3, [54], .null),
  (35, .iload 4, 2, [4], .null),
  (37, .iconst 0, 1, [], .int 0),
  (38, .iconst 4, 1, [], .int 4),
  (39, .invokestatic 253, 3, [116, 3, 0, 1099, 1100, 0], .null),
  (42, .ifCond .eq 12, 3, [54], .null),
  (45, .aload_n 0, 1, [0], .null),
  (46, .getfield 257, 3, [10, 25, 0, 880], .null),
  (49, .bipush 100, 2, [], .int 100),
  (51, .if_icmp .ne 5, 3, [56], .null),
  (54, .iconst (-1), 1, [], .int (-1)),
  (55, .ireturn, 1, [], .null),
  (56, .aload_n 0, 1, [0], .null),
  (57, .getfield 91, 3, [10, 26, 0, 881], .null),
  (60, .aload_n 0, 1, [0], .null),
  (61, .getfield 257, 3, [10, 25, 0, 880], .null),
  (64, .iload_n 1, 1, [1], .null),
  (65, .iastore, 1, [], .null),
  (66, .aload_n 0, 1, [0], .null),
  (67, .getfield 94, 3, [10, 27, 0, 882], .null),
  (70, .aload_n 0, 1, [0], .null),
  (71, .getfield 257, 3, [10, 25, 0, 880], .null),
  (74, .iload_n 2, 1, [2], .null),
  (75, .iastore, 1, [], .null),
  (76, .aload_n 0, 1, [0], .null),
  (77, .getfield 97, 3, [10, 28, 0, 883], .null),
  (80, .aload_n 0, 1, [0], .null),
  (81, .getfield 257, 3, [10, 25, 0, 880], .null),
  (84, .iload_n 3, 1, [3], .null),
  (85, .iastore, 1, [], .null),
  (86, .aload_n 0, 1, [0], .null),
  (87, .getfield 100, 3, [10, 29, 0, 884], .null),
  (90, .aload_n 0, 1, [0], .null),
  (91, .getfield 257, 3, [10, 25, 0, 880], .null),
  (94, .iload 4, 2, [4], .null),
  (96, .iastore, 1, [], .null),
  (97, .aload_n 0, 1, [0], .null),
  (98, .getfield 103, 3, [10, 30, 0, 885], .null),
  (101, .aload_n 0, 1, [0], .null),
  (102, .getfield 257, 3, [10, 25, 0, 880], .null),
  (105, .iconst 0, 1, [], .int 0),
  (106, .iastore, 1, [], .null),
  (107, .aload_n 0, 1, [0], .null),
  (108, .dup, 1, [], .null),
  (109, .getfield 257, 3, [10, 25, 0, 880], .null),
  (112, .iconst 1, 1, [], .int 1),
  (113, .iadd, 1, [], .null),
  (114, .putfield 257, 3, [10, 25, 0, 880], .null),
  (117, .aload_n 0, 1, [0], .null),
  (118, .getfield 257, 3, [10, 25, 0, 880], .null),
  (121, .iconst 1, 1, [], .int 1),
  (122, .isub, 1, [], .null),
  (123, .ireturn, 1, [], .null)]
def gc_116 : List (Nat × gI) := [(0, .iload_n 0, 1, [0], .null),
  (1, .iload_n 1, 1, [1], .null),
  (2, .if_icmp .lt 12, 3, [14], .null),
  (5, .iload_n 0, 1, [0], .null),
  (6, .iload_n 2, 1, [2], .null),
  (7, .if_icmp .gt 7, 3, [14], .null),
  (10, .iconst 1, 1, [], .int 1),
  (11, .goto 4, 3, [15], .null),
  (14, .iconst 0, 1, [], .int 0),
  (15, .ireturn, 1, [], .null)]
def gc_117 : List (Nat × gI) := [(0, .aload_n 0, 1, [0], .null),
  (1, .iconst 0, 1, [], .int 0),
  (2, .putfield 1, 3, [10, 0, 0, 855], .null),
  (5, .iload_n 1, 1, [1], .null),
  (6, .invokestatic 263, 3, [118, 1, 0, 1106, 1107, 0], .null),
  (9, .ifCond .eq 13, 3, [22], .null),
  (12, .iload_n 2, 1, [2], .null),
  (13, .iconst 0, 1, [], .int 0),
  (14, .bipush 40, 2, [], .int 40),
  (16, .invokestatic 253, 3, [116, 3, 0, 1099, 1100, 0], .null),
  (19, .ifCond .ne 5, 3, [24], .null),
  (22, .iconst 0, 1, [], .int 0),
  (23, .ireturn, 1, [], .null),
  (24, .aload_n 0, 1, [0], .null),
  (25, .getfield 118, 3, [10, 35, 0, 890], .null),
  (28, .iload_n 1, 1, [1], .null),
  (29, .iload_n 2, 1, [2], .null),
  (30, .iastore, 1, [], .null),
  (31, .iconst 1, 1, [], .int 1),
  (32, .ireturn, 1, [], .null)]
def gc_118 : List (Nat × gI) := [(0, .iload_n 0, 1, [0], .null),
  (1, .ifCond .lt 12, 3, [13], .null),
  (4, .iload_n 0, 1, [0], .null),
  (5, .iconst 5, 1, [], .int 5),
  (6, .if_icmp .ge 7, 3, [13], .null),
  (9, .iconst 1, 1, [], .int 1),
  (10, .goto 4, 3, [14], .null),
  (13, .iconst 0, 1, [], .int 0),
  (14, .ireturn, 1, [], .null)]
def gc_119 : List (Nat × gI) := [(0, .aload_n 0, 1, [0], .null),
  (1, .iconst 0, 1, [], .int 0),
  (2, .putfield 1, 3, [10, 0, 0, 855], .null),
  (5, .iload_n 1, 1, [1], .null),
  (6, .iconst 0, 1, [], .int 0),
  (7, .bipush 7, 2, [], .int 7),
  (9, .invokestatic 253, 3, [116, 3, 0, 1099, 1100, 0], .null),
  (12, .ifCond .eq 14, 3, [26], .null),
  (15, .iload_n 2, 1, [2], .null),
  (16, .iconst 1, 1, [], .int 1),
  (17, .sipush 10000, 3, [], .int 10000),
  (20, .invokestatic 253, 3, [116, 3, 0, 1099, 1100, 0], .null),
  (23, .ifCond .ne 5, 3, [28], .null),
  (26, .iconst 0, 1, [], .int 0),
  (27, .ireturn, 1, [], .null),
  (28, .aload_n 0, 1, [0], .null),
  (29, .getfield 115, 3, [10, 34, 0, 889], .null),
  (32, .iload_n 1, 1, [1], .null),
  (33, .iload_n 2, 1, [2], .null),
  (34, .iastore, 1, [], .null),
  (35, .iconst 1, 1, [], .int 1),
  (36, .ireturn, 1, [], .null)]
def gc_120 : List (Nat × gI) := [(0, .aload_n 0, 1, [0], .null),
  (1, .iconst 0, 1, [], .int 0),
  (2, .putfield 1, 3, [10, 0, 0, 855], .null),
  (5, .aload_n 0, 1, [0], .null),
  (6, .iload_n 1, 1, [1], .null),
  (7, .invokevirtual 260, 3, [121, 2, 0, 1117, 1119, 69], .null),
  (10, .ifCond .eq 39, 3, [49], .null),
  (13, .iload_n 2, 1, [2], .null),
  (14, .invokestatic 263, 3, [118, 1, 0, 1106, 1107, 0], .null),
  (17, .ifCond .eq 32, 3, [49], .null),
  (20, .aload_n 0, 1, [0], .null),
  (21, .getfield 103, 3, [10, 30, 0, 885], .null),
  (24, .iload_n 1, 1, [1], .null),
  (25, .iaload, 1, [], .null),
  (26, .ifCond .eq 25, 3, [51], .null),
  (29, .aload_n 0, 1, [0], .null),
  (30, .getfield 103, 3, [10, 30, 0, 885], .null),
  (33, .iload_n 1, 1, [1], .null),
  (34, .iaload, 1, [], .null),
  (35, .iconst 2, 1, [], .int 2),
  (36, .if_icmp .eq 15, 3, [51], .null),
  (39, .aload_n 0, 1, [0], .null),
  (40, .getfield 103, 3, [10, 30, 0, 885], .null),
  (43, .iload_n 1, 1, [1], .null),
  (44, .iaload, 1, [], .null),
  (45, .iconst 4, 1, [], .int 4),
  (46, .if_icmp .eq 5, 3, [51], .null),
  (49, .iconst (-1), 1, [], .int (-1)),
  (50, .ireturn, 1, [], .null),
  (51, .aload_n 0, 1, [0], .null),
  (52, .iload_n 1, 1, [1], .null),
  (53, .iload_n 2, 1, [2], .null),
  (54, .invokevirtual 287, 3, [122, 3, 0, 1121, 1123, 70], .null),
  (57, .aload_n 0, 1, [0], .null),
  (58, .getfield 103, 3, [10, 30, 0, 885], .null),
  (61, .iload_n 1, 1, [1], .null),
  (62, .iaload, 1, [], .null),
  (63, .ireturn, 1, [], .null)]
def gc_121 : List (Nat × gI) := [(0, .iload_n 1, 1, [1], .null),
  (1, .ifCond .lt 15, 3, [16], .null),
  (4, .iload_n 1, 1, [1], .null),
  (5, .aload_n 0, 1, [0], .null),
  (6, .getfield 257, 3, [10, 25, 0, 880], .null),
  (9, .if_icmp .ge 7, 3, [16], .null),
  (12, .iconst 1, 1, [], .int 1),
  (13, .goto 4, 3, [17], .null),
  (16, .iconst 0, 1, [], .int 0),
  (17, .ireturn, 1, [], .null)]
def gc_122 : List (Nat × gI) := [(0, .aload_n 0, 1, [0], .null),
  (1, .iload_n 1, 1, [1], .null),
  (2, .invokevirtual 278, 3, [123, 2, 0, 1125, 1127, 71], .null),
  (5, .istore_n 3, 1, [3], .null),
  (6, .iload_n 3, 1, [3], .null),
  (7, .iconst 1, 1, [], .int 1),
  (8, .if_icmp .ne 20, 3, [28], .null),
  (11, .aload_n 0, 1, [0], .null),
  (12, .iload_n 2, 1, [2], .null),
  (13, .invokevirtual 281, 3, [126, 2, 0, 1137, 1139, 74], .null),
  (16, .ifCond .eq 12, 3, [28], .null),
  (19, .aload_n 0, 1, [0], .null),
  (20, .iload_n 1, 1, [1], .null),
  (21, .iload_n 2, 1, [2], .null),
  (22, .invokevirtual 284, 3, [128, 3, 0, 1145, 1147, 76], .null),
  (25, .goto 33, 3, [58], .null),
  (28, .aload_n 0, 1, [0], .null),
  (29, .getfield 103, 3, [10, 30, 0, 885], .null),
  (32, .iload_n 1, 1, [1], .null),
  (33, .iload_n 3, 1, [3], .null),
  (34, .iconst 1, 1, [], .int 1),
  (35, .if_icmp .eq 8, 3, [43], .null),
  (38, .iload_n 3, 1, [3], .null),
  (39, .iconst 2, 1, [], .int 2),
  (40, .if_icmp .ne 7, 3, [47], .null),
  (43, .iconst 2, 1, [], .int 2),
  (44, .goto 13, 3, [57], .null),
  (47, .iload_n 3, 1, [3], .null),
  (48, .iconst 3, 1, [], .int 3),
  (49, .if_icmp .ne 7, 3, [56], .null),
  (52, .iconst 3, 1, [], .int 3),
  (53, .goto 4, 3, [57], .null),
  (56, .iconst 4, 1, [], .int 4),
  (57, .iastore, 1, [], .null),
  (58, .return_, 1, [], .null)]
def gc_123 : List (Nat × gI) := [(0, .aload_n 0, 1, [0], .null),
  (1, .getfield 85, 3, [10, 22, 0, 877], .null),
  (4, .iconst 0, 1, [], .int 0),
  (5, .aload_n 0, 1, [0], .null),
  (6, .getfield 94, 3, [10, 27, 0, 882], .null),
  (9, .iload_n 1, 1, [1], .null),
  (10, .iaload, 1, [], .null),
  (11, .iastore, 1, [], .null),
  (12, .aload_n 0, 1, [0], .null),
  (13, .getfield 85, 3, [10, 22, 0, 877], .null),
  (16, .iconst 1, 1, [], .int 1),
  (17, .aload_n 0, 1, [0], .null),
  (18, .getfield 97, 3, [10, 28, 0, 883], .null),
  (21, .iload_n 1, 1, [1], .null),
  (22, .iaload, 1, [], .null),
  (23, .iastore, 1, [], .null),
  (24, .aload_n 0, 1, [0], .null),
  (25, .getfield 85, 3, [10, 22, 0, 877], .null),
  (28, .iconst 2, 1, [], .int 2),
  (29, .aload_n 0, 1, [0], .null),
  (30, .getfield 100, 3, [10, 29, 0, 884], .null),
  (33, .iload_n 1, 1, [1], .null),
  (34, .iaload, 1, [], .null),
  (35, .iastore, 1, [], .null),
  (36, .aload_n 0, 1, [0], .null),
  (37, .getfield 85, 3, [10, 22, 0, 877], .null),
  (40, .iconst 3, 1, [], .int 3),
  (41, .aload_n 0, 1, [0], .null),
  (42, .invokevirtual 269, 3, [124, 1, 0, 1129, 1131, 72], .null),
  (45, .iastore, 1, [], .null),
  (46, .aload_n 0, 1, [0], .null),
  (47, .getfield 85, 3, [10, 22, 0, 877], .null),
  (50, .iconst 4, 1, [], .int 4),
  (51, .aload_n 0, 1, [0], .null),
  (52, .getfield 115, 3, [10, 34, 0, 889], .null),
  (55, .aload_n 0, 1, [0], .null),
  (56, .getfield 94, 3, [10, 27, 0, 882], .null),
  (59, .iload_n 1, 1, [1], .null),
  (60, .iaload, 1, [], .null),
  (61, .iaload, 1, [], .null),
  (62, .iastore, 1, [], .null),
  (63, .aload_n 0, 1, [0], .null),
  (64, .getfield 85, 3, [10, 22, 0, 877], .null),
  (67, .iconst 5, 1, [], .int 5),
  (68, .aload_n 0, 1, [0], .null),
  (69, .getfield 91, 3, [10, 26, 0, 881], .null),
  (72, .iload_n 1, 1, [1], .null),
  (73, .iaload, 1, [], .null),
  (74, .iastore, 1, [], .null),
  (75, .bipush 16, 2, [], .int 16),
  (77, .aload_n 0, 1, [0], .null),
  (78, .getfield 217, 3, [10, 15, 0, 870], .null),
  (81, .imul, 1, [], .null),
  (82, .istore_n 2, 1, [2], .null),
  (83, .iload_n 2, 1, [2], .null),
  (84, .bipush 16, 2, [], .int 16),
  (86, .aload_n 0, 1, [0], .null),
  (87, .getfield 217, 3, [10, 15, 0, 870], .null),
  (90, .imul, 1, [], .null),
  (91, .aload_n 0, 1, [0], .null),
  (92, .getfield 61, 3, [10, 10, 0, 865], .null),
  (95, .aload_n 0, 1, [0], .null),
  (96, .getfield 217, 3, [10, 15, 0, 870], .null),
  (99, .iaload, 1, [], .null),
  (100, .iadd, 1, [], .null),
  (101, .if_icmp .ge 29, 3, [130], .null),
  (104, .aload_n 0, 1, [0], .null),
  (105, .aload_n 0, 1, [0], .null),
  (106, .getfield 67, 3, [10, 12, 0, 867], .null),
  (109, .iload_n 2, 1, [2], .null),
  (110, .iaload, 1, [], .null),
  (111, .invokevirtual 272, 3, [125, 2, 0, 1133, 1135, 73], .null),
  (114, .ifCond .eq 10, 3, [124], .null),
  (117, .aload_n 0, 1, [0], .null),
  (118, .getfield 64, 3, [10, 11, 0, 866], .null),
  (121, .iload_n 2, 1, [2], .null),
  (122, .iaload, 1, [], .null),
  (123, .ireturn, 1, [], .null),
  (124, .iinc 2 1, 3, [2], .int 1),
  (127, .goto (-44), 3, [83], .null),
  (130, .iconst 3, 1, [], .int 3),
  (131, .ireturn, 1, [], .null)]
def gc_124 : List (Nat × gI) := [(0, .aload_n 0, 1, [0], .null),
  (1, .getfield 266, 3, [10, 24, 0, 879], .null),
  (4, .bipush 13, 2, [], .int 13),
  (6, .idiv, 1, [], .null),
  (7, .iconst 4, 1, [], .int 4),
  (8, .irem, 1, [], .null),
  (9, .ireturn, 1, [], .null)]
def gc_125 : List (Nat × gI) := [(0, .iload_n 1, 1, [1], .null),
  (1, .istore_n 2, 1, [2], .null),
  (2, .iconst 0, 1, [], .int 0),
  (3, .istore_n 3, 1, [3], .null),
  (4, .aload_n 0, 1, [0], .null),
  (5, .getfield 70, 3, [10, 13, 0, 868], .null),
  (8, .iload_n 2, 1, [2], .null),
  (9, .iaload, 1, [], .null),
  (10, .ifCond .eq 182, 3, [192], .null),
  (13, .aload_n 0, 1, [0], .null),
  (14, .getfield 70, 3, [10, 13, 0, 868], .null),
  (17, .iload_n 2, 1, [2], .null),
  (18, .iaload, 1, [], .null),
  (19, .istore 4, 2, [4], .null),
  (21, .iload 4, 2, [4], .null),
  (23, .iconst 1, 1, [], .int 1),
  (24, .if_icmp .eq 9, 3, [33], .null),
  (27, .iload 4, 2, [4], .null),
  (29, .iconst 2, 1, [], .int 2),
  (30, .if_icmp .ne 41, 3, [71], .null),
  (33, .aload_n 0, 1, [0], .null),
  (34, .getfield 88, 3, [10, 23, 0, 878], .null),
  (37, .iload_n 3, 1, [3], .null),
  (38, .iload 4, 2, [4], .null),
  (40, .iconst 1, 1, [], .int 1),
  (41, .if_icmp .ne 12, 3, [53], .null),
  (44, .aload_n 0, 1, [0], .null),
  (45, .getfield 73, 3, [10, 14, 0, 869], .null),
  (48, .iload_n 2, 1, [2], .null),
  (49, .iaload, 1, [], .null),
  (50, .goto 14, 3, [64], .null),
  (53, .aload_n 0, 1, [0], .null),
  (54, .getfield 85, 3, [10, 22, 0, 877], .null),
  (57, .aload_n 0, 1, [0], .null),
  (58, .getfield 73, 3, [10, 14, 0, 869], .null),
  (61, .iload_n 2, 1, [2], .null),
  (62, .iaload, 1, [], .null),
  (63, .iaload, 1, [], .null),
  (64, .iastore, 1, [], .null),
  (65, .iinc 3 1, 3, [3], .int 1),
  (68, .goto 118, 3, [186], .null),
  (71, .iinc 3 (-1), 3, [3], .int (-1)),
  (74, .aload_n 0, 1, [0], .null),
  (75, .getfield 88, 3, [10, 23, 0, 878], .null),
  (78, .iload_n 3, 1, [3], .null),
  (79, .iaload, 1, [], .null),
  (80, .istore 5, 2, [5], .null),
  (82, .aload_n 0, 1, [0], .null),
  (83, .getfield 88, 3, [10, 23, 0, 878], .null),
  (86, .iload_n 3, 1, [3], .null),
  (87, .iconst 1, 1, [], .int 1),
  (88, .isub, 1, [], .null),
  (89, .iaload, 1, [], .null),
  (90, .istore 6, 2, [6], .null),
  (92, .aload_n 0, 1, [0], .null),
  (93, .getfield 88, 3, [10, 23, 0, 878], .null),
  (96, .iload_n 3, 1, [3], .null),
  (97, .iconst 1, 1, [], .int 1),
  (98, .isub, 1, [], .null),
  (99, .iload 4, 2, [4], .null),
  (101, .iconst 3, 1, [], .int 3),
  (102, .if_icmp .ne 11, 3, [113], .null),
  (105, .iload 6, 2, [6], .null),
  (107, .iload 5, 2, [5], .null),
  (109, .iadd, 1, [], .null),
  (110, .goto 75, 3, [185], .null),
  (113, .iload 4, 2, [4], .null),
  (115, .iconst 4, 1, [], .int 4),
  (116, .if_icmp .ne 11, 3, [127], .null),
  (119, .iload 6, 2, [6], .null),
  (121, .iload 5, 2, [5], .null),
  (123, .isub, 1, [], .null),
  (124, .goto 61, 3, [185], .null),
  (127, .iload 4, 2, [4], .null),
  (129, .iconst 5, 1, [], .int 5),
  (130, .if_icmp .ne 18, 3, [148], .null),
  (133, .iload 6, 2, [6], .null),
  (135, .iload 5, 2, [5], .null),
  (137, .if_icmp .ge 7, 3, [144], .null),
  (140, .iconst 1, 1, [], .int 1),
  (141, .goto 44, 3, [185], .null),
  (144, .iconst 0, 1, [], .int 0),
  (145, .goto 40, 3, [185], .null),
  (148, .iload 4, 2, [4], .null),
  (150, .bipush 6, 2, [], .int 6),
  (152, .if_icmp .ne 18, 3, [170], .null),
  (155, .iload 6, 2, [6], .null),
  (157, .iload 5, 2, [5], .null),
  (159, .if_icmp .ne 7, 3, [166], .null),
  (162, .iconst 1, 1, [], .int 1),
  (163, .goto 22, 3, [185], .null),
  (166, .iconst 0, 1, [], .int 0),
  (167, .goto 18, 3, [185], .null),
  (170, .iload 6, 2, [6], .null),
  (172, .ifCond .eq 12, 3, [184], .null),
  (175, .iload 5, 2, [5], .null),
  (177, .ifCond .eq 7, 3, [184], .null),
  (180, .iconst 1, 1, [], .int 1),
  (181, .goto 4, 3, [185], .null),
  (184, .iconst 0, 1, [], .int 0),
  (185, .iastore, 1, [], .null),
  (186, .iinc 2 1, 3, [2], .int 1),
  (189, .goto (-185), 3, [4], .null),
  (192, .aload_n 0, 1, [0], .null),
  (193, .getfield 88, 3, [10, 23, 0, 878], .null),
  (196, .iconst 0, 1, [], .int 0),
  (197, .iaload, 1, [], .null),
  (198, .ireturn, 1, [], .null)]
def gc_126 : List (Nat × gI) := [(0, .aload_n 0, 1, [0], .null),
  (1, .iload_n 1, 1, [1], .null),
  (2, .invokevirtual 275, 3, [127, 2, 0, 1141, 1143, 75], .null),
  (5, .aload_n 0, 1, [0], .null),
  (6, .getfield 118, 3, [10, 35, 0, 890], .null),
  (9, .iload_n 1, 1, [1], .null),
  (10, .iaload, 1, [], .null),
  (11, .if_icmp .ge 7, 3, [18], .null),
  (14, .iconst 1, 1, [], .int 1),
  (15, .goto 4, 3, [19], .null),
  (18, .iconst 0, 1, [], .int 0),
  (19, .ireturn, 1, [], .null)]
def gc_127 : List (Nat × gI) := [(0, .iconst 0, 1, [], .int 0),
  (1, .istore_n 2, 1, [2], .null),
  (2, .iconst 0, 1, [], .int 0),
  (3, .istore_n 3, 1, [3], .null),
  (4, .iload_n 3, 1, [3], .null),
  (5, .aload_n 0, 1, [0], .null),
  (6, .getfield 257, 3, [10, 25, 0, 880], .null),
  (9, .if_icmp .ge 37, 3, [46], .null),
  (12, .iload_n 2, 1, [2], .null),
  (13, .aload_n 0, 1, [0], .null),
  (14, .getfield 103, 3, [10, 30, 0, 885], .null),
  (17, .iload_n 3, 1, [3], .null),
  (18, .iaload, 1, [], .null),
  (19, .iconst 1, 1, [], .int 1),
  (20, .if_icmp .ne 17, 3, [37], .null),
  (23, .aload_n 0, 1, [0], .null),
  (24, .getfield 106, 3, [10, 31, 0, 886], .null),
  (27, .iload_n 3, 1, [3], .null),
  (28, .iaload, 1, [], .null),
  (29, .iload_n 1, 1, [1], .null),
  (30, .if_icmp .ne 7, 3, [37], .null),
  (33, .iconst 1, 1, [], .int 1),
  (34, .goto 4, 3, [38], .null),
  (37, .iconst 0, 1, [], .int 0),
  (38, .iadd, 1, [], .null),
  (39, .istore_n 2, 1, [2], .null),
  (40, .iinc 3 1, 3, [3], .int 1),
  (43, .goto (-39), 3, [4], .null),
  (46, .iload_n 2, 1, [2], .null),
  (47, .ireturn, 1, [], .null)]
def gc_128 : List (Nat × gI) := [(0, .aload_n 0, 1, [0], .null),
  (1, .getfield 103, 3, [10, 30, 0, 885], .null),
  (4, .iload_n 1, 1, [1], .null),
  (5, .iconst 1, 1, [], .int 1),
  (6, .iastore, 1, [], .null),
  (7, .aload_n 0, 1, [0], .null),
  (8, .getfield 106, 3, [10, 31, 0, 886], .null),
  (11, .iload_n 1, 1, [1], .null),
  (12, .iload_n 2, 1, [2], .null),
  (13, .iastore, 1, [], .null),
  (14, .aload_n 0, 1, [0], .null),
  (15, .getfield 109, 3, [10, 32, 0, 887], .null),
  (18, .iload_n 1, 1, [1], .null),
  (19, .aload_n 0, 1, [0], .null),
  (20, .getfield 266, 3, [10, 24, 0, 879], .null),
  (23, .iastore, 1, [], .null),
  (24, .return_, 1, [], .null)]
def gc_129 : List (Nat × gI) := [(0, .aload_n 0, 1, [0], .null),
  (1, .iconst 0, 1, [], .int 0),
  (2, .putfield 1, 3, [10, 0, 0, 855], .null),
  (5, .iload_n 1, 1, [1], .null),
  (6, .iconst 0, 1, [], .int 0),
  (7, .bipush 9, 2, [], .int 9),
  (9, .invokestatic 253, 3, [116, 3, 0, 1099, 1100, 0], .null),
  (12, .ifCond .eq 20, 3, [32], .null),
  (15, .aload_n 0, 1, [0], .null),
  (16, .iload_n 2, 1, [2], .null),
  (17, .invokevirtual 260, 3, [121, 2, 0, 1117, 1119, 69], .null),
  (20, .ifCond .eq 12, 3, [32], .null),
  (23, .iload_n 3, 1, [3], .null),
  (24, .iconst 1, 1, [], .int 1),
  (25, .iconst 4, 1, [], .int 4),
  (26, .invokestatic 253, 3, [116, 3, 0, 1099, 1100, 0], .null),
  (29, .ifCond .ne 5, 3, [34], .null),
  (32, .iconst (-1), 1, [], .int (-1)),
  (33, .ireturn, 1, [], .null),
  (34, .iload_n 3, 1, [3], .null),
  (35, .aload_n 0, 1, [0], .null),
  (36, .iload_n 2, 1, [2], .null),
  (37, .invokevirtual 278, 3, [123, 2, 0, 1125, 1127, 71], .null),
  (40, .if_icmp .ne 7, 3, [47], .null),
  (43, .iconst 1, 1, [], .int 1),
  (44, .goto 4, 3, [48], .null),
  (47, .iconst 0, 1, [], .int 0),
  (48, .istore 4, 2, [4], .null),
  (50, .aload_n 0, 1, [0], .null),
  (51, .getfield 123, 3, [10, 37, 0, 892], .null),
  (54, .iload_n 1, 1, [1], .null),
  (55, .dup2, 1, [], .null),
  (56, .iaload, 1, [], .null),
  (57, .iconst 1, 1, [], .int 1),
  (58, .iadd, 1, [], .null),
  (59, .iastore, 1, [], .null),
  (60, .aload_n 0, 1, [0], .null),
  (61, .getfield 126, 3, [10, 38, 0, 893], .null),
  (64, .iload_n 1, 1, [1], .null),
  (65, .dup2, 1, [], .null),
  (66, .iaload, 1, [], .null),
  (67, .iload 4, 2, [4], .null),
  (69, .iadd, 1, [], .null),
  (70, .iastore, 1, [], .null),
  (71, .iload 4, 2, [4], .null),
  (73, .ireturn, 1, [], .null)]
def gc_130 : List (Nat × gI) := [(0, .aload_n 0, 1, [0], .null),
  (1, .iconst 0, 1, [], .int 0),
  (2, .putfield 1, 3, [10, 0, 0, 855], .null),
  (5, .iload_n 1, 1, [1], .null),
  (6, .iconst 0, 1, [], .int 0),
  (7, .bipush 9, 2, [], .int 9),
  (9, .invokestatic 253, 3, [116, 3, 0, 1099, 1100, 0], .null),
  (12, .ifCond .eq 12, 3, [24], .null),
  (15, .aload_n 0, 1, [0], .null),
  (16, .getfield 123, 3, [10, 37, 0, 892], .null),
  (19, .iload_n 1, 1, [1], .null),
  (20, .iaload, 1, [], .null),
  (21, .ifCond .ne 7, 3, [28], .null),
  (24, .iconst (-1), 1, [], .int (-1)),
  (25, .goto 20, 3, [45], .null),
  (28, .aload_n 0, 1, [0], .null),
  (29, .getfield 126, 3, [10, 38, 0, 893], .null),
  (32, .iload_n 1, 1, [1], .null),
  (33, .iaload, 1, [], .null),
  (34, .sipush 1000, 3, [], .int 1000),
  (37, .imul, 1, [], .null),
  (38, .aload_n 0, 1, [0], .null),
  (39, .getfield 123, 3, [10, 37, 0, 892], .null),
  (42, .iload_n 1, 1, [1], .null),
  (43, .iaload, 1, [], .null),
  (44, .idiv, 1, [], .null),
  (45, .ireturn, 1, [], .null)]
def gc_131 : List (Nat × gI) := [(0, .aload_n 0, 1, [0], .null),
  (1, .iconst 0, 1, [], .int 0),
  (2, .putfield 1, 3, [10, 0, 0, 855], .null),
  (5, .iload_n 1, 1, [1], .null),
  (6, .ifCond .lt 21, 3, [27], .null),
  (9, .iload_n 1, 1, [1], .null),
  (10, .bipush 60, 2, [], .int 60),
  (12, .if_icmp .gt 15, 3, [27], .null),
  (15, .aload_n 0, 1, [0], .null),
  (16, .getfield 266, 3, [10, 24, 0, 879], .null),
  (19, .iload_n 1, 1, [1], .null),
  (20, .iadd, 1, [], .null),
  (21, .sipush 519, 3, [], .int 519),
  (24, .if_icmp .le 5, 3, [29], .null),
  (27, .iconst (-1), 1, [], .int (-1)),
  (28, .ireturn, 1, [], .null),
  (29, .iconst 0, 1, [], .int 0),
  (30, .istore_n 2, 1, [2], .null),
  (31, .iload_n 2, 1, [2], .null),
  (32, .iload_n 1, 1, [1], .null),
  (33, .if_icmp .ge 13, 3, [46], .null),
  (36, .aload_n 0, 1, [0], .null),
  (37, .invokevirtual 293, 3, [132, 1, 0, 1161, 1163, 77], .null),
  (40, .iinc 2 1, 3, [2], .int 1),
  (43, .goto (-12), 3, [31], .null),
  (46, .aload_n 0, 1, [0], .null),
  (47, .getfield 266, 3, [10, 24, 0, 879], .null),
  (50, .ireturn, 1, [], .null)]
def gc_132 : List (Nat × gI) := [(0, .iconst 0, 1, [], .int 0),
  (1, .istore_n 1, 1, [1], .null),
  (2, .iload_n 1, 1, [1], .null),
  (3, .aload_n 0, 1, [0], .null),
  (4, .getfield 257, 3, [10, 25, 0, 880], .null),
  (7, .if_icmp .ge 44, 3, [51], .null),
  (10, .aload_n 0, 1, [0], .null),
  (11, .getfield 103, 3, [10, 30, 0, 885], .null),
  (14, .iload_n 1, 1, [1], .null),
  (15, .iaload, 1, [], .null),
  (16, .iconst 1, 1, [], .int 1),
  (17, .if_icmp .ne 28, 3, [45], .null),
  (20, .aload_n 0, 1, [0], .null),
  (21, .getfield 121, 3, [10, 36, 0, 891], .null),
  (24, .bipush 8, 2, [], .int 8),
  (26, .aload_n 0, 1, [0], .null),
  (27, .getfield 106, 3, [10, 31, 0, 886], .null),
  (30, .iload_n 1, 1, [1], .null),
  (31, .iaload, 1, [], .null),
  (32, .imul, 1, [], .null),
  (33, .aload_n 0, 1, [0], .null),
  (34, .getfield 94, 3, [10, 27, 0, 882], .null),
  (37, .iload_n 1, 1, [1], .null),
  (38, .iaload, 1, [], .null),
  (39, .iadd, 1, [], .null),
  (40, .dup2, 1, [], .null),
  (41, .iaload, 1, [], .null),
  (42, .iconst 1, 1, [], .int 1),
  (43, .iadd, 1, [], .null),
  (44, .iastore, 1, [], .null),
  (45, .iinc 1 1, 3, [1], .int 1),
  (48, .goto (-46), 3, [2], .null),
  (51, .aload_n 0, 1, [0], .null),
  (52, .getfield 132, 3, [10, 40, 0, 895], .null),
  (55, .aload_n 0, 1, [0], .null),
  (56, .getfield 266, 3, [10, 24, 0, 879], .null),
  (59, .bipush 52, 2, [], .int 52),
  (61, .idiv, 1, [], .null),
  (62, .aload_n 0, 1, [0], .null),
  (63, .getfield 129, 3, [10, 39, 0, 894], .null),
  (66, .iastore, 1, [], .null),
  (67, .aload_n 0, 1, [0], .null),
  (68, .dup, 1, [], .null),
  (69, .getfield 266, 3, [10, 24, 0, 879], .null),
  (72, .iconst 1, 1, [], .int 1),
  (73, .iadd, 1, [], .null),
  (74, .putfield 266, 3, [10, 24, 0, 879], .null),
  (77, .iconst 0, 1, [], .int 0),
  (78, .istore_n 1, 1, [1], .null),
  (79, .iload_n 1, 1, [1], .null),
  (80, .aload_n 0, 1, [0], .null),
  (81, .getfield 257, 3, [10, 25, 0, 880], .null),
  (84, .if_icmp .ge 41, 3, [125], .null),
  (87, .aload_n 0, 1, [0], .null),
  (88, .getfield 103, 3, [10, 30, 0, 885], .null),
  (91, .iload_n 1, 1, [1], .null),
  (92, .iaload, 1, [], .null),
  (93, .iconst 1, 1, [], .int 1),
  (94, .if_icmp .ne 25, 3, [119], .null),
  (97, .aload_n 0, 1, [0], .null),
  (98, .getfield 266, 3, [10, 24, 0, 879], .null),
  (101, .aload_n 0, 1, [0], .null),
  (102, .getfield 109, 3, [10, 32, 0, 887], .null),
  (105, .iload_n 1, 1, [1], .null),
  (106, .iaload, 1, [], .null),
  (107, .isub, 1, [], .null),
  (108, .iconst 5, 1, [], .int 5),
  (109, .if_icmp .lt 10, 3, [119], .null),
  (112, .aload_n 0, 1, [0], .null),
  (113, .getfield 103, 3, [10, 30, 0, 885], .null),
  (116, .iload_n 1, 1, [1], .null),
  (117, .iconst 3, 1, [], .int 3),
  (118, .iastore, 1, [], .null),
  (119, .iinc 1 1, 3, [1], .int 1),
  (122, .goto (-43), 3, [79], .null),
  (125, .iconst 0, 1, [], .int 0),
  (126, .istore_n 1, 1, [1], .null),
  (127, .iload_n 1, 1, [1], .null),
  (128, .aload_n 0, 1, [0], .null),
  (129, .getfield 257, 3, [10, 25, 0, 880], .null),
  (132, .if_icmp .ge 61, 3, [193], .null),
  (135, .aload_n 0, 1, [0], .null),
  (136, .getfield 266, 3, [10, 24, 0, 879], .null),
  (139, .bipush 13, 2, [], .int 13),
  (141, .irem, 1, [], .null),
  (142, .ifCond .ne 51, 3, [193], .null),
  (145, .aload_n 0, 1, [0], .null),
  (146, .getfield 103, 3, [10, 30, 0, 885], .null),
  (149, .iload_n 1, 1, [1], .null),
  (150, .iaload, 1, [], .null),
  (151, .iconst 2, 1, [], .int 2),
  (152, .if_icmp .ne 35, 3, [187], .null),
  (155, .aload_n 0, 1, [0], .null),
  (156, .getfield 100, 3, [10, 29, 0, 884], .null),
  (159, .iload_n 1, 1, [1], .null),
  (160, .iaload, 1, [], .null),
  (161, .iconst 4, 1, [], .int 4),
  (162, .if_icmp .eq 16, 3, [178], .null),
  (165, .aload_n 0, 1, [0], .null),
  (166, .getfield 100, 3, [10, 29, 0, 884], .null),
  (169, .iload_n 1, 1, [1], .null),
  (170, .iaload, 1, [], .null),
  (171, .aload_n 0, 1, [0], .null),
  (172, .invokevirtual 269, 3, [124, 1, 0, 1129, 1131, 72], .null),
  (175, .if_icmp .ne 12, 3, [187], .null),
  (178, .aload_n 0, 1, [0], .null),
  (179, .iload_n 1, 1, [1], .null),
  (180, .aload_n 0, 1, [0], .null),
  (181, .invokevirtual 290, 3, [133, 1, 0, 1165, 1167, 78], .null),
  (184, .invokevirtual 287, 3, [122, 3, 0, 1121, 1123, 70], .null),
  (187, .iinc 1 1, 3, [1], .int 1),
  (190, .goto (-63), 3, [127], .null),
  (193, .return_, 1, [], .null)]
def gc_133 : List (Nat × gI) := [(0, .iconst 0, 1, [], .int 0),
  (1, .istore_n 1, 1, [1], .null),
  (2, .iload_n 1, 1, [1], .null),
  (3, .iconst 5, 1, [], .int 5),
  (4, .if_icmp .ge 19, 3, [23], .null),
  (7, .aload_n 0, 1, [0], .null),
  (8, .iload_n 1, 1, [1], .null),
  (9, .invokevirtual 281, 3, [126, 2, 0, 1137, 1139, 74], .null),
  (12, .ifCond .eq 5, 3, [17], .null),
  (15, .iload_n 1, 1, [1], .null),
  (16, .ireturn, 1, [], .null),
  (17, .iinc 1 1, 3, [1], .int 1),
  (20, .goto (-18), 3, [2], .null),
  (23, .iconst 0, 1, [], .int 0),
  (24, .ireturn, 1, [], .null)]
def gc_134 : List (Nat × gI) := [(0, .aload_n 0, 1, [0], .null),
  (1, .iconst 0, 1, [], .int 0),
  (2, .putfield 1, 3, [10, 0, 0, 855], .null),
  (5, .aload_n 0, 1, [0], .null),
  (6, .iload_n 1, 1, [1], .null),
  (7, .invokevirtual 296, 3, [135, 2, 0, 1173, 1175, 79], .null),
  (10, .ifCond .eq 11, 3, [21], .null),
  (13, .aload_n 0, 1, [0], .null),
  (14, .iload_n 1, 1, [1], .null),
  (15, .invokevirtual 299, 3, [136, 2, 0, 1177, 1179, 80], .null),
  (18, .goto 4, 3, [22], .null),
  (21, .iconst (-1), 1, [], .int (-1)),
  (22, .ireturn, 1, [], .null)]
def gc_135 : List (Nat × gI) := [(0, .aload_n 0, 1, [0], .null),
  (1, .iload_n 1, 1, [1], .null),
  (2, .invokevirtual 260, 3, [121, 2, 0, 1117, 1119, 69], .null),
  (5, .ifCond .eq 17, 3, [22], .null),
  (8, .aload_n 0, 1, [0], .null),
  (9, .getfield 103, 3, [10, 30, 0, 885], .null),
  (12, .iload_n 1, 1, [1], .null),
  (13, .iaload, 1, [], .null),
  (14, .iconst 1, 1, [], .int 1),
  (15, .if_icmp .ne 7, 3, [22], .null),
  (18, .iconst 1, 1, [], .int 1),
  (19, .goto 4, 3, [23], .null),
  (22, .iconst 0, 1, [], .int 0),
  (23, .ireturn, 1, [], .null)]
def gc_136 : List (Nat × gI) := [(0, .aload_n 0, 1, [0], .null),
  (1, .getfield 115, 3, [10, 34, 0, 889], .null),
  (4, .aload_n 0, 1, [0], .null),
  (5, .getfield 94, 3, [10, 27, 0, 882], .null),
  (8, .iload_n 1, 1, [1], .null),
  (9, .iaload, 1, [], .null),
  (10, .iaload, 1, [], .null),
  (11, .bipush 10, 2, [], .int 10),
  (13, .iconst 2, 1, [], .int 2),
  (14, .aload_n 0, 1, [0], .null),
  (15, .getfield 266, 3, [10, 24, 0, 879], .null),
  (18, .aload_n 0, 1, [0], .null),
  (19, .getfield 109, 3, [10, 32, 0, 887], .null),
  (22, .iload_n 1, 1, [1], .null),
  (23, .iaload, 1, [], .null),
  (24, .isub, 1, [], .null),
  (25, .imul, 1, [], .null),
  (26, .isub, 1, [], .null),
  (27, .imul, 1, [], .null),
  (28, .bipush 10, 2, [], .int 10),
  (30, .idiv, 1, [], .null),
  (31, .istore_n 2, 1, [2], .null),
  (32, .iload_n 2, 1, [2], .null),
  (33, .iconst 1, 1, [], .int 1),
  (34, .if_icmp .ge 7, 3, [41], .null),
  (37, .iconst 1, 1, [], .int 1),
  (38, .goto 4, 3, [42], .null),
  (41, .iload_n 2, 1, [2], .null),
  (42, .ireturn, 1, [], .null)]
def gc_137 : List (Nat × gI) := [(0, .aload_n 0, 1, [0], .null),
  (1, .iconst 0, 1, [], .int 0),
  (2, .putfield 1, 3, [10, 0, 0, 855], .null),
  (5, .aload_n 0, 1, [0], .null),
  (6, .iload_n 1, 1, [1], .null),
  (7, .invokevirtual 296, 3, [135, 2, 0, 1173, 1175, 79], .null),
  (10, .ifCond .eq 13, 3, [23], .null),
  (13, .aload_n 0, 1, [0], .null),
  (14, .getfield 302, 3, [10, 41, 0, 896], .null),
  (17, .sipush 200, 3, [], .int 200),
  (20, .if_icmp .ne 5, 3, [25], .null),
  (23, .iconst (-1), 1, [], .int (-1)),
  (24, .ireturn, 1, [], .null),
  (25, .aload_n 0, 1, [0], .null),
  (26, .getfield 135, 3, [10, 42, 0, 897], .null),
  (29, .aload_n 0, 1, [0], .null),
  (30, .getfield 302, 3, [10, 41, 0, 896], .null),
  (33, .iload_n 1, 1, [1], .null),
  (34, .iastore, 1, [], .null),
  (35, .aload_n 0, 1, [0], .null),
  (36, .getfield 138, 3, [10, 43, 0, 898], .null),
  (39, .aload_n 0, 1, [0], .null),
  (40, .getfield 302, 3, [10, 41, 0, 896], .null),
  (43, .aload_n 0, 1, [0], .null),
  (44, .iload_n 1, 1, [1], .null),
  (45, .invokevirtual 299, 3, [136, 2, 0, 1177, 1179, 80], .null),
  (48, .iastore, 1, [], .null),
  (49, .aload_n 0, 1, [0], .null),
  (50, .getfield 141, 3, [10, 44, 0, 899], .null),
  (53, .aload_n 0, 1, [0], .null),
  (54, .getfield 302, 3, [10, 41, 0, 896], .null),
  (57, .aload_n 0, 1, [0], .null),
  (58, .getfield 106, 3, [10, 31, 0, 886], .null),
  (61, .iload_n 1, 1, [1], .null),
  (62, .iaload, 1, [], .null),
  (63, .iastore, 1, [], .null),
  (64, .aload_n 0, 1, [0], .null),
  (65, .getfield 144, 3, [10, 45, 0, 900], .null),
  (68, .aload_n 0, 1, [0], .null),
  (69, .getfield 302, 3, [10, 41, 0, 896], .null),
  (72, .aload_n 0, 1, [0], .null),
  (73, .getfield 266, 3, [10, 24, 0, 879], .null),
  (76, .iastore, 1, [], .null),
  (77, .aload_n 0, 1, [0], .null),
  (78, .getfield 103, 3, [10, 30, 0, 885], .null),
  (81, .iload_n 1, 1, [1], .null),
  (82, .iconst 5, 1, [], .int 5),
  (83, .iastore, 1, [], .null),
  (84, .aload_n 0, 1, [0], .null),
  (85, .dup, 1, [], .null),
  (86, .getfield 302, 3, [10, 41, 0, 896], .null),
  (89, .iconst 1, 1, [], .int 1),
  (90, .iadd, 1, [], .null),
  (91, .putfield 302, 3, [10, 41, 0, 896], .null),
  (94, .aload_n 0, 1, [0], .null),
  (95, .getfield 302, 3, [10, 41, 0, 896], .null),
  (98, .iconst 1, 1, [], .int 1),
  (99, .isub, 1, [], .null),
  (100, .ireturn, 1, [], .null)]
def gc_138 : List (Nat × gI) := [(0, .aload_n 0, 1, [0], .null),
  (1, .iconst 0, 1, [], .int 0),
  (2, .putfield 1, 3, [10, 0, 0, 855], .null),
  (5, .iload_n 1, 1, [1], .null),
  (6, .ifCond .lt 20, 3, [26], .null),
  (9, .iload_n 1, 1, [1], .null),
  (10, .aload_n 0, 1, [0], .null),
  (11, .getfield 302, 3, [10, 41, 0, 896], .null),
  (14, .if_icmp .ge 12, 3, [26], .null),
  (17, .aload_n 0, 1, [0], .null),
  (18, .getfield 147, 3, [10, 46, 0, 901], .null),
  (21, .iload_n 1, 1, [1], .null),
  (22, .baload, 1, [], .null),
  (23, .ifCond .eq 5, 3, [28], .null),
  (26, .iconst 0, 1, [], .int 0),
  (27, .ireturn, 1, [], .null),
  (28, .aload_n 0, 1, [0], .null),
  (29, .getfield 147, 3, [10, 46, 0, 901], .null),
  (32, .iload_n 1, 1, [1], .null),
  (33, .iconst 1, 1, [], .int 1),
  (34, .bastore, 1, [], .null),
  (35, .aload_n 0, 1, [0], .null),
  (36, .getfield 103, 3, [10, 30, 0, 885], .null),
  (39, .aload_n 0, 1, [0], .null),
  (40, .getfield 135, 3, [10, 42, 0, 897], .null),
  (43, .iload_n 1, 1, [1], .null),
  (44, .iaload, 1, [], .null),
  (45, .iconst 1, 1, [], .int 1),
  (46, .iastore, 1, [], .null),
  (47, .iconst 1, 1, [], .int 1),
  (48, .ireturn, 1, [], .null)]
def gc_139 : List (Nat × gI) := [(0, .aload_n 0, 1, [0], .null),
  (1, .iconst 0, 1, [], .int 0),
  (2, .putfield 1, 3, [10, 0, 0, 855], .null),
  (5, .aload_n 0, 1, [0], .null),
  (6, .iload_n 1, 1, [1], .null),
  (7, .invokevirtual 296, 3, [135, 2, 0, 1173, 1175, 79], .null),
  (10, .ifCond .ne 5, 3, [15], .null),
  (13, .iconst 0, 1, [], .int 0),
  (14, .ireturn, 1, [], .null),
  (15, .aload_n 0, 1, [0], .null),
  (16, .getfield 103, 3, [10, 30, 0, 885], .null),
  (19, .iload_n 1, 1, [1], .null),
  (20, .bipush 6, 2, [], .int 6),
  (22, .iastore, 1, [], .null),
  (23, .iconst 1, 1, [], .int 1),
  (24, .ireturn, 1, [], .null)]
def gc_140 : List (Nat × gI) := [(0, .aload_n 0, 1, [0], .null),
  (1, .iconst 0, 1, [], .int 0),
  (2, .putfield 1, 3, [10, 0, 0, 855], .null),
  (5, .iload_n 1, 1, [1], .null),
  (6, .invokestatic 263, 3, [118, 1, 0, 1106, 1107, 0], .null),
  (9, .ifCond .eq 13, 3, [22], .null),
  (12, .iload_n 2, 1, [2], .null),
  (13, .iconst 0, 1, [], .int 0),
  (14, .bipush 100, 2, [], .int 100),
  (16, .invokestatic 253, 3, [116, 3, 0, 1099, 1100, 0], .null),
  (19, .ifCond .ne 5, 3, [24], .null),
  (22, .iconst (-1), 1, [], .int (-1)),
  (23, .ireturn, 1, [], .null),
  (24, .iconst 0, 1, [], .int 0),
  (25, .istore_n 3, 1, [3], .null),
  (26, .iconst 0, 1, [], .int 0),
  (27, .istore 4, 2, [4], .null),
  (29, .iload 4, 2, [4], .null),
  (31, .aload_n 0, 1, [0], .null),
  (32, .getfield 257, 3, [10, 25, 0, 880], .null),
  (35, .if_icmp .ge 40, 3, [75], .null),
  (38, .iload_n 3, 1, [3], .null),
  (39, .aload_n 0, 1, [0], .null),
  (40, .getfield 103, 3, [10, 30, 0, 885], .null),
  (43, .iload 4, 2, [4], .null),
  (45, .iaload, 1, [], .null),
  (46, .bipush 6, 2, [], .int 6),
  (48, .if_icmp .ne 18, 3, [66], .null),
  (51, .aload_n 0, 1, [0], .null),
  (52, .getfield 106, 3, [10, 31, 0, 886], .null),
  (55, .iload 4, 2, [4], .null),
  (57, .iaload, 1, [], .null),
  (58, .iload_n 1, 1, [1], .null),
  (59, .if_icmp .ne 7, 3, [66], .null),
  (62, .iconst 1, 1, [], .int 1),
  (63, .goto 4, 3, [67], .null),
  (66, .iconst 0, 1, [], .int 0),
  (67, .iadd, 1, [], .null),
  (68, .istore_n 3, 1, [3], .null),
  (69, .iinc 4 1, 3, [4], .int 1),
  (72, .goto (-43), 3, [29], .null),
  (75, .iload_n 3, 1, [3], .null),
  (76, .iload_n 2, 1, [2], .null),
  (77, .if_icmp .le 9, 3, [86], .null),
  (80, .iload_n 3, 1, [3], .null),
  (81, .iload_n 2, 1, [2], .null),
  (82, .isub, 1, [], .null),
  (83, .goto 4, 3, [87], .null),
  (86, .iconst 0, 1, [], .int 0),
  (87, .ireturn, 1, [], .null)]
def gc_141 : List (Nat × gI) := [(0, .aload_n 0, 1, [0], .null),
  (1, .iconst 0, 1, [], .int 0),
  (2, .putfield 1, 3, [10, 0, 0, 855], .null),
  (5, .aload_n 0, 1, [0], .null),
  (6, .iload_n 1, 1, [1], .null),
  (7, .invokevirtual 260, 3, [121, 2, 0, 1117, 1119, 69], .null),
  (10, .ifCond .eq 10, 3, [20], .null),
  (13, .iload_n 2, 1, [2], .null),
  (14, .invokestatic 263, 3, [118, 1, 0, 1106, 1107, 0], .null),
  (17, .ifCond .ne 7, 3, [24], .null),
  (20, .iconst (-1), 1, [], .int (-1)),
  (21, .goto 25, 3, [46], .null),
  (24, .aload_n 0, 1, [0], .null),
  (25, .aload_n 0, 1, [0], .null),
  (26, .getfield 115, 3, [10, 34, 0, 889], .null),
  (29, .aload_n 0, 1, [0], .null),
  (30, .getfield 94, 3, [10, 27, 0, 882], .null),
  (33, .iload_n 1, 1, [1], .null),
  (34, .iaload, 1, [], .null),
  (35, .iaload, 1, [], .null),
  (36, .aload_n 0, 1, [0], .null),
  (37, .getfield 94, 3, [10, 27, 0, 882], .null),
  (40, .iload_n 1, 1, [1], .null),
  (41, .iaload, 1, [], .null),
  (42, .iload_n 2, 1, [2], .null),
  (43, .invokevirtual 305, 3, [142, 4, 0, 1201, 1203, 81], .null),
  (46, .ireturn, 1, [], .null)]
def gc_142 : List (Nat × gI) := [(0, .iconst 0, 1, [], .int 0),
  (1, .istore 4, 2, [4], .null),
  (3, .iconst 0, 1, [], .int 0),
  (4, .istore 5, 2, [5], .null),
  (6, .iload 5, 2, [5], .null),
  (8, .aload_n 0, 1, [0], .null),
  (9, .getfield 302, 3, [10, 41, 0, 896], .null),
  (12, .if_icmp .ge 56, 3, [68], .null),
  (15, .iload 4, 2, [4], .null),
  (17, .aload_n 0, 1, [0], .null),
  (18, .getfield 147, 3, [10, 46, 0, 901], .null),
  (21, .iload 5, 2, [5], .null),
  (23, .baload, 1, [], .null),
  (24, .ifCond .ne 34, 3, [58], .null),
  (27, .aload_n 0, 1, [0], .null),
  (28, .getfield 141, 3, [10, 44, 0, 899], .null),
  (31, .iload 5, 2, [5], .null),
  (33, .iaload, 1, [], .null),
  (34, .iload_n 3, 1, [3], .null),
  (35, .if_icmp .ne 23, 3, [58], .null),
  (38, .aload_n 0, 1, [0], .null),
  (39, .getfield 94, 3, [10, 27, 0, 882], .null),
  (42, .aload_n 0, 1, [0], .null),
  (43, .getfield 135, 3, [10, 42, 0, 897], .null),
  (46, .iload 5, 2, [5], .null),
  (48, .iaload, 1, [], .null),
  (49, .iaload, 1, [], .null),
  (50, .iload_n 2, 1, [2], .null),
  (51, .if_icmp .ne 7, 3, [58], .null),
  (54, .iconst 1, 1, [], .int 1),
  (55, .goto 4, 3, [59], .null),
  (58, .iconst 0, 1, [], .int 0),
  (59, .iadd, 1, [], .null),
  (60, .istore 4, 2, [4], .null),
  (62, .iinc 5 1, 3, [5], .int 1),
  (65, .goto (-59), 3, [6], .null),
  (68, .iload_n 1, 1, [1], .null),
  (69, .i2l, 1, [], .null),
  (70, .iload 4, 2, [4], .null),
  (72, .iconst 1, 1, [], .int 1),
  (73, .iadd, 1, [], .null),
  (74, .i2l, 1, [], .null),
  (75, .lmul, 1, [], .null),
  (76, .iload 4, 2, [4], .null),
  (78, .aload_n 0, 1, [0], .null),
  (79, .getfield 121, 3, [10, 36, 0, 891], .null),
  (82, .bipush 8, 2, [], .int 8),
  (84, .iload_n 3, 1, [3], .null),
  (85, .imul, 1, [], .null),
  (86, .iload_n 2, 1, [2], .null),
  (87, .iadd, 1, [], .null),
  (88, .iaload, 1, [], .null),
  (89, .iadd, 1, [], .null),
  (90, .iconst 2, 1, [], .int 2),
  (91, .iadd, 1, [], .null),
  (92, .i2l, 1, [], .null),
  (93, .ldiv, 1, [], .null),
  (94, .l2i, 1, [], .null),
  (95, .ireturn, 1, [], .null)]
def gc_143 : List (Nat × gI) := [(0, .aload_n 0, 1, [0], .null),
  (1, .iconst 0, 1, [], .int 0),
  (2, .putfield 1, 3, [10, 0, 0, 855], .null),
  (5, .aload_n 0, 1, [0], .null),
  (6, .iload_n 1, 1, [1], .null),
  (7, .invokevirtual 296, 3, [135, 2, 0, 1173, 1175, 79], .null),
  (10, .ifCond .eq 11, 3, [21], .null),
  (13, .aload_n 0, 1, [0], .null),
  (14, .iload_n 1, 1, [1], .null),
  (15, .invokevirtual 309, 3, [144, 2, 0, 1209, 1211, 82], .null),
  (18, .goto 4, 3, [22], .null),
  (21, .iconst (-1), 1, [], .int (-1)),
  (22, .ireturn, 1, [], .null)]
def gc_144 : List (Nat × gI) := [(0, .iconst (-1), 1, [], .int (-1)),
  (1, .istore_n 2, 1, [2], .null),
  (2, .iconst 0, 1, [], .int 0),
  (3, .istore_n 3, 1, [3], .null),
  (4, .iconst 0, 1, [], .int 0),
  (5, .istore 4, 2, [4], .null),
  (7, .iload 4, 2, [4], .null),
  (9, .iconst 5, 1, [], .int 5),
  (10, .if_icmp .ge 70, 3, [80], .null),
  (13, .aload_n 0, 1, [0], .null),
  (14, .aload_n 0, 1, [0], .null),
  (15, .getfield 115, 3, [10, 34, 0, 889], .null),
  (18, .aload_n 0, 1, [0], .null),
  (19, .getfield 94, 3, [10, 27, 0, 882], .null),
  (22, .iload_n 1, 1, [1], .null),
  (23, .iaload, 1, [], .null),
  (24, .iaload, 1, [], .null),
  (25, .aload_n 0, 1, [0], .null),
  (26, .getfield 94, 3, [10, 27, 0, 882], .null),
  (29, .iload_n 1, 1, [1], .null),
  (30, .iaload, 1, [], .null),
  (31, .iload 4, 2, [4], .null),
  (33, .invokevirtual 305, 3, [142, 4, 0, 1201, 1203, 81], .null),
  (36, .istore 5, 2, [5], .null),
  (38, .iload 4, 2, [4], .null),
  (40, .aload_n 0, 1, [0], .null),
  (41, .getfield 106, 3, [10, 31, 0, 886], .null),
  (44, .iload_n 1, 1, [1], .null),
  (45, .iaload, 1, [], .null),
  (46, .if_icmp .eq 28, 3, [74], .null),
  (49, .aload_n 0, 1, [0], .null),
  (50, .iload 4, 2, [4], .null),
  (52, .invokevirtual 281, 3, [126, 2, 0, 1137, 1139, 74], .null),
  (55, .ifCond .eq 19, 3, [74], .null),
  (58, .iload_n 2, 1, [2], .null),
  (59, .ifCond .lt 9, 3, [68], .null),
  (62, .iload 5, 2, [5], .null),
  (64, .iload_n 3, 1, [3], .null),
  (65, .if_icmp .le 9, 3, [74], .null),
  (68, .iload 4, 2, [4], .null),
  (70, .istore_n 2, 1, [2], .null),
  (71, .iload 5, 2, [5], .null),
  (73, .istore_n 3, 1, [3], .null),
  (74, .iinc 4 1, 3, [4], .int 1),
  (77, .goto (-70), 3, [7], .null),
  (80, .iload_n 2, 1, [2], .null),
  (81, .ifCond .lt 37, 3, [118], .null),
  (84, .iload_n 3, 1, [3], .null),
  (85, .aload_n 0, 1, [0], .null),
  (86, .aload_n 0, 1, [0], .null),
  (87, .iload_n 1, 1, [1], .null),
  (88, .invokevirtual 299, 3, [136, 2, 0, 1177, 1179, 80], .null),
  (91, .aload_n 0, 1, [0], .null),
  (92, .getfield 94, 3, [10, 27, 0, 882], .null),
  (95, .iload_n 1, 1, [1], .null),
  (96, .iaload, 1, [], .null),
  (97, .aload_n 0, 1, [0], .null),
  (98, .getfield 106, 3, [10, 31, 0, 886], .null),
  (101, .iload_n 1, 1, [1], .null),
  (102, .iaload, 1, [], .null),
  (103, .invokevirtual 305, 3, [142, 4, 0, 1201, 1203, 81], .null),
  (106, .isub, 1, [], .null),
  (107, .aload_n 0, 1, [0], .null),
  (108, .getfield 151, 3, [10, 47, 0, 902], .null),
  (111, .if_icmp .le 7, 3, [118], .null),
  (114, .iload_n 2, 1, [2], .null),
  (115, .goto 4, 3, [119], .null),
  (118, .iconst (-1), 1, [], .int (-1)),
  (119, .ireturn, 1, [], .null)]
def gc_145 : List (Nat × gI) := [(0, .aload_n 0, 1, [0], .null),
  (1, .iconst 0, 1, [], .int 0),
  (2, .putfield 1, 3, [10, 0, 0, 855], .null),
  (5, .aload_n 0, 1, [0], .null),
  (6, .iload_n 1, 1, [1], .null),
  (7, .invokevirtual 296, 3, [135, 2, 0, 1173, 1175, 79], .null),
  (10, .ifCond .eq 11, 3, [21], .null),
  (13, .aload_n 0, 1, [0], .null),
  (14, .iload_n 1, 1, [1], .null),
  (15, .invokevirtual 309, 3, [144, 2, 0, 1209, 1211, 82], .null),
  (18, .goto 4, 3, [22], .null),
  (21, .iconst (-1), 1, [], .int (-1)),
  (22, .istore_n 2, 1, [2], .null),
  (23, .iload_n 2, 1, [2], .null),
  (24, .ifCond .ge 5, 3, [29], .null),
  (27, .iconst 0, 1, [], .int 0),
  (28, .ireturn, 1, [], .null),
  (29, .aload_n 0, 1, [0], .null),
  (30, .iload_n 1, 1, [1], .null),
  (31, .iload_n 2, 1, [2], .null),
  (32, .invokevirtual 284, 3, [128, 3, 0, 1145, 1147, 76], .null),
  (35, .aload_n 0, 1, [0], .null),
  (36, .getfield 112, 3, [10, 33, 0, 888], .null),
  (39, .iload_n 1, 1, [1], .null),
  (40, .dup2, 1, [], .null),
  (41, .iaload, 1, [], .null),
  (42, .iconst 1, 1, [], .int 1),
  (43, .iadd, 1, [], .null),
  (44, .iastore, 1, [], .null),
  (45, .iconst 1, 1, [], .int 1),
  (46, .ireturn, 1, [], .null)]
def gc_146 : List (Nat × gI) := [(0, .aload_n 0, 1, [0], .null),
  (1, .iconst 0, 1, [], .int 0),
  (2, .putfield 1, 3, [10, 0, 0, 855], .null),
  (5, .iload_n 1, 1, [1], .null),
  (6, .iconst 0, 1, [], .int 0),
  (7, .sipush 1000, 3, [], .int 1000),
  (10, .invokestatic 253, 3, [116, 3, 0, 1099, 1100, 0], .null),
  (13, .ifCond .ne 5, 3, [18], .null),
  (16, .iconst 0, 1, [], .int 0),
  (17, .ireturn, 1, [], .null),
  (18, .aload_n 0, 1, [0], .null),
  (19, .iload_n 1, 1, [1], .null),
  (20, .putfield 151, 3, [10, 47, 0, 902], .null),
  (23, .iconst 1, 1, [], .int 1),
  (24, .ireturn, 1, [], .null)]
def gc_147 : List (Nat × gI) := [(0, .aload_n 0, 1, [0], .null),
  (1, .iconst 0, 1, [], .int 0),
  (2, .putfield 1, 3, [10, 0, 0, 855], .null),
  (5, .iload_n 1, 1, [1], .null),
  (6, .iconst 0, 1, [], .int 0),
  (7, .iconst 5, 1, [], .int 5),
  (8, .invokestatic 253, 3, [116, 3, 0, 1099, 1100, 0], .null),
  (11, .ifCond .eq 27, 3, [38], .null),
  (14, .iload_n 2, 1, [2], .null),
  (15, .iconst 0, 1, [], .int 0),
  (16, .iconst 5, 1, [], .int 5),
  (17, .invokestatic 253, 3, [116, 3, 0, 1099, 1100, 0], .null),
  (20, .ifCond .eq 18, 3, [38], .null),
  (23, .iload_n 1, 1, [1], .null),
  (24, .iload_n 2, 1, [2], .null),
  (25, .if_icmp .eq 13, 3, [38], .null),
  (28, .iload_n 3, 1, [3], .null),
  (29, .iconst 0, 1, [], .int 0),
  (30, .bipush 99, 2, [], .int 99),
  (32, .invokestatic 253, 3, [116, 3, 0, 1099, 1100, 0], .null),
  (35, .ifCond .ne 5, 3, [40], .null),
  (38, .iconst 0, 1, [], .int 0),
  (39, .ireturn, 1, [], .null),
  (40, .aload_n 0, 1, [0], .null),
  (41, .getfield 154, 3, [10, 48, 0, 903], .null),
  (44, .bipush 6, 2, [], .int 6),
  (46, .iload_n 1, 1, [1], .null),
  (47, .imul, 1, [], .null),
  (48, .iload_n 2, 1, [2], .null),
  (49, .iadd, 1, [], .null),
  (50, .iload_n 3, 1, [3], .null),
  (51, .iastore, 1, [], .null),
  (52, .aload_n 0, 1, [0], .null),
  (53, .getfield 154, 3, [10, 48, 0, 903], .null),
  (56, .bipush 6, 2, [], .int 6),
  (58, .iload_n 2, 1, [2], .null),
  (59, .imul, 1, [], .null),
  (60, .iload_n 1, 1, [1], .null),
  (61, .iadd, 1, [], .null),
  (62, .iload_n 3, 1, [3], .null),
  (63, .iastore, 1, [], .null),
  (64, .iconst 1, 1, [], .int 1),
  (65, .ireturn, 1, [], .null)]
def gc_148 : List (Nat × gI) := [(0, .aload_n 0, 1, [0], .null),
  (1, .iconst 0, 1, [], .int 0),
  (2, .putfield 1, 3, [10, 0, 0, 855], .null),
  (5, .iload_n 1, 1, [1], .null),
  (6, .ifCond .lt 9, 3, [15], .null),
  (9, .iload_n 1, 1, [1], .null),
  (10, .bipush 31, 2, [], .int 31),
  (12, .if_icmp .le 7, 3, [19], .null),
  (15, .iconst (-1), 1, [], .int (-1)),
  (16, .goto 9, 3, [25], .null),
  (19, .aload_n 0, 1, [0], .null),
  (20, .iconst 5, 1, [], .int 5),
  (21, .iload_n 1, 1, [1], .null),
  (22, .invokevirtual 312, 3, [149, 3, 0, 1229, 1231, 83], .null),
  (25, .ireturn, 1, [], .null)]
def gc_149 : List (Nat × gI) := [(0, .iload_n 2, 1, [2], .null),
  (1, .ifCond .ne 24, 3, [25], .null),
  (4, .iload_n 1, 1, [1], .null),
  (5, .iconst 5, 1, [], .int 5),
  (6, .if_icmp .ne 7, 3, [13], .null),
  (9, .iconst 0, 1, [], .int 0),
  (10, .goto 14, 3, [24], .null),
  (13, .aload_n 0, 1, [0], .null),
  (14, .getfield 154, 3, [10, 48, 0, 903], .null),
  (17, .bipush 6, 2, [], .int 6),
  (19, .iload_n 1, 1, [1], .null),
  (20, .imul, 1, [], .null),
  (21, .iconst 5, 1, [], .int 5),
  (22, .iadd, 1, [], .null),
  (23, .iaload, 1, [], .null),
  (24, .ireturn, 1, [], .null),
  (25, .iconst (-1), 1, [], .int (-1)),
  (26, .istore_n 3, 1, [3], .null),
  (27, .iconst 0, 1, [], .int 0),
  (28, .istore 4, 2, [4], .null),
  (30, .iload 4, 2, [4], .null),
  (32, .iconst 5, 1, [], .int 5),
  (33, .if_icmp .ge 65, 3, [98], .null),
  (36, .iload_n 2, 1, [2], .null),
  (37, .iload 4, 2, [4], .null),
  (39, .ishr, 1, [], .null),
  (40, .iconst 1, 1, [], .int 1),
  (41, .iand, 1, [], .null),
  (42, .iconst 1, 1, [], .int 1),
  (43, .if_icmp .ne 49, 3, [92], .null),
  (46, .aload_n 0, 1, [0], .null),
  (47, .getfield 154, 3, [10, 48, 0, 903], .null),
  (50, .bipush 6, 2, [], .int 6),
  (52, .iload_n 1, 1, [1], .null),
  (53, .imul, 1, [], .null),
  (54, .iload 4, 2, [4], .null),
  (56, .iadd, 1, [], .null),
  (57, .iaload, 1, [], .null),
  (58, .aload_n 0, 1, [0], .null),
  (59, .iload 4, 2, [4], .null),
  (61, .iload_n 2, 1, [2], .null),
  (62, .iconst 1, 1, [], .int 1),
  (63, .iload 4, 2, [4], .null),
  (65, .ishl, 1, [], .null),
  (66, .iconst (-1), 1, [], .int (-1)),
  (67, .ixor, 1, [], .null),
  (68, .iand, 1, [], .null),
  (69, .invokevirtual 312, 3, [149, 3, 0, 1229, 1231, 83], .null),
  (72, .iadd, 1, [], .null),
  (73, .istore 5, 2, [5], .null),
  (75, .iload_n 3, 1, [3], .null),
  (76, .ifCond .lt 9, 3, [85], .null),
  (79, .iload 5, 2, [5], .null),
  (81, .iload_n 3, 1, [3], .null),
  (82, .if_icmp .ge 8, 3, [90], .null),
  (85, .iload 5, 2, [5], .null),
  (87, .goto 4, 3, [91], .null),
  (90, .iload_n 3, 1, [3], .null),
  (91, .istore_n 3, 1, [3], .null),
  (92, .iinc 4 1, 3, [4], .int 1),
  (95, .goto (-65), 3, [30], .null),
  (98, .iload_n 3, 1, [3], .null),
  (99, .ireturn, 1, [], .null)]
def gc_150 : List (Nat × gI) := [(0, .aload_n 0, 1, [0], .null),
  (1, .iconst 0, 1, [], .int 0),
  (2, .putfield 1, 3, [10, 0, 0, 855], .null),
  (5, .iload_n 1, 1, [1], .null),
  (6, .ifCond .lt 19, 3, [25], .null),
  (9, .iload_n 1, 1, [1], .null),
  (10, .sipush 4095, 3, [], .int 4095),
  (13, .if_icmp .gt 12, 3, [25], .null),
  (16, .aload_n 0, 1, [0], .null),
  (17, .getfield 316, 3, [10, 49, 0, 904], .null),
  (20, .bipush 10, 2, [], .int 10),
  (22, .if_icmp .ne 5, 3, [27], .null),
  (25, .iconst (-1), 1, [], .int (-1)),
  (26, .ireturn, 1, [], .null),
  (27, .aload_n 0, 1, [0], .null),
  (28, .getfield 157, 3, [10, 50, 0, 905], .null),
  (31, .aload_n 0, 1, [0], .null),
  (32, .getfield 316, 3, [10, 49, 0, 904], .null),
  (35, .iload_n 1, 1, [1], .null),
  (36, .iastore, 1, [], .null),
  (37, .aload_n 0, 1, [0], .null),
  (38, .dup, 1, [], .null),
  (39, .getfield 316, 3, [10, 49, 0, 904], .null),
  (42, .iconst 1, 1, [], .int 1),
  (43, .iadd, 1, [], .null),
  (44, .putfield 316, 3, [10, 49, 0, 904], .null),
  (47, .aload_n 0, 1, [0], .null),
  (48, .getfield 316, 3, [10, 49, 0, 904], .null),
  (51, .iconst 1, 1, [], .int 1),
  (52, .isub, 1, [], .null),
  (53, .ireturn, 1, [], .null)]
def gc_151 : List (Nat × gI) := [(0, .aload_n 0, 1, [0], .null),
  (1, .iconst 0, 1, [], .int 0),
  (2, .putfield 1, 3, [10, 0, 0, 855], .null),
  (5, .iload_n 1, 1, [1], .null),
  (6, .ifCond .lt 10, 3, [16], .null),
  (9, .iload_n 1, 1, [1], .null),
  (10, .sipush 4095, 3, [], .int 4095),
  (13, .if_icmp .le 5, 3, [18], .null),
  (16, .iconst (-1), 1, [], .int (-1)),
  (17, .ireturn, 1, [], .null),
  (18, .aload_n 0, 1, [0], .null),
  (19, .iconst 0, 1, [], .int 0),
  (20, .putfield 322, 3, [10, 53, 0, 908], .null),
  (23, .aload_n 0, 1, [0], .null),
  (24, .getfield 322, 3, [10, 53, 0, 908], .null),
  (27, .bipush 12, 2, [], .int 12),
  (29, .if_icmp .gt 29, 3, [58], .null),
  (32, .aload_n 0, 1, [0], .null),
  (33, .iload_n 1, 1, [1], .null),
  (34, .invokevirtual 331, 3, [152, 2, 0, 1241, 1243, 84], .null),
  (37, .ifCond .eq 8, 3, [45], .null),
  (40, .aload_n 0, 1, [0], .null),
  (41, .getfield 322, 3, [10, 53, 0, 908], .null),
  (44, .ireturn, 1, [], .null),
  (45, .aload_n 0, 1, [0], .null),
  (46, .dup, 1, [], .null),
  (47, .getfield 322, 3, [10, 53, 0, 908], .null),
  (50, .iconst 1, 1, [], .int 1),
  (51, .iadd, 1, [], .null),
  (52, .putfield 322, 3, [10, 53, 0, 908], .null),
  (55, .goto (-32), 3, [23], .null),
  (58, .iconst (-1), 1, [], .int (-1)),
  (59, .ireturn, 1, [], .null)]
def gc_152 : List (Nat × gI) := [(0, .iconst 0, 1, [], .int 0),
  (1, .istore_n 2, 1, [2], .null),
  (2, .iload_n 2, 1, [2], .null),
  (3, .bipush 120, 2, [], .int 120),
  (5, .if_icmp .ge 16, 3, [21], .null),
  (8, .aload_n 0, 1, [0], .null),
  (9, .getfield 160, 3, [10, 51, 0, 906], .null),
  (12, .iload_n 2, 1, [2], .null),
  (13, .iconst 0, 1, [], .int 0),
  (14, .bastore, 1, [], .null),
  (15, .iinc 2 1, 3, [2], .int 1),
  (18, .goto (-16), 3, [2], .null),
  (21, .iconst 0, 1, [], .int 0),
  (22, .istore_n 2, 1, [2], .null),
  (23, .iload_n 2, 1, [2], .null),
  (24, .bipush 24, 2, [], .int 24),
  (26, .if_icmp .ge 53, 3, [79], .null),
  (29, .iload_n 1, 1, [1], .null),
  (30, .iload_n 2, 1, [2], .null),
  (31, .iconst 2, 1, [], .int 2),
  (32, .idiv, 1, [], .null),
  (33, .ishr, 1, [], .null),
  (34, .iconst 1, 1, [], .int 1),
  (35, .iand, 1, [], .null),
  (36, .iconst 1, 1, [], .int 1),
  (37, .if_icmp .ne 36, 3, [73], .null),
  (40, .iconst 0, 1, [], .int 0),
  (41, .istore_n 3, 1, [3], .null),
  (42, .iload_n 3, 1, [3], .null),
  (43, .bipush 10, 2, [], .int 10),
  (45, .if_icmp .ge 16, 3, [61], .null),
  (48, .aload_n 0, 1, [0], .null),
  (49, .getfield 163, 3, [10, 52, 0, 907], .null),
  (52, .iload_n 3, 1, [3], .null),
  (53, .iconst 0, 1, [], .int 0),
  (54, .bastore, 1, [], .null),
  (55, .iinc 3 1, 3, [3], .int 1),
  (58, .goto (-16), 3, [42], .null),
  (61, .aload_n 0, 1, [0], .null),
  (62, .iload_n 2, 1, [2], .null),
  (63, .iconst 2, 1, [], .int 2),
  (64, .idiv, 1, [], .null),
  (65, .invokevirtual 328, 3, [153, 2, 0, 1245, 1247, 85], .null),
  (68, .ifCond .ne 5, 3, [73], .null),
  (71, .iconst 0, 1, [], .int 0),
  (72, .ireturn, 1, [], .null),
  (73, .iinc 2 1, 3, [2], .int 1),
  (76, .goto (-53), 3, [23], .null),
  (79, .iconst 1, 1, [], .int 1),
  (80, .ireturn, 1, [], .null)]
def gc_153 : List (Nat × gI) := [(0, .iconst 0, 1, [], .int 0),
  (1, .istore_n 2, 1, [2], .null),
  (2, .iload_n 2, 1, [2], .null),
  (3, .aload_n 0, 1, [0], .null),
  (4, .getfield 316, 3, [10, 49, 0, 904], .null),
  (7, .if_icmp .ge 87, 3, [94], .null),
  (10, .aload_n 0, 1, [0], .null),
  (11, .getfield 157, 3, [10, 50, 0, 905], .null),
  (14, .iload_n 2, 1, [2], .null),
  (15, .iaload, 1, [], .null),
  (16, .iload_n 1, 1, [1], .null),
  (17, .ishr, 1, [], .null),
  (18, .iconst 1, 1, [], .int 1),
  (19, .iand, 1, [], .null),
  (20, .iconst 1, 1, [], .int 1),
  (21, .if_icmp .ne 67, 3, [88], .null),
  (24, .aload_n 0, 1, [0], .null),
  (25, .getfield 160, 3, [10, 51, 0, 906], .null),
  (28, .bipush 12, 2, [], .int 12),
  (30, .iload_n 2, 1, [2], .null),
  (31, .imul, 1, [], .null),
  (32, .iload_n 1, 1, [1], .null),
  (33, .iadd, 1, [], .null),
  (34, .baload, 1, [], .null),
  (35, .ifCond .ne 53, 3, [88], .null),
  (38, .aload_n 0, 1, [0], .null),
  (39, .getfield 163, 3, [10, 52, 0, 907], .null),
  (42, .iload_n 2, 1, [2], .null),
  (43, .baload, 1, [], .null),
  (44, .ifCond .ne 44, 3, [88], .null),
  (47, .aload_n 0, 1, [0], .null),
  (48, .getfield 163, 3, [10, 52, 0, 907], .null),
  (51, .iload_n 2, 1, [2], .null),
  (52, .iconst 1, 1, [], .int 1),
  (53, .bastore, 1, [], .null),
  (54, .aload_n 0, 1, [0], .null),
  (55, .iload_n 2, 1, [2], .null),
  (56, .invokevirtual 319, 3, [154, 2, 0, 1249, 1251, 86], .null),
  (59, .aload_n 0, 1, [0], .null),
  (60, .getfield 322, 3, [10, 53, 0, 908], .null),
  (63, .if_icmp .lt 11, 3, [74], .null),
  (66, .aload_n 0, 1, [0], .null),
  (67, .iload_n 2, 1, [2], .null),
  (68, .invokevirtual 325, 3, [155, 2, 0, 1253, 1255, 87], .null),
  (71, .ifCond .eq 17, 3, [88], .null),
  (74, .aload_n 0, 1, [0], .null),
  (75, .getfield 160, 3, [10, 51, 0, 906], .null),
  (78, .bipush 12, 2, [], .int 12),
  (80, .iload_n 2, 1, [2], .null),
  (81, .imul, 1, [], .null),
  (82, .iload_n 1, 1, [1], .null),
  (83, .iadd, 1, [], .null),
  (84, .iconst 1, 1, [], .int 1),
  (85, .bastore, 1, [], .null),
  (86, .iconst 1, 1, [], .int 1),
  (87, .ireturn, 1, [], .null),
  (88, .iinc 2 1, 3, [2], .int 1),
  (91, .goto (-89), 3, [2], .null),
  (94, .iconst 0, 1, [], .int 0),
  (95, .ireturn, 1, [], .null)]
def gc_154 : List (Nat × gI) := [(0, .iconst 0, 1, [], .int 0),
  (1, .istore_n 2, 1, [2], .null),
  (2, .iconst 0, 1, [], .int 0),
  (3, .istore_n 3, 1, [3], .null),
  (4, .iload_n 3, 1, [3], .null),
  (5, .bipush 12, 2, [], .int 12),
  (7, .if_icmp .ge 31, 3, [38], .null),
  (10, .iload_n 2, 1, [2], .null),
  (11, .aload_n 0, 1, [0], .null),
  (12, .getfield 160, 3, [10, 51, 0, 906], .null),
  (15, .bipush 12, 2, [], .int 12),
  (17, .iload_n 1, 1, [1], .null),
  (18, .imul, 1, [], .null),
  (19, .iload_n 3, 1, [3], .null),
  (20, .iadd, 1, [], .null),
  (21, .baload, 1, [], .null),
  (22, .ifCond .eq 7, 3, [29], .null),
  (25, .iconst 1, 1, [], .int 1),
  (26, .goto 4, 3, [30], .null),
  (29, .iconst 0, 1, [], .int 0),
  (30, .iadd, 1, [], .null),
  (31, .istore_n 2, 1, [2], .null),
  (32, .iinc 3 1, 3, [3], .int 1),
  (35, .goto (-31), 3, [4], .null),
  (38, .iload_n 2, 1, [2], .null),
  (39, .ireturn, 1, [], .null)]
def gc_155 : List (Nat × gI) := [(0, .iconst 0, 1, [], .int 0),
  (1, .istore_n 2, 1, [2], .null),
  (2, .iload_n 2, 1, [2], .null),
  (3, .bipush 12, 2, [], .int 12),
  (5, .if_icmp .ge 45, 3, [50], .null),
  (8, .aload_n 0, 1, [0], .null),
  (9, .getfield 160, 3, [10, 51, 0, 906], .null),
  (12, .bipush 12, 2, [], .int 12),
  (14, .iload_n 1, 1, [1], .null),
  (15, .imul, 1, [], .null),
  (16, .iload_n 2, 1, [2], .null),
  (17, .iadd, 1, [], .null),
  (18, .baload, 1, [], .null),
  (19, .ifCond .eq 25, 3, [44], .null),
  (22, .aload_n 0, 1, [0], .null),
  (23, .iload_n 2, 1, [2], .null),
  (24, .invokevirtual 328, 3, [153, 2, 0, 1245, 1247, 85], .null),
  (27, .ifCond .eq 17, 3, [44], .null),
  (30, .aload_n 0, 1, [0], .null),
  (31, .getfield 160, 3, [10, 51, 0, 906], .null),
  (34, .bipush 12, 2, [], .int 12),
  (36, .iload_n 1, 1, [1], .null),
  (37, .imul, 1, [], .null),
  (38, .iload_n 2, 1, [2], .null),
  (39, .iadd, 1, [], .null),
  (40, .iconst 0, 1, [], .int 0),
  (41, .bastore, 1, [], .null),
  (42, .iconst 1, 1, [], .int 1),
  (43, .ireturn, 1, [], .null),
  (44, .iinc 2 1, 3, [2], .int 1),
  (47, .goto (-45), 3, [2], .null),
  (50, .iconst 0, 1, [], .int 0),
  (51, .ireturn, 1, [], .null)]
def gc_156 : List (Nat × gI) := [(0, .aload_n 0, 1, [0], .null),
  (1, .iconst 0, 1, [], .int 0),
  (2, .putfield 1, 3, [10, 0, 0, 855], .null),
  (5, .iload_n 1, 1, [1], .null),
  (6, .iconst 0, 1, [], .int 0),
  (7, .bipush 100, 2, [], .int 100),
  (9, .invokestatic 253, 3, [116, 3, 0, 1099, 1100, 0], .null),
  (12, .ifCond .ne 5, 3, [17], .null),
  (15, .iconst 0, 1, [], .int 0),
  (16, .ireturn, 1, [], .null),
  (17, .aload_n 0, 1, [0], .null),
  (18, .iload_n 1, 1, [1], .null),
  (19, .putfield 129, 3, [10, 39, 0, 894], .null),
  (22, .iconst 1, 1, [], .int 1),
  (23, .ireturn, 1, [], .null)]
def gc_157 : List (Nat × gI) := [(0, .aload_n 0, 1, [0], .null),
  (1, .iconst 0, 1, [], .int 0),
  (2, .putfield 1, 3, [10, 0, 0, 855], .null),
  (5, .iload_n 1, 1, [1], .null),
  (6, .iconst 0, 1, [], .int 0),
  (7, .bipush 19, 2, [], .int 19),
  (9, .invokestatic 253, 3, [116, 3, 0, 1099, 1100, 0], .null),
  (12, .ifCond .eq 18, 3, [30], .null),
  (15, .iload_n 2, 1, [2], .null),
  (16, .iconst 0, 1, [], .int 0),
  (17, .aload_n 0, 1, [0], .null),
  (18, .getfield 266, 3, [10, 24, 0, 879], .null),
  (21, .bipush 52, 2, [], .int 52),
  (23, .idiv, 1, [], .null),
  (24, .invokestatic 253, 3, [116, 3, 0, 1099, 1100, 0], .null),
  (27, .ifCond .ne 5, 3, [32], .null),
  (30, .iconst (-1), 1, [], .int (-1)),
  (31, .ireturn, 1, [], .null),
  (32, .iconst 0, 1, [], .int 0),
  (33, .istore_n 3, 1, [3], .null),
  (34, .iconst 0, 1, [], .int 0),
  (35, .istore 4, 2, [4], .null),
  (37, .iload 4, 2, [4], .null),
  (39, .aload_n 0, 1, [0], .null),
  (40, .getfield 302, 3, [10, 41, 0, 896], .null),
  (43, .if_icmp .ge 63, 3, [106], .null),
  (46, .iload_n 3, 1, [3], .null),
  (47, .aload_n 0, 1, [0], .null),
  (48, .getfield 147, 3, [10, 46, 0, 901], .null),
  (51, .iload 4, 2, [4], .null),
  (53, .baload, 1, [], .null),
  (54, .ifCond .ne 43, 3, [97], .null),
  (57, .aload_n 0, 1, [0], .null),
  (58, .getfield 91, 3, [10, 26, 0, 881], .null),
  (61, .aload_n 0, 1, [0], .null),
  (62, .getfield 135, 3, [10, 42, 0, 897], .null),
  (65, .iload 4, 2, [4], .null),
  (67, .iaload, 1, [], .null),
  (68, .iaload, 1, [], .null),
  (69, .iload_n 1, 1, [1], .null),
  (70, .if_icmp .ne 27, 3, [97], .null),
  (73, .aload_n 0, 1, [0], .null),
  (74, .getfield 144, 3, [10, 45, 0, 900], .null),
  (77, .iload 4, 2, [4], .null),
  (79, .iaload, 1, [], .null),
  (80, .bipush 52, 2, [], .int 52),
  (82, .idiv, 1, [], .null),
  (83, .iload_n 2, 1, [2], .null),
  (84, .if_icmp .ne 13, 3, [97], .null),
  (87, .aload_n 0, 1, [0], .null),
  (88, .getfield 138, 3, [10, 43, 0, 898], .null),
  (91, .iload 4, 2, [4], .null),
  (93, .iaload, 1, [], .null),
  (94, .goto 4, 3, [98], .null),
  (97, .iconst 0, 1, [], .int 0),
  (98, .iadd, 1, [], .null),
  (99, .istore_n 3, 1, [3], .null),
  (100, .iinc 4 1, 3, [4], .int 1),
  (103, .goto (-66), 3, [37], .null),
  (106, .iload_n 3, 1, [3], .null),
  (107, .iload_n 2, 1, [2], .null),
  (108, .aload_n 0, 1, [0], .null),
  (109, .getfield 266, 3, [10, 24, 0, 879], .null),
  (112, .bipush 52, 2, [], .int 52),
  (114, .idiv, 1, [], .null),
  (115, .if_icmp .ne 10, 3, [125], .null),
  (118, .aload_n 0, 1, [0], .null),
  (119, .getfield 129, 3, [10, 39, 0, 894], .null),
  (122, .goto 9, 3, [131], .null),
  (125, .aload_n 0, 1, [0], .null),
  (126, .getfield 132, 3, [10, 40, 0, 895], .null),
  (129, .iload_n 2, 1, [2], .null),
  (130, .iaload, 1, [], .null),
  (131, .imul, 1, [], .null),
  (132, .bipush 100, 2, [], .int 100),
  (134, .idiv, 1, [], .null),
  (135, .ireturn, 1, [], .null)]
def gc_158 : List (Nat × gI) := [(0, .aload_n 0, 1, [0], .null),
  (1, .aload_n 0, 1, [0], .null),
  (2, .iload_n 1, 1, [1], .null),
  (3, .invokevirtual 260, 3, [121, 2, 0, 1117, 1119, 69], .null),
  (6, .ifCond .eq 16, 3, [22], .null),
  (9, .iload_n 2, 1, [2], .null),
  (10, .ifCond .lt 12, 3, [22], .null),
  (13, .iload_n 2, 1, [2], .null),
  (14, .iconst 4, 1, [], .int 4),
  (15, .if_icmp .gt 7, 3, [22], .null),
  (18, .iconst 0, 1, [], .int 0),
  (19, .goto 4, 3, [23], .null),
  (22, .iconst 1, 1, [], .int 1),
  (23, .putfield 1, 3, [10, 0, 0, 855], .null),
  (26, .aload_n 0, 1, [0], .null),
  (27, .getfield 1, 3, [10, 0, 0, 855], .null),
  (30, .ifCond .le 5, 3, [35], .null),
  (33, .iconst 0, 1, [], .int 0),
  (34, .ireturn, 1, [], .null),
  (35, .iload_n 2, 1, [2], .null),
  (36, .tableswitch 109 0 3 #[32, 39, 81, 102], 32, [145, 68, 75, 117, 138], .null),
  (68, .aload_n 0, 1, [0], .null),
  (69, .getfield 103, 3, [10, 30, 0, 885], .null),
  (72, .iload_n 1, 1, [1], .null),
  (73, .iaload, 1, [], .null),
  (74, .ireturn, 1, [], .null),
  (75, .aload_n 0, 1, [0], .null),
  (76, .getfield 103, 3, [10, 30, 0, 885], .null),
  (79, .iload_n 1, 1, [1], .null),
  (80, .iaload, 1, [], .null),
  (81, .iconst 1, 1, [], .int 1),
  (82, .if_icmp .eq 24, 3, [106], .null),
  (85, .aload_n 0, 1, [0], .null),
  (86, .getfield 103, 3, [10, 30, 0, 885], .null),
  (89, .iload_n 1, 1, [1], .null),
  (90, .iaload, 1, [], .null),
  (91, .iconst 5, 1, [], .int 5),
  (92, .if_icmp .eq 14, 3, [106], .null),
  (95, .aload_n 0, 1, [0], .null),
  (96, .getfield 103, 3, [10, 30, 0, 885], .null),
  (99, .iload_n 1, 1, [1], .null),
  (100, .iaload, 1, [], .null),
  (101, .bipush 6, 2, [], .int 6),
  (103, .if_icmp .ne 12, 3, [115], .null),
  (106, .aload_n 0, 1, [0], .null),
  (107, .getfield 106, 3, [10, 31, 0, 886], .null),
  (110, .iload_n 1, 1, [1], .null),
  (111, .iaload, 1, [], .null),
  (112, .goto 4, 3, [116], .null),
  (115, .iconst (-1), 1, [], .int (-1)),
  (116, .ireturn, 1, [], .null),
  (117, .aload_n 0, 1, [0], .null),
  (118, .getfield 103, 3, [10, 30, 0, 885], .null),
  (121, .iload_n 1, 1, [1], .null),
  (122, .iaload, 1, [], .null),
  (123, .iconst 1, 1, [], .int 1),
  (124, .if_icmp .ne 12, 3, [136], .null),
  (127, .aload_n 0, 1, [0], .null),
  (128, .getfield 109, 3, [10, 32, 0, 887], .null),
  (131, .iload_n 1, 1, [1], .null),
  (132, .iaload, 1, [], .null),
  (133, .goto 4, 3, [137], .null),
  (136, .iconst (-1), 1, [], .int (-1)),
  (137, .ireturn, 1, [], .null),
  (138, .aload_n 0, 1, [0], .null),
  (139, .getfield 112, 3, [10, 33, 0, 888], .null),
  (142, .iload_n 1, 1, [1], .null),
  (143, .iaload, 1, [], .null),
  (144, .ireturn, 1, [], .null),
  (145, .aload_n 0, 1, [0], .null),
  (146, .iload_n 1, 1, [1], .null),
  (147, .invokevirtual 278, 3, [123, 2, 0, 1125, 1127, 71], .null),
  (150, .ireturn, 1, [], .null)]
def gc_159 : List (Nat × gI) := [(0, .aload_n 0, 1, [0], .null),
  (1, .iconst 0, 1, [], .int 0),
  (2, .putfield 1, 3, [10, 0, 0, 855], .null),
  (5, .iconst 0, 1, [], .int 0),
  (6, .istore_n 2, 1, [2], .null),
  (7, .iconst 0, 1, [], .int 0),
  (8, .istore_n 3, 1, [3], .null),
  (9, .iconst 0, 1, [], .int 0),
  (10, .istore 4, 2, [4], .null),
  (12, .iload 4, 2, [4], .null),
  (14, .aload_n 0, 1, [0], .null),
  (15, .getfield 302, 3, [10, 41, 0, 896], .null),
  (18, .if_icmp .ge 51, 3, [69], .null),
  (21, .iload_n 2, 1, [2], .null),
  (22, .aload_n 0, 1, [0], .null),
  (23, .getfield 147, 3, [10, 46, 0, 901], .null),
  (26, .iload 4, 2, [4], .null),
  (28, .baload, 1, [], .null),
  (29, .ifCond .eq 7, 3, [36], .null),
  (32, .iconst 0, 1, [], .int 0),
  (33, .goto 4, 3, [37], .null),
  (36, .iconst 1, 1, [], .int 1),
  (37, .iadd, 1, [], .null),
  (38, .istore_n 2, 1, [2], .null),
  (39, .iload_n 3, 1, [3], .null),
  (40, .aload_n 0, 1, [0], .null),
  (41, .getfield 147, 3, [10, 46, 0, 901], .null),
  (44, .iload 4, 2, [4], .null),
  (46, .baload, 1, [], .null),
  (47, .ifCond .eq 7, 3, [54], .null),
  (50, .iconst 0, 1, [], .int 0),
  (51, .goto 10, 3, [61], .null),
  (54, .aload_n 0, 1, [0], .null),
  (55, .getfield 138, 3, [10, 43, 0, 898], .null),
  (58, .iload 4, 2, [4], .null),
  (60, .iaload, 1, [], .null),
  (61, .iadd, 1, [], .null),
  (62, .istore_n 3, 1, [3], .null),
  (63, .iinc 4 1, 3, [4], .int 1),
  (66, .goto (-54), 3, [12], .null),
  (69, .iload_n 1, 1, [1], .null),
  (70, .tableswitch 106 0 9 #[54, 59, 64, 66, 68, 74, 80, 86, 96, 101], 54, [176, 124, 129, 134, 136, 138, 144, 150, 156, 166, 171], .null),
  (124, .aload_n 0, 1, [0], .null),
  (125, .getfield 257, 3, [10, 25, 0, 880], .null),
  (128, .ireturn, 1, [], .null),
  (129, .aload_n 0, 1, [0], .null),
  (130, .getfield 266, 3, [10, 24, 0, 879], .null),
  (133, .ireturn, 1, [], .null),
  (134, .iload_n 2, 1, [2], .null),
  (135, .ireturn, 1, [], .null),
  (136, .iload_n 3, 1, [3], .null),
  (137, .ireturn, 1, [], .null),
  (138, .aload_n 0, 1, [0], .null),
  (139, .iconst 1, 1, [], .int 1),
  (140, .invokevirtual 334, 3, [160, 2, 0, 1273, 1275, 88], .null),
  (143, .ireturn, 1, [], .null),
  (144, .aload_n 0, 1, [0], .null),
  (145, .iconst 2, 1, [], .int 2),
  (146, .invokevirtual 334, 3, [160, 2, 0, 1273, 1275, 88], .null),
  (149, .ireturn, 1, [], .null),
  (150, .aload_n 0, 1, [0], .null),
  (151, .iconst 3, 1, [], .int 3),
  (152, .invokevirtual 334, 3, [160, 2, 0, 1273, 1275, 88], .null),
  (155, .ireturn, 1, [], .null),
  (156, .aload_n 0, 1, [0], .null),
  (157, .getfield 61, 3, [10, 10, 0, 865], .null),
  (160, .aload_n 0, 1, [0], .null),
  (161, .getfield 217, 3, [10, 15, 0, 870], .null),
  (164, .iaload, 1, [], .null),
  (165, .ireturn, 1, [], .null),
  (166, .aload_n 0, 1, [0], .null),
  (167, .getfield 11, 3, [10, 2, 0, 857], .null),
  (170, .ireturn, 1, [], .null),
  (171, .aload_n 0, 1, [0], .null),
  (172, .getfield 316, 3, [10, 49, 0, 904], .null),
  (175, .ireturn, 1, [], .null),
  (176, .iconst (-1), 1, [], .int (-1)),
  (177, .ireturn, 1, [], .null)]
def gc_160 : List (Nat × gI) := [(0, .iconst 0, 1, [], .int 0),
  (1, .istore_n 2, 1, [2], .null),
  (2, .iconst 0, 1, [], .int 0),
  (3, .istore_n 3, 1, [3], .null),
  (4, .iload_n 3, 1, [3], .null),
  (5, .aload_n 0, 1, [0], .null),
  (6, .getfield 257, 3, [10, 25, 0, 880], .null),
  (9, .if_icmp .ge 27, 3, [36], .null),
  (12, .iload_n 2, 1, [2], .null),
  (13, .aload_n 0, 1, [0], .null),
  (14, .getfield 103, 3, [10, 30, 0, 885], .null),
  (17, .iload_n 3, 1, [3], .null),
  (18, .iaload, 1, [], .null),
  (19, .iload_n 1, 1, [1], .null),
  (20, .if_icmp .ne 7, 3, [27], .null),
  (23, .iconst 1, 1, [], .int 1),
  (24, .goto 4, 3, [28], .null),
  (27, .iconst 0, 1, [], .int 0),
  (28, .iadd, 1, [], .null),
  (29, .istore_n 2, 1, [2], .null),
  (30, .iinc 3 1, 3, [3], .int 1),
  (33, .goto (-29), 3, [4], .null),
  (36, .iload_n 2, 1, [2], .null),
  (37, .ireturn, 1, [], .null)]
def gc_161 : List (Nat × gI) := [(0, .iload_n 0, 1, [0], .null),
  (1, .iload_n 0, 1, [0], .null),
  (2, .iconst 1, 1, [], .int 1),
  (3, .iushr, 1, [], .null),
  (4, .ldc_w 265, 3, [721], .int 1431655765),
  (7, .iand, 1, [], .null),
  (8, .isub, 1, [], .null),
  (9, .istore_n 0, 1, [0], .null),
  (10, .iload_n 0, 1, [0], .null),
  (11, .ldc_w 266, 3, [722], .int 858993459),
  (14, .iand, 1, [], .null),
  (15, .iload_n 0, 1, [0], .null),
  (16, .iconst 2, 1, [], .int 2),
  (17, .iushr, 1, [], .null),
  (18, .ldc_w 266, 3, [722], .int 858993459),
  (21, .iand, 1, [], .null),
  (22, .iadd, 1, [], .null),
  (23, .istore_n 0, 1, [0], .null),
  (24, .iload_n 0, 1, [0], .null),
  (25, .iload_n 0, 1, [0], .null),
  (26, .iconst 4, 1, [], .int 4),
  (27, .iushr, 1, [], .null),
  (28, .iadd, 1, [], .null),
  (29, .ldc_w 267, 3, [723], .int 252645135),
  (32, .iand, 1, [], .null),
  (33, .istore_n 0, 1, [0], .null),
  (34, .iload_n 0, 1, [0], .null),
  (35, .iload_n 0, 1, [0], .null),
  (36, .bipush 8, 2, [], .int 8),
  (38, .iushr, 1, [], .null),
  (39, .iadd, 1, [], .null),
  (40, .istore_n 0, 1, [0], .null),
  (41, .iload_n 0, 1, [0], .null),
  (42, .iload_n 0, 1, [0], .null),
  (43, .bipush 16, 2, [], .int 16),
  (45, .iushr, 1, [], .null),
  (46, .iadd, 1, [], .null),
  (47, .istore_n 0, 1, [0], .null),
  (48, .iload_n 0, 1, [0], .null),
  (49, .bipush 63, 2, [], .int 63),
  (51, .iand, 1, [], .null),
  (52, .ireturn, 1, [], .null)]
def gc_162_0 : List (Nat × gI) := [(0, .new 8, 3, [9, 23], .null),
  (3, .dup, 1, [], .null),
  (4, .invokespecial 15, 3, [0, 1, 0, 25, 26, 0], .null),
  (7, .astore_n 1, 1, [1], .null),
  (8, .new 16, 3, [10, 838], .null),
  (11, .dup, 1, [], .null),
  (12, .invokespecial 18, 3, [95, 1, 0, 839, 840, 0], .null),
  (15, .astore_n 2, 1, [2], .null),
  (16, .iconst 1, 1, [], .int 1),
  (17, .newarray .long, 2, [1018], .null),
  (19, .astore_n 3, 1, [3], .null),
  (20, .iconst 0, 1, [], .int 0),
  (21, .istore 4, 2, [4], .null),
  (23, .iload 4, 2, [4], .null),
  (25, .aload_n 0, 1, [0], .null),
  (26, .arraylength, 1, [], .null),
  (27, .bipush 7, 2, [], .int 7),
  (29, .isub, 1, [], .null),
  (30, .if_icmp .gt 1095, 3, [1125], .null),
  (33, .aload_n 0, 1, [0], .null),
  (34, .iload 4, 2, [4], .null),
  (36, .iaload, 1, [], .null),
  (37, .bipush 31, 2, [], .int 31),
  (39, .iand, 1, [], .null),
  (40, .tableswitch 1079 0 25 #[120, 181, 218, 255, 402, 415, 452, 501, 526, 551, 576, 601, 626, 651, 688, 725, 750, 775, 800, 849, 874, 899, 924, 949, 986, 1054], 120, [1119, 160, 221, 258, 295, 442, 455, 492, 541, 566, 591, 616, 641, 666, 691, 728, 765, 790, 815, 840, 889, 914, 939, 964, 989, 1026, 1094], .null),
  (160, .aload_n 1, 1, [1], .null),
  (161, .aload_n 0, 1, [0], .null),
  (162, .iload 4, 2, [4], .null),
  (164, .iconst 1, 1, [], .int 1),
  (165, .iadd, 1, [], .null),
  (166, .iaload, 1, [], .null),
  (167, .aload_n 0, 1, [0], .null),
  (168, .iload 4, 2, [4], .null),
  (170, .iconst 2, 1, [], .int 2),
  (171, .iadd, 1, [], .null),
  (172, .iaload, 1, [], .null),
  (173, .aload_n 0, 1, [0], .null),
  (174, .iload 4, 2, [4], .null),
  (176, .iconst 3, 1, [], .int 3),
  (177, .iadd, 1, [], .null)]
def gc_162_1 : List (Nat × gI) := [(178, .iaload, 1, [], .null),
  (179, .aload_n 0, 1, [0], .null),
  (180, .iload 4, 2, [4], .null),
  (182, .iconst 4, 1, [], .int 4),
  (183, .iadd, 1, [], .null),
  (184, .iaload, 1, [], .null),
  (185, .invokevirtual 19, 3, [8, 5, 0, 239, 240, 330], .null),
  (188, .aload_n 2, 1, [2], .null),
  (189, .aload_n 0, 1, [0], .null),
  (190, .iload 4, 2, [4], .null),
  (192, .iconst 1, 1, [], .int 1),
  (193, .iadd, 1, [], .null),
  (194, .iaload, 1, [], .null),
  (195, .aload_n 0, 1, [0], .null),
  (196, .iload 4, 2, [4], .null),
  (198, .iconst 2, 1, [], .int 2),
  (199, .iadd, 1, [], .null),
  (200, .iaload, 1, [], .null),
  (201, .aload_n 0, 1, [0], .null),
  (202, .iload 4, 2, [4], .null),
  (204, .iconst 3, 1, [], .int 3),
  (205, .iadd, 1, [], .null),
  (206, .iaload, 1, [], .null),
  (207, .aload_n 0, 1, [0], .null),
  (208, .iload 4, 2, [4], .null),
  (210, .iconst 4, 1, [], .int 4),
  (211, .iadd, 1, [], .null),
  (212, .iaload, 1, [], .null),
  (213, .invokevirtual 23, 3, [115, 5, 0, 1095, 1096, 1186], .null),
  (216, .if_icmp .eq 903, 3, [1119], .null),
  (219, .iconst 0, 1, [], .int 0),
  (220, .ireturn, 1, [], .null),
  (221, .aload_n 1, 1, [1], .null),
  (222, .aload_n 0, 1, [0], .null),
  (223, .iload 4, 2, [4], .null),
  (225, .iconst 1, 1, [], .int 1),
  (226, .iadd, 1, [], .null),
  (227, .iaload, 1, [], .null),
  (228, .aload_n 0, 1, [0], .null),
  (229, .iload 4, 2, [4], .null)]
def gc_162_2 : List (Nat × gI) := [(231, .iconst 2, 1, [], .int 2),
  (232, .iadd, 1, [], .null),
  (233, .iaload, 1, [], .null),
  (234, .invokevirtual 24, 3, [11, 3, 0, 287, 288, 378], .null),
  (237, .aload_n 2, 1, [2], .null),
  (238, .aload_n 0, 1, [0], .null),
  (239, .iload 4, 2, [4], .null),
  (241, .iconst 1, 1, [], .int 1),
  (242, .iadd, 1, [], .null),
  (243, .iaload, 1, [], .null),
  (244, .aload_n 0, 1, [0], .null),
  (245, .iload 4, 2, [4], .null),
  (247, .iconst 2, 1, [], .int 2),
  (248, .iadd, 1, [], .null),
  (249, .iaload, 1, [], .null),
  (250, .invokevirtual 28, 3, [117, 3, 0, 1102, 1103, 1193], .null),
  (253, .if_icmp .eq 866, 3, [1119], .null),
  (256, .iconst 0, 1, [], .int 0),
  (257, .ireturn, 1, [], .null),
  (258, .aload_n 1, 1, [1], .null),
  (259, .aload_n 0, 1, [0], .null),
  (260, .iload 4, 2, [4], .null),
  (262, .iconst 1, 1, [], .int 1),
  (263, .iadd, 1, [], .null),
  (264, .iaload, 1, [], .null),
  (265, .aload_n 0, 1, [0], .null),
  (266, .iload 4, 2, [4], .null),
  (268, .iconst 2, 1, [], .int 2),
  (269, .iadd, 1, [], .null),
  (270, .iaload, 1, [], .null),
  (271, .invokevirtual 29, 3, [12, 3, 0, 291, 292, 382], .null),
  (274, .aload_n 2, 1, [2], .null),
  (275, .aload_n 0, 1, [0], .null),
  (276, .iload 4, 2, [4], .null),
  (278, .iconst 1, 1, [], .int 1),
  (279, .iadd, 1, [], .null),
  (280, .iaload, 1, [], .null),
  (281, .aload_n 0, 1, [0], .null),
  (282, .iload 4, 2, [4], .null),
  (284, .iconst 2, 1, [], .int 2)]
def gc_162_3 : List (Nat × gI) := [(285, .iadd, 1, [], .null),
  (286, .iaload, 1, [], .null),
  (287, .invokevirtual 32, 3, [119, 3, 0, 1109, 1110, 1200], .null),
  (290, .if_icmp .eq 829, 3, [1119], .null),
  (293, .iconst 0, 1, [], .int 0),
  (294, .ireturn, 1, [], .null),
  (295, .aload_n 1, 1, [1], .null),
  (296, .aload_n 0, 1, [0], .null),
  (297, .iload 4, 2, [4], .null),
  (299, .iconst 1, 1, [], .int 1),
  (300, .iadd, 1, [], .null),
  (301, .iaload, 1, [], .null),
  (302, .i2l, 1, [], .null),
  (303, .bipush 32, 2, [], .int 32),
  (305, .lshl, 1, [], .null),
  (306, .aload_n 0, 1, [0], .null),
  (307, .iload 4, 2, [4], .null),
  (309, .iconst 2, 1, [], .int 2),
  (310, .iadd, 1, [], .null),
  (311, .iaload, 1, [], .null),
  (312, .i2l, 1, [], .null),
  (313, .ldc2_w 33, 3, [1277], .long 4294967295),
  (316, .land, 1, [], .null),
  (317, .lor, 1, [], .null),
  (318, .aload_n 0, 1, [0], .null),
  (319, .iload 4, 2, [4], .null),
  (321, .iconst 3, 1, [], .int 3),
  (322, .iadd, 1, [], .null),
  (323, .iaload, 1, [], .null),
  (324, .i2l, 1, [], .null),
  (325, .bipush 32, 2, [], .int 32),
  (327, .lshl, 1, [], .null),
  (328, .aload_n 0, 1, [0], .null),
  (329, .iload 4, 2, [4], .null),
  (331, .iconst 4, 1, [], .int 4),
  (332, .iadd, 1, [], .null),
  (333, .iaload, 1, [], .null),
  (334, .i2l, 1, [], .null),
  (335, .ldc2_w 33, 3, [1277], .long 4294967295),
  (338, .land, 1, [], .null)]
def gc_162_4 : List (Nat × gI) := [(339, .lor, 1, [], .null),
  (340, .aload_n 0, 1, [0], .null),
  (341, .iload 4, 2, [4], .null),
  (343, .iconst 5, 1, [], .int 5),
  (344, .iadd, 1, [], .null),
  (345, .iaload, 1, [], .null),
  (346, .i2l, 1, [], .null),
  (347, .bipush 32, 2, [], .int 32),
  (349, .lshl, 1, [], .null),
  (350, .aload_n 0, 1, [0], .null),
  (351, .iload 4, 2, [4], .null),
  (353, .bipush 6, 2, [], .int 6),
  (355, .iadd, 1, [], .null),
  (356, .iaload, 1, [], .null),
  (357, .i2l, 1, [], .null),
  (358, .ldc2_w 33, 3, [1277], .long 4294967295),
  (361, .land, 1, [], .null),
  (362, .lor, 1, [], .null),
  (363, .invokevirtual 35, 3, [13, 4, 0, 295, 296, 386], .null),
  (366, .aload_n 2, 1, [2], .null),
  (367, .aload_n 0, 1, [0], .null),
  (368, .iload 4, 2, [4], .null),
  (370, .iconst 1, 1, [], .int 1),
  (371, .iadd, 1, [], .null),
  (372, .iaload, 1, [], .null),
  (373, .i2l, 1, [], .null),
  (374, .bipush 32, 2, [], .int 32),
  (376, .lshl, 1, [], .null),
  (377, .aload_n 0, 1, [0], .null),
  (378, .iload 4, 2, [4], .null),
  (380, .iconst 2, 1, [], .int 2),
  (381, .iadd, 1, [], .null),
  (382, .iaload, 1, [], .null),
  (383, .i2l, 1, [], .null),
  (384, .ldc2_w 33, 3, [1277], .long 4294967295),
  (387, .land, 1, [], .null),
  (388, .lor, 1, [], .null),
  (389, .aload_n 0, 1, [0], .null),
  (390, .iload 4, 2, [4], .null),
  (392, .iconst 3, 1, [], .int 3)]
def gc_162_5 : List (Nat × gI) := [(393, .iadd, 1, [], .null),
  (394, .iaload, 1, [], .null),
  (395, .i2l, 1, [], .null),
  (396, .bipush 32, 2, [], .int 32),
  (398, .lshl, 1, [], .null),
  (399, .aload_n 0, 1, [0], .null),
  (400, .iload 4, 2, [4], .null),
  (402, .iconst 4, 1, [], .int 4),
  (403, .iadd, 1, [], .null),
  (404, .iaload, 1, [], .null),
  (405, .i2l, 1, [], .null),
  (406, .ldc2_w 33, 3, [1277], .long 4294967295),
  (409, .land, 1, [], .null),
  (410, .lor, 1, [], .null),
  (411, .aload_n 0, 1, [0], .null),
  (412, .iload 4, 2, [4], .null),
  (414, .iconst 5, 1, [], .int 5),
  (415, .iadd, 1, [], .null),
  (416, .iaload, 1, [], .null),
  (417, .i2l, 1, [], .null),
  (418, .bipush 32, 2, [], .int 32),
  (420, .lshl, 1, [], .null),
  (421, .aload_n 0, 1, [0], .null),
  (422, .iload 4, 2, [4], .null),
  (424, .bipush 6, 2, [], .int 6),
  (426, .iadd, 1, [], .null),
  (427, .iaload, 1, [], .null),
  (428, .i2l, 1, [], .null),
  (429, .ldc2_w 33, 3, [1277], .long 4294967295),
  (432, .land, 1, [], .null),
  (433, .lor, 1, [], .null),
  (434, .invokevirtual 39, 3, [93, 4, 0, 829, 830, 920], .null),
  (437, .if_icmp .eq 682, 3, [1119], .null),
  (440, .iconst 0, 1, [], .int 0),
  (441, .ireturn, 1, [], .null),
  (442, .aload_n 1, 1, [1], .null),
  (443, .invokevirtual 40, 3, [15, 1, 0, 303, 304, 394], .null),
  (446, .aload_n 2, 1, [2], .null),
  (447, .invokevirtual 44, 3, [96, 1, 0, 1020, 1021, 1111], .null),
  (450, .if_icmp .eq 669, 3, [1119], .null)]
def gc_162_6 : List (Nat × gI) := [(453, .iconst 0, 1, [], .int 0),
  (454, .ireturn, 1, [], .null),
  (455, .aload_n 1, 1, [1], .null),
  (456, .aload_n 0, 1, [0], .null),
  (457, .iload 4, 2, [4], .null),
  (459, .iconst 1, 1, [], .int 1),
  (460, .iadd, 1, [], .null),
  (461, .iaload, 1, [], .null),
  (462, .aload_n 0, 1, [0], .null),
  (463, .iload 4, 2, [4], .null),
  (465, .iconst 2, 1, [], .int 2),
  (466, .iadd, 1, [], .null),
  (467, .iaload, 1, [], .null),
  (468, .invokevirtual 45, 3, [38, 3, 0, 504, 505, 595], .null),
  (471, .aload_n 2, 1, [2], .null),
  (472, .aload_n 0, 1, [0], .null),
  (473, .iload 4, 2, [4], .null),
  (475, .iconst 1, 1, [], .int 1),
  (476, .iadd, 1, [], .null),
  (477, .iaload, 1, [], .null),
  (478, .aload_n 0, 1, [0], .null),
  (479, .iload 4, 2, [4], .null),
  (481, .iconst 2, 1, [], .int 2),
  (482, .iadd, 1, [], .null),
  (483, .iaload, 1, [], .null),
  (484, .invokevirtual 48, 3, [120, 3, 0, 1113, 1114, 1204], .null),
  (487, .if_icmp .eq 632, 3, [1119], .null),
  (490, .iconst 0, 1, [], .int 0),
  (491, .ireturn, 1, [], .null),
  (492, .aload_n 1, 1, [1], .null),
  (493, .aload_n 0, 1, [0], .null),
  (494, .iload 4, 2, [4], .null),
  (496, .iconst 1, 1, [], .int 1),
  (497, .iadd, 1, [], .null),
  (498, .iaload, 1, [], .null),
  (499, .aload_n 0, 1, [0], .null),
  (500, .iload 4, 2, [4], .null),
  (502, .iconst 2, 1, [], .int 2),
  (503, .iadd, 1, [], .null),
  (504, .iaload, 1, [], .null)]
def gc_162_7 : List (Nat × gI) := [(505, .aload_n 0, 1, [0], .null),
  (506, .iload 4, 2, [4], .null),
  (508, .iconst 3, 1, [], .int 3),
  (509, .iadd, 1, [], .null),
  (510, .iaload, 1, [], .null),
  (511, .invokevirtual 49, 3, [47, 4, 0, 539, 540, 630], .null),
  (514, .aload_n 2, 1, [2], .null),
  (515, .aload_n 0, 1, [0], .null),
  (516, .iload 4, 2, [4], .null),
  (518, .iconst 1, 1, [], .int 1),
  (519, .iadd, 1, [], .null),
  (520, .iaload, 1, [], .null),
  (521, .aload_n 0, 1, [0], .null),
  (522, .iload 4, 2, [4], .null),
  (524, .iconst 2, 1, [], .int 2),
  (525, .iadd, 1, [], .null),
  (526, .iaload, 1, [], .null),
  (527, .aload_n 0, 1, [0], .null),
  (528, .iload 4, 2, [4], .null),
  (530, .iconst 3, 1, [], .int 3),
  (531, .iadd, 1, [], .null),
  (532, .iaload, 1, [], .null),
  (533, .invokevirtual 53, 3, [129, 4, 0, 1149, 1150, 1240], .null),
  (536, .if_icmp .eq 583, 3, [1119], .null),
  (539, .iconst 0, 1, [], .int 0),
  (540, .ireturn, 1, [], .null),
  (541, .aload_n 1, 1, [1], .null),
  (542, .aload_n 0, 1, [0], .null),
  (543, .iload 4, 2, [4], .null),
  (545, .iconst 1, 1, [], .int 1),
  (546, .iadd, 1, [], .null),
  (547, .iaload, 1, [], .null),
  (548, .invokevirtual 54, 3, [48, 2, 0, 543, 544, 634], .null),
  (551, .aload_n 2, 1, [2], .null),
  (552, .aload_n 0, 1, [0], .null),
  (553, .iload 4, 2, [4], .null),
  (555, .iconst 1, 1, [], .int 1),
  (556, .iadd, 1, [], .null),
  (557, .iaload, 1, [], .null),
  (558, .invokevirtual 58, 3, [130, 2, 0, 1153, 1154, 1244], .null)]
def gc_162_8 : List (Nat × gI) := [(561, .if_icmp .eq 558, 3, [1119], .null),
  (564, .iconst 0, 1, [], .int 0),
  (565, .ireturn, 1, [], .null),
  (566, .aload_n 1, 1, [1], .null),
  (567, .aload_n 0, 1, [0], .null),
  (568, .iload 4, 2, [4], .null),
  (570, .iconst 1, 1, [], .int 1),
  (571, .iadd, 1, [], .null),
  (572, .iaload, 1, [], .null),
  (573, .invokevirtual 59, 3, [49, 2, 0, 548, 549, 639], .null),
  (576, .aload_n 2, 1, [2], .null),
  (577, .aload_n 0, 1, [0], .null),
  (578, .iload 4, 2, [4], .null),
  (580, .iconst 1, 1, [], .int 1),
  (581, .iadd, 1, [], .null),
  (582, .iaload, 1, [], .null),
  (583, .invokevirtual 62, 3, [131, 2, 0, 1157, 1158, 1248], .null),
  (586, .if_icmp .eq 533, 3, [1119], .null),
  (589, .iconst 0, 1, [], .int 0),
  (590, .ireturn, 1, [], .null),
  (591, .aload_n 1, 1, [1], .null),
  (592, .aload_n 0, 1, [0], .null),
  (593, .iload 4, 2, [4], .null),
  (595, .iconst 1, 1, [], .int 1),
  (596, .iadd, 1, [], .null),
  (597, .iaload, 1, [], .null),
  (598, .invokevirtual 63, 3, [55, 2, 0, 572, 573, 663], .null),
  (601, .aload_n 2, 1, [2], .null),
  (602, .aload_n 0, 1, [0], .null),
  (603, .iload 4, 2, [4], .null),
  (605, .iconst 1, 1, [], .int 1),
  (606, .iadd, 1, [], .null),
  (607, .iaload, 1, [], .null),
  (608, .invokevirtual 66, 3, [134, 2, 0, 1169, 1170, 1260], .null),
  (611, .if_icmp .eq 508, 3, [1119], .null),
  (614, .iconst 0, 1, [], .int 0),
  (615, .ireturn, 1, [], .null),
  (616, .aload_n 1, 1, [1], .null),
  (617, .aload_n 0, 1, [0], .null),
  (618, .iload 4, 2, [4], .null)]
def gc_162_9 : List (Nat × gI) := [(620, .iconst 1, 1, [], .int 1),
  (621, .iadd, 1, [], .null),
  (622, .iaload, 1, [], .null),
  (623, .invokevirtual 67, 3, [58, 2, 0, 585, 586, 676], .null),
  (626, .aload_n 2, 1, [2], .null),
  (627, .aload_n 0, 1, [0], .null),
  (628, .iload 4, 2, [4], .null),
  (630, .iconst 1, 1, [], .int 1),
  (631, .iadd, 1, [], .null),
  (632, .iaload, 1, [], .null),
  (633, .invokevirtual 70, 3, [137, 2, 0, 1181, 1182, 1272], .null),
  (636, .if_icmp .eq 483, 3, [1119], .null),
  (639, .iconst 0, 1, [], .int 0),
  (640, .ireturn, 1, [], .null),
  (641, .aload_n 1, 1, [1], .null),
  (642, .aload_n 0, 1, [0], .null),
  (643, .iload 4, 2, [4], .null),
  (645, .iconst 1, 1, [], .int 1),
  (646, .iadd, 1, [], .null),
  (647, .iaload, 1, [], .null),
  (648, .invokevirtual 71, 3, [60, 2, 0, 618, 619, 709], .null),
  (651, .aload_n 2, 1, [2], .null),
  (652, .aload_n 0, 1, [0], .null),
  (653, .iload 4, 2, [4], .null),
  (655, .iconst 1, 1, [], .int 1),
  (656, .iadd, 1, [], .null),
  (657, .iaload, 1, [], .null),
  (658, .invokevirtual 75, 3, [138, 2, 0, 1185, 1186, 1276], .null),
  (661, .if_icmp .eq 458, 3, [1119], .null),
  (664, .iconst 0, 1, [], .int 0),
  (665, .ireturn, 1, [], .null),
  (666, .aload_n 1, 1, [1], .null),
  (667, .aload_n 0, 1, [0], .null),
  (668, .iload 4, 2, [4], .null),
  (670, .iconst 1, 1, [], .int 1),
  (671, .iadd, 1, [], .null),
  (672, .iaload, 1, [], .null),
  (673, .invokevirtual 76, 3, [61, 2, 0, 622, 623, 713], .null),
  (676, .aload_n 2, 1, [2], .null),
  (677, .aload_n 0, 1, [0], .null)]
def gc_162_10 : List (Nat × gI) := [(678, .iload 4, 2, [4], .null),
  (680, .iconst 1, 1, [], .int 1),
  (681, .iadd, 1, [], .null),
  (682, .iaload, 1, [], .null),
  (683, .invokevirtual 79, 3, [139, 2, 0, 1189, 1190, 1280], .null),
  (686, .if_icmp .eq 433, 3, [1119], .null),
  (689, .iconst 0, 1, [], .int 0),
  (690, .ireturn, 1, [], .null),
  (691, .aload_n 1, 1, [1], .null),
  (692, .aload_n 0, 1, [0], .null),
  (693, .iload 4, 2, [4], .null),
  (695, .iconst 1, 1, [], .int 1),
  (696, .iadd, 1, [], .null),
  (697, .iaload, 1, [], .null),
  (698, .aload_n 0, 1, [0], .null),
  (699, .iload 4, 2, [4], .null),
  (701, .iconst 2, 1, [], .int 2),
  (702, .iadd, 1, [], .null),
  (703, .iaload, 1, [], .null),
  (704, .invokevirtual 80, 3, [62, 3, 0, 626, 627, 717], .null),
  (707, .aload_n 2, 1, [2], .null),
  (708, .aload_n 0, 1, [0], .null),
  (709, .iload 4, 2, [4], .null),
  (711, .iconst 1, 1, [], .int 1),
  (712, .iadd, 1, [], .null),
  (713, .iaload, 1, [], .null),
  (714, .aload_n 0, 1, [0], .null),
  (715, .iload 4, 2, [4], .null),
  (717, .iconst 2, 1, [], .int 2),
  (718, .iadd, 1, [], .null),
  (719, .iaload, 1, [], .null),
  (720, .invokevirtual 83, 3, [140, 3, 0, 1193, 1194, 1284], .null),
  (723, .if_icmp .eq 396, 3, [1119], .null),
  (726, .iconst 0, 1, [], .int 0),
  (727, .ireturn, 1, [], .null),
  (728, .aload_n 1, 1, [1], .null),
  (729, .aload_n 0, 1, [0], .null),
  (730, .iload 4, 2, [4], .null),
  (732, .iconst 1, 1, [], .int 1),
  (733, .iadd, 1, [], .null)]
def gc_162_11 : List (Nat × gI) := [(734, .iaload, 1, [], .null),
  (735, .aload_n 0, 1, [0], .null),
  (736, .iload 4, 2, [4], .null),
  (738, .iconst 2, 1, [], .int 2),
  (739, .iadd, 1, [], .null),
  (740, .iaload, 1, [], .null),
  (741, .invokevirtual 84, 3, [63, 3, 0, 630, 631, 721], .null),
  (744, .aload_n 2, 1, [2], .null),
  (745, .aload_n 0, 1, [0], .null),
  (746, .iload 4, 2, [4], .null),
  (748, .iconst 1, 1, [], .int 1),
  (749, .iadd, 1, [], .null),
  (750, .iaload, 1, [], .null),
  (751, .aload_n 0, 1, [0], .null),
  (752, .iload 4, 2, [4], .null),
  (754, .iconst 2, 1, [], .int 2),
  (755, .iadd, 1, [], .null),
  (756, .iaload, 1, [], .null),
  (757, .invokevirtual 87, 3, [141, 3, 0, 1197, 1198, 1288], .null),
  (760, .if_icmp .eq 359, 3, [1119], .null),
  (763, .iconst 0, 1, [], .int 0),
  (764, .ireturn, 1, [], .null),
  (765, .aload_n 1, 1, [1], .null),
  (766, .aload_n 0, 1, [0], .null),
  (767, .iload 4, 2, [4], .null),
  (769, .iconst 1, 1, [], .int 1),
  (770, .iadd, 1, [], .null),
  (771, .iaload, 1, [], .null),
  (772, .invokevirtual 88, 3, [66, 2, 0, 642, 643, 733], .null),
  (775, .aload_n 2, 1, [2], .null),
  (776, .aload_n 0, 1, [0], .null),
  (777, .iload 4, 2, [4], .null),
  (779, .iconst 1, 1, [], .int 1),
  (780, .iadd, 1, [], .null),
  (781, .iaload, 1, [], .null),
  (782, .invokevirtual 91, 3, [143, 2, 0, 1205, 1206, 1296], .null),
  (785, .if_icmp .eq 334, 3, [1119], .null),
  (788, .iconst 0, 1, [], .int 0),
  (789, .ireturn, 1, [], .null),
  (790, .aload_n 1, 1, [1], .null)]
def gc_162_12 : List (Nat × gI) := [(791, .aload_n 0, 1, [0], .null),
  (792, .iload 4, 2, [4], .null),
  (794, .iconst 1, 1, [], .int 1),
  (795, .iadd, 1, [], .null),
  (796, .iaload, 1, [], .null),
  (797, .invokevirtual 92, 3, [68, 2, 0, 650, 651, 741], .null),
  (800, .aload_n 2, 1, [2], .null),
  (801, .aload_n 0, 1, [0], .null),
  (802, .iload 4, 2, [4], .null),
  (804, .iconst 1, 1, [], .int 1),
  (805, .iadd, 1, [], .null),
  (806, .iaload, 1, [], .null),
  (807, .invokevirtual 95, 3, [145, 2, 0, 1213, 1214, 1304], .null),
  (810, .if_icmp .eq 309, 3, [1119], .null),
  (813, .iconst 0, 1, [], .int 0),
  (814, .ireturn, 1, [], .null),
  (815, .aload_n 1, 1, [1], .null),
  (816, .aload_n 0, 1, [0], .null),
  (817, .iload 4, 2, [4], .null),
  (819, .iconst 1, 1, [], .int 1),
  (820, .iadd, 1, [], .null),
  (821, .iaload, 1, [], .null),
  (822, .invokevirtual 96, 3, [69, 2, 0, 654, 655, 745], .null),
  (825, .aload_n 2, 1, [2], .null),
  (826, .aload_n 0, 1, [0], .null),
  (827, .iload 4, 2, [4], .null),
  (829, .iconst 1, 1, [], .int 1),
  (830, .iadd, 1, [], .null),
  (831, .iaload, 1, [], .null),
  (832, .invokevirtual 99, 3, [146, 2, 0, 1217, 1218, 1308], .null),
  (835, .if_icmp .eq 284, 3, [1119], .null),
  (838, .iconst 0, 1, [], .int 0),
  (839, .ireturn, 1, [], .null),
  (840, .aload_n 1, 1, [1], .null),
  (841, .aload_n 0, 1, [0], .null),
  (842, .iload 4, 2, [4], .null),
  (844, .iconst 1, 1, [], .int 1),
  (845, .iadd, 1, [], .null),
  (846, .iaload, 1, [], .null),
  (847, .aload_n 0, 1, [0], .null)]
def gc_162_13 : List (Nat × gI) := [(848, .iload 4, 2, [4], .null),
  (850, .iconst 2, 1, [], .int 2),
  (851, .iadd, 1, [], .null),
  (852, .iaload, 1, [], .null),
  (853, .aload_n 0, 1, [0], .null),
  (854, .iload 4, 2, [4], .null),
  (856, .iconst 3, 1, [], .int 3),
  (857, .iadd, 1, [], .null),
  (858, .iaload, 1, [], .null),
  (859, .invokevirtual 100, 3, [70, 4, 0, 658, 659, 749], .null),
  (862, .aload_n 2, 1, [2], .null),
  (863, .aload_n 0, 1, [0], .null),
  (864, .iload 4, 2, [4], .null),
  (866, .iconst 1, 1, [], .int 1),
  (867, .iadd, 1, [], .null),
  (868, .iaload, 1, [], .null),
  (869, .aload_n 0, 1, [0], .null),
  (870, .iload 4, 2, [4], .null),
  (872, .iconst 2, 1, [], .int 2),
  (873, .iadd, 1, [], .null),
  (874, .iaload, 1, [], .null),
  (875, .aload_n 0, 1, [0], .null),
  (876, .iload 4, 2, [4], .null),
  (878, .iconst 3, 1, [], .int 3),
  (879, .iadd, 1, [], .null),
  (880, .iaload, 1, [], .null),
  (881, .invokevirtual 104, 3, [147, 4, 0, 1221, 1222, 1312], .null),
  (884, .if_icmp .eq 235, 3, [1119], .null),
  (887, .iconst 0, 1, [], .int 0),
  (888, .ireturn, 1, [], .null),
  (889, .aload_n 1, 1, [1], .null),
  (890, .aload_n 0, 1, [0], .null),
  (891, .iload 4, 2, [4], .null),
  (893, .iconst 1, 1, [], .int 1),
  (894, .iadd, 1, [], .null),
  (895, .iaload, 1, [], .null),
  (896, .invokevirtual 105, 3, [72, 2, 0, 667, 668, 758], .null),
  (899, .aload_n 2, 1, [2], .null),
  (900, .aload_n 0, 1, [0], .null),
  (901, .iload 4, 2, [4], .null)]
def gc_162_14 : List (Nat × gI) := [(903, .iconst 1, 1, [], .int 1),
  (904, .iadd, 1, [], .null),
  (905, .iaload, 1, [], .null),
  (906, .invokevirtual 108, 3, [148, 2, 0, 1225, 1226, 1316], .null),
  (909, .if_icmp .eq 210, 3, [1119], .null),
  (912, .iconst 0, 1, [], .int 0),
  (913, .ireturn, 1, [], .null),
  (914, .aload_n 1, 1, [1], .null),
  (915, .aload_n 0, 1, [0], .null),
  (916, .iload 4, 2, [4], .null),
  (918, .iconst 1, 1, [], .int 1),
  (919, .iadd, 1, [], .null),
  (920, .iaload, 1, [], .null),
  (921, .invokevirtual 109, 3, [76, 2, 0, 685, 686, 776], .null),
  (924, .aload_n 2, 1, [2], .null),
  (925, .aload_n 0, 1, [0], .null),
  (926, .iload 4, 2, [4], .null),
  (928, .iconst 1, 1, [], .int 1),
  (929, .iadd, 1, [], .null),
  (930, .iaload, 1, [], .null),
  (931, .invokevirtual 112, 3, [150, 2, 0, 1233, 1234, 1324], .null),
  (934, .if_icmp .eq 185, 3, [1119], .null),
  (937, .iconst 0, 1, [], .int 0),
  (938, .ireturn, 1, [], .null),
  (939, .aload_n 1, 1, [1], .null),
  (940, .aload_n 0, 1, [0], .null),
  (941, .iload 4, 2, [4], .null),
  (943, .iconst 1, 1, [], .int 1),
  (944, .iadd, 1, [], .null),
  (945, .iaload, 1, [], .null),
  (946, .invokevirtual 113, 3, [78, 2, 0, 694, 695, 785], .null),
  (949, .aload_n 2, 1, [2], .null),
  (950, .aload_n 0, 1, [0], .null),
  (951, .iload 4, 2, [4], .null),
  (953, .iconst 1, 1, [], .int 1),
  (954, .iadd, 1, [], .null),
  (955, .iaload, 1, [], .null),
  (956, .invokevirtual 116, 3, [151, 2, 0, 1237, 1238, 1328], .null),
  (959, .if_icmp .eq 160, 3, [1119], .null),
  (962, .iconst 0, 1, [], .int 0)]
def gc_162_15 : List (Nat × gI) := [(963, .ireturn, 1, [], .null),
  (964, .aload_n 1, 1, [1], .null),
  (965, .aload_n 0, 1, [0], .null),
  (966, .iload 4, 2, [4], .null),
  (968, .iconst 1, 1, [], .int 1),
  (969, .iadd, 1, [], .null),
  (970, .iaload, 1, [], .null),
  (971, .invokevirtual 117, 3, [85, 2, 0, 728, 729, 819], .null),
  (974, .aload_n 2, 1, [2], .null),
  (975, .aload_n 0, 1, [0], .null),
  (976, .iload 4, 2, [4], .null),
  (978, .iconst 1, 1, [], .int 1),
  (979, .iadd, 1, [], .null),
  (980, .iaload, 1, [], .null),
  (981, .invokevirtual 120, 3, [156, 2, 0, 1257, 1258, 1348], .null),
  (984, .if_icmp .eq 135, 3, [1119], .null),
  (987, .iconst 0, 1, [], .int 0),
  (988, .ireturn, 1, [], .null),
  (989, .aload_n 1, 1, [1], .null),
  (990, .aload_n 0, 1, [0], .null),
  (991, .iload 4, 2, [4], .null),
  (993, .iconst 1, 1, [], .int 1),
  (994, .iadd, 1, [], .null),
  (995, .iaload, 1, [], .null),
  (996, .aload_n 0, 1, [0], .null),
  (997, .iload 4, 2, [4], .null),
  (999, .iconst 2, 1, [], .int 2),
  (1000, .iadd, 1, [], .null),
  (1001, .iaload, 1, [], .null),
  (1002, .invokevirtual 121, 3, [86, 3, 0, 732, 733, 823], .null),
  (1005, .aload_n 2, 1, [2], .null),
  (1006, .aload_n 0, 1, [0], .null),
  (1007, .iload 4, 2, [4], .null),
  (1009, .iconst 1, 1, [], .int 1),
  (1010, .iadd, 1, [], .null),
  (1011, .iaload, 1, [], .null),
  (1012, .aload_n 0, 1, [0], .null),
  (1013, .iload 4, 2, [4], .null),
  (1015, .iconst 2, 1, [], .int 2),
  (1016, .iadd, 1, [], .null)]
def gc_162_16 : List (Nat × gI) := [(1017, .iaload, 1, [], .null),
  (1018, .invokevirtual 124, 3, [157, 3, 0, 1261, 1262, 1352], .null),
  (1021, .if_icmp .eq 98, 3, [1119], .null),
  (1024, .iconst 0, 1, [], .int 0),
  (1025, .ireturn, 1, [], .null),
  (1026, .aload_n 1, 1, [1], .null),
  (1027, .aload_n 0, 1, [0], .null),
  (1028, .iload 4, 2, [4], .null),
  (1030, .iconst 1, 1, [], .int 1),
  (1031, .iadd, 1, [], .null),
  (1032, .iaload, 1, [], .null),
  (1033, .aload_n 0, 1, [0], .null),
  (1034, .iload 4, 2, [4], .null),
  (1036, .iconst 2, 1, [], .int 2),
  (1037, .iadd, 1, [], .null),
  (1038, .iaload, 1, [], .null),
  (1039, .aload_n 3, 1, [3], .null),
  (1040, .invokestatic 125, 3, [1003, 4, 0, 752, 753, 0], .null),
  (1043, .istore 5, 2, [5], .null),
  (1045, .aload_n 2, 1, [2], .null),
  (1046, .aload_n 0, 1, [0], .null),
  (1047, .iload 4, 2, [4], .null),
  (1049, .iconst 1, 1, [], .int 1),
  (1050, .iadd, 1, [], .null),
  (1051, .iaload, 1, [], .null),
  (1052, .aload_n 0, 1, [0], .null),
  (1053, .iload 4, 2, [4], .null),
  (1055, .iconst 2, 1, [], .int 2),
  (1056, .iadd, 1, [], .null),
  (1057, .iaload, 1, [], .null),
  (1058, .invokevirtual 130, 3, [158, 3, 0, 1265, 1266, 1356], .null),
  (1061, .istore 6, 2, [6], .null),
  (1063, .aload_n 2, 1, [2], .null),
  (1064, .invokevirtual 131, 3, [92, 1, 0, 825, 826, 916], .null),
  (1067, .iload 5, 2, [5], .null),
  (1069, .if_icmp .eq 5, 3, [1074], .null),
  (1072, .iconst 0, 1, [], .int 0),
  (1073, .ireturn, 1, [], .null),
  (1074, .iload 5, 2, [5], .null),
  (1076, .ifCond .ne 15, 3, [1091], .null)]
def gc_162_17 : List (Nat × gI) := [(1079, .aload_n 3, 1, [3], .null),
  (1080, .iconst 0, 1, [], .int 0),
  (1081, .laload, 1, [], .null),
  (1082, .iload 6, 2, [6], .null),
  (1084, .i2l, 1, [], .null),
  (1085, .lcmp, 1, [], .null),
  (1086, .ifCond .eq 5, 3, [1091], .null),
  (1089, .iconst 0, 1, [], .int 0),
  (1090, .ireturn, 1, [], .null),
  (1091, .goto 28, 3, [1119], .null),
  (1094, .aload_n 1, 1, [1], .null),
  (1095, .aload_n 0, 1, [0], .null),
  (1096, .iload 4, 2, [4], .null),
  (1098, .iconst 1, 1, [], .int 1),
  (1099, .iadd, 1, [], .null),
  (1100, .iaload, 1, [], .null),
  (1101, .invokevirtual 134, 3, [87, 2, 0, 736, 737, 827], .null),
  (1104, .aload_n 2, 1, [2], .null),
  (1105, .aload_n 0, 1, [0], .null),
  (1106, .iload 4, 2, [4], .null),
  (1108, .iconst 1, 1, [], .int 1),
  (1109, .iadd, 1, [], .null),
  (1110, .iaload, 1, [], .null),
  (1111, .invokevirtual 137, 3, [159, 2, 0, 1269, 1270, 1360], .null),
  (1114, .if_icmp .eq 5, 3, [1119], .null),
  (1117, .iconst 0, 1, [], .int 0),
  (1118, .ireturn, 1, [], .null),
  (1119, .iinc 4 7, 3, [4], .int 7),
  (1122, .goto (-1099), 3, [23], .null),
  (1125, .iconst 1, 1, [], .int 1),
  (1126, .ireturn, 1, [], .null)]
def gc_162 : List (Nat × gI) := gc_162_0 ++ (gc_162_1 ++ (gc_162_2 ++ (gc_162_3 ++ (gc_162_4 ++ (gc_162_5 ++ (gc_162_6 ++ (gc_162_7 ++ (gc_162_8 ++ (gc_162_9 ++ (gc_162_10 ++ (gc_162_11 ++ (gc_162_12 ++ (gc_162_13 ++ (gc_162_14 ++ (gc_162_15 ++ (gc_162_16 ++ (gc_162_17)))))))))))))))))
def gro_0 : gR := (⟨"GiftShops", "<init>", "()V"⟩, prog_1_method_1_code, 2, none, gc_0)
def gro_1 : gR := (⟨"GiftShops$Shop", "<init>", "()V"⟩, prog_7_method_1_code, 1, none, gc_1)
def gro_2 : gR := (⟨"GiftShops$Tape", "<init>", "()V"⟩, prog_8_method_1_code, 1, none, gc_2)
def gro_3 : gR := (⟨"GiftShops$Rules", "<init>", "()V"⟩, prog_4_method_1_code, 1, none, gc_3)
def gro_4 : gR := (⟨"GiftShops$Parser", "<init>", "(LGiftShops$Tape;LGiftShops$Rules;)V"⟩, prog_2_method_1_code, 3, none, gc_4)
def gro_5 : gR := (⟨"GiftShops$Scanner", "<init>", "(LGiftShops$Tape;)V"⟩, prog_6_method_1_code, 2, none, gc_5)
def gro_6 : gR := (⟨"GiftShops$Roads", "<init>", "()V"⟩, prog_3_method_1_code, 2, none, gc_6)
def gro_7 : gR := (⟨"GiftShops$Turns", "<init>", "()V"⟩, prog_10_method_1_code, 1, none, gc_7)
def gro_8 : gR := (⟨"GiftShops", "give", "(IIII)I"⟩, prog_1_method_2_code, 6, (some .int), gc_8)
def gro_9 : gR := (⟨"GiftShops", "within", "(II)Z"⟩, prog_1_method_28_code, 2, (some .boolean), gc_9)
def gro_10 : gR := (⟨"GiftShops$Thing", "<init>", "(IIII)V"⟩, prog_9_method_1_code, 5, none, gc_10)
def gro_11 : gR := (⟨"GiftShops", "shelf", "(II)Z"⟩, prog_1_method_3_code, 3, (some .boolean), gc_11)
def gro_12 : gR := (⟨"GiftShops", "base", "(II)Z"⟩, prog_1_method_4_code, 3, (some .boolean), gc_12)
def gro_13 : gR := (⟨"GiftShops", "feed", "(JJJ)I"⟩, prog_1_method_5_code, 7, (some .int), gc_13)
def gro_14 : gR := (⟨"GiftShops$Tape", "addBytes", "(J)V"⟩, prog_8_method_2_code, 6, none, gc_14)
def gro_15 : gR := (⟨"GiftShops", "text", "()I"⟩, prog_1_method_6_code, 3, (some .int), gc_15)
def gro_16 : gR := (⟨"GiftShops$Parser", "readInto", "(LGiftShops$Rules;)I"⟩, prog_2_method_2_code, 3, (some .int), gc_16)
def gro_17 : gR := (⟨"GiftShops$Rules", "clear", "()V"⟩, prog_4_method_2_code, 1, none, gc_17)
def gro_18 : gR := (⟨"GiftShops$Scanner", "begin", "()V"⟩, prog_6_method_2_code, 1, none, gc_18)
def gro_19 : gR := (⟨"GiftShops$Scanner", "next", "()V"⟩, prog_6_method_3_code, 2, none, gc_19)
def gro_20 : gR := (⟨"GiftShops$Scanner", "isBlank", "(C)Z"⟩, prog_6_method_12_code, 1, (some .boolean), gc_20)
def gro_21 : gR := (⟨"GiftShops$Scanner", "behindRun", "(CC)I"⟩, prog_6_method_4_code, 4, (some .int), gc_21)
def gro_22 : gR := (⟨"GiftShops$Scanner", "wordToken", "()I"⟩, prog_6_method_5_code, 2, (some .int), gc_22)
def gro_23 : gR := (⟨"GiftShops$Scanner", "spells", "(I)Z"⟩, prog_6_method_6_code, 4, (some .boolean), gc_23)
def gro_24 : gR := (⟨"GiftShops$Scanner", "numberToken", "()I"⟩, prog_6_method_7_code, 2, (some .int), gc_24)
def gro_25 : gR := (⟨"GiftShops$Parser", "readLine", "()Z"⟩, prog_2_method_3_code, 2, (some .boolean), gc_25)
def gro_26 : gR := (⟨"GiftShops$Scanner", "isWay", "()Z"⟩, prog_6_method_8_code, 1, (some .boolean), gc_26)
def gro_27 : gR := (⟨"GiftShops$Parser", "wrong", "(I)Z"⟩, prog_2_method_9_code, 2, (some .boolean), gc_27)
def gro_28 : gR := (⟨"GiftShops$Scanner", "wayTold", "()I"⟩, prog_6_method_9_code, 1, (some .int), gc_28)
def gro_29 : gR := (⟨"GiftShops$Parser", "take", "(I)Z"⟩, prog_2_method_8_code, 2, (some .boolean), gc_29)
def gro_30 : gR := (⟨"GiftShops$Parser", "readTests", "(I)Z"⟩, prog_2_method_4_code, 3, (some .boolean), gc_30)
def gro_31 : gR := (⟨"GiftShops$Parser", "readTest", "(I)Z"⟩, prog_2_method_5_code, 3, (some .boolean), gc_31)
def gro_32 : gR := (⟨"GiftShops$Parser", "readSum", "(I)Z"⟩, prog_2_method_6_code, 4, (some .boolean), gc_32)
def gro_33 : gR := (⟨"GiftShops$Parser", "readPart", "(I)Z"⟩, prog_2_method_7_code, 4, (some .boolean), gc_33)
def gro_34 : gR := (⟨"GiftShops$Scanner", "isFact", "()Z"⟩, prog_6_method_10_code, 1, (some .boolean), gc_34)
def gro_35 : gR := (⟨"GiftShops$Rules", "add", "(I)V"⟩, prog_4_method_3_code, 2, none, gc_35)
def gro_36 : gR := (⟨"GiftShops$Scanner", "factTold", "()I"⟩, prog_6_method_11_code, 1, (some .int), gc_36)
def gro_37 : gR := (⟨"GiftShops$Rules", "endLine", "(I)V"⟩, prog_4_method_4_code, 2, none, gc_37)
def gro_38 : gR := (⟨"GiftShops", "sort", "(II)I"⟩, prog_1_method_7_code, 4, (some .int), gc_38)
def gro_39 : gR := (⟨"GiftShops", "sortFor", "(LGiftShops$Thing;I)V"⟩, prog_1_method_32_code, 4, none, gc_39)
def gro_40 : gR := (⟨"GiftShops", "wayByText", "(LGiftShops$Thing;)I"⟩, prog_1_method_31_code, 2, (some .int), gc_40)
def gro_41 : gR := (⟨"GiftShops", "seasonNow", "()I"⟩, prog_1_method_30_code, 1, (some .int), gc_41)
def gro_42 : gR := (⟨"GiftShops$Rules", "wayFor", "([I)I"⟩, prog_4_method_5_code, 4, (some .int), gc_42)
def gro_43 : gR := (⟨"GiftShops$Rules", "valueOf", "(II[I)I"⟩, prog_4_method_6_code, 7, (some .int), gc_43)
def gro_44 : gR := (⟨"GiftShops$Rules", "joined", "(III)I"⟩, prog_4_method_7_code, 3, (some .int), gc_44)
def gro_45 : gR := (⟨"GiftShops$Shop", "hasRoom", "()Z"⟩, prog_7_method_2_code, 1, (some .boolean), gc_45)
def gro_46 : gR := (⟨"GiftShops", "comeOnShelf", "(LGiftShops$Thing;II)V"⟩, prog_1_method_33_code, 4, none, gc_46)
def gro_47 : gR := (⟨"GiftShops", "says", "(III)I"⟩, prog_1_method_8_code, 4, (some .int), gc_47)
def gro_48 : gR := (⟨"GiftShops", "habit", "(I)I"⟩, prog_1_method_9_code, 2, (some .int), gc_48)
def gro_49 : gR := (⟨"GiftShops", "weeks", "(I)I"⟩, prog_1_method_10_code, 3, (some .int), gc_49)
def gro_50 : gR := (⟨"GiftShops", "endWeek", "()V"⟩, prog_1_method_35_code, 2, none, gc_50)
def gro_51 : gR := (⟨"GiftShops", "endWeekOnShelf", "(LGiftShops$Thing;)V"⟩, prog_1_method_36_code, 2, none, gc_51)
def gro_52 : gR := (⟨"GiftShops", "leaveShelf", "(LGiftShops$Thing;I)V"⟩, prog_1_method_34_code, 3, none, gc_52)
def gro_53 : gR := (⟨"GiftShops", "beginSeason", "()V"⟩, prog_1_method_37_code, 4, none, gc_53)
def gro_54 : gR := (⟨"GiftShops", "firstShopWithRoom", "()I"⟩, prog_1_method_38_code, 2, (some .int), gc_54)
def gro_55 : gR := (⟨"GiftShops", "price", "(I)I"⟩, prog_1_method_11_code, 2, (some .int), gc_55)
def gro_56 : gR := (⟨"GiftShops", "liesOnShelf", "(I)Z"⟩, prog_1_method_29_code, 2, (some .boolean), gc_56)
def gro_57 : gR := (⟨"GiftShops", "priceNow", "(LGiftShops$Thing;)I"⟩, prog_1_method_39_code, 3, (some .int), gc_57)
def gro_58 : gR := (⟨"GiftShops", "sell", "(I)I"⟩, prog_1_method_12_code, 3, (some .int), gc_58)
def gro_59 : gR := (⟨"GiftShops$Sale", "<init>", "(LGiftShops$Thing;II)V"⟩, prog_5_method_1_code, 4, none, gc_59)
def gro_60 : gR := (⟨"GiftShops", "undo", "(I)Z"⟩, prog_1_method_13_code, 3, (some .boolean), gc_60)
def gro_61 : gR := (⟨"GiftShops", "lose", "(I)Z"⟩, prog_1_method_14_code, 3, (some .boolean), gc_61)
def gro_62 : gR := (⟨"GiftShops", "thefts", "(II)I"⟩, prog_1_method_15_code, 3, (some .int), gc_62)
def gro_63 : gR := (⟨"GiftShops", "worth", "(II)I"⟩, prog_1_method_16_code, 3, (some .int), gc_63)
def gro_64 : gR := (⟨"GiftShops", "worthIn", "(LGiftShops$Thing;I)I"⟩, prog_1_method_40_code, 3, (some .int), gc_64)
def gro_65 : gR := (⟨"GiftShops$Shop", "expected", "(II)I"⟩, prog_7_method_3_code, 3, (some .int), gc_65)
def gro_66 : gR := (⟨"GiftShops", "where", "(I)I"⟩, prog_1_method_17_code, 2, (some .int), gc_66)
def gro_67 : gR := (⟨"GiftShops", "betterShop", "(LGiftShops$Thing;)I"⟩, prog_1_method_41_code, 5, (some .int), gc_67)
def gro_68 : gR := (⟨"GiftShops", "move", "(I)Z"⟩, prog_1_method_18_code, 4, (some .boolean), gc_68)
def gro_69 : gR := (⟨"GiftShops", "van", "(I)Z"⟩, prog_1_method_19_code, 2, (some .boolean), gc_69)
def gro_70 : gR := (⟨"GiftShops", "way", "(III)Z"⟩, prog_1_method_20_code, 4, (some .boolean), gc_70)
def gro_71 : gR := (⟨"GiftShops$Roads", "tell", "(III)Z"⟩, prog_3_method_2_code, 5, (some .boolean), gc_71)
def gro_72 : gR := (⟨"GiftShops", "round", "(I)I"⟩, prog_1_method_21_code, 2, (some .int), gc_72)
def gro_73 : gR := (⟨"GiftShops$Roads", "shortestRound", "(I)I"⟩, prog_3_method_3_code, 3, (some .int), gc_73)
def gro_74 : gR := (⟨"GiftShops$Roads", "fillPart", "(I)V"⟩, prog_3_method_4_code, 3, none, gc_74)
def gro_75 : gR := (⟨"GiftShops$Roads", "leastInto", "(II)I"⟩, prog_3_method_5_code, 5, (some .int), gc_75)
def gro_76 : gR := (⟨"GiftShops", "helper", "(I)I"⟩, prog_1_method_22_code, 2, (some .int), gc_76)
def gro_77 : gR := (⟨"GiftShops$Turns", "addHelper", "(I)I"⟩, prog_10_method_2_code, 2, (some .int), gc_77)
def gro_78 : gR := (⟨"GiftShops", "least", "(I)I"⟩, prog_1_method_23_code, 2, (some .int), gc_78)
def gro_79 : gR := (⟨"GiftShops$Turns", "leastTurns", "(I)I"⟩, prog_10_method_3_code, 4, (some .int), gc_79)
def gro_80 : gR := (⟨"GiftShops$Turns", "eachDayHasTwo", "(I)Z"⟩, prog_10_method_4_code, 3, (some .boolean), gc_80)
def gro_81 : gR := (⟨"GiftShops$Turns", "helpersOn", "(I)I"⟩, prog_10_method_5_code, 4, (some .int), gc_81)
def gro_82 : gR := (⟨"GiftShops$Turns", "fillPlace", "(II)I"⟩, prog_10_method_6_code, 4, (some .int), gc_82)
def gro_83 : gR := (⟨"GiftShops$Turns", "findHelper", "(III)Z"⟩, prog_10_method_7_code, 6, (some .boolean), gc_83)
def gro_84 : gR := (⟨"GiftShops$Turns", "handOver", "(III)Z"⟩, prog_10_method_8_code, 5, (some .boolean), gc_84)
def gro_85 : gR := (⟨"GiftShops", "rate", "(I)Z"⟩, prog_1_method_24_code, 3, (some .boolean), gc_85)
def gro_86 : gR := (⟨"GiftShops", "relief", "(II)I"⟩, prog_1_method_25_code, 6, (some .int), gc_86)
def gro_87 : gR := (⟨"GiftShops", "count", "(I)I"⟩, prog_1_method_27_code, 2, (some .int), gc_87)
def gro_88 : gR := (⟨"GiftShops", "validSales", "()I"⟩, prog_1_method_42_code, 3, (some .int), gc_88)
def gro_89 : gR := (⟨"GiftShops", "validSum", "()I"⟩, prog_1_method_43_code, 3, (some .int), gc_89)
def gro_90 : gR := (⟨"GiftShops", "thingsThatAre", "(I)I"⟩, prog_1_method_44_code, 4, (some .int), gc_90)
def gro_91 : gR := (⟨"GiftShops", "look", "(II)I"⟩, prog_1_method_26_code, 4, (some .int), gc_91)
def gro_92 : gR := (⟨"GiftShopsModel", "thrown", "()I"⟩, prog_12_method_1_code, 1, (some .int), gc_92)
def gro_93 : gR := (⟨"GiftShopsModel", "feed", "(JJJ)I"⟩, prog_12_method_2_code, 7, (some .int), gc_93)
def gro_94 : gR := (⟨"GiftShopsModel", "lay", "(J)V"⟩, prog_12_method_3_code, 5, none, gc_94)
def gro_95 : gR := (⟨"GiftShopsModel", "<init>", "()V"⟩, prog_12_method_4_code, 2, none, gc_95)
def gro_96 : gR := (⟨"GiftShopsModel", "text", "()I"⟩, prog_12_method_18_code, 1, (some .int), gc_96)
def gro_97 : gR := (⟨"GiftShopsModel", "cutAll", "()V"⟩, prog_12_method_9_code, 7, none, gc_97)
def gro_98 : gR := (⟨"GiftShopsModel", "isLetter", "(I)Z"⟩, prog_12_method_5_code, 1, (some .boolean), gc_98)
def gro_99 : gR := (⟨"GiftShopsModel", "rank", "(I)I"⟩, prog_12_method_7_code, 1, (some .int), gc_99)
def gro_100 : gR := (⟨"GiftShopsModel", "isDigit", "(I)Z"⟩, prog_12_method_6_code, 1, (some .boolean), gc_100)
def gro_101 : gR := (⟨"GiftShopsModel", "isSignOf", "(I)Z"⟩, prog_12_method_8_code, 1, (some .boolean), gc_101)
def gro_102 : gR := (⟨"GiftShopsModel", "line", "()V"⟩, prog_12_method_19_code, 4, none, gc_102)
def gro_103 : gR := (⟨"GiftShopsModel", "isWord", "(I)Z"⟩, prog_12_method_12_code, 2, (some .boolean), gc_103)
def gro_104 : gR := (⟨"GiftShopsModel", "wrong", "(I)V"⟩, prog_12_method_10_code, 2, none, gc_104)
def gro_105 : gR := (⟨"GiftShopsModel", "takeWord", "(I)V"⟩, prog_12_method_16_code, 2, none, gc_105)
def gro_106 : gR := (⟨"GiftShopsModel", "hasWord", "(I)Z"⟩, prog_12_method_15_code, 3, (some .boolean), gc_106)
def gro_107 : gR := (⟨"GiftShopsModel", "opens", "()V"⟩, prog_12_method_20_code, 1, none, gc_107)
def gro_108 : gR := (⟨"GiftShopsModel", "part", "()Z"⟩, prog_12_method_22_code, 2, (some .boolean), gc_108)
def gro_109 : gR := (⟨"GiftShopsModel", "partWord", "()I"⟩, prog_12_method_21_code, 2, (some .int), gc_109)
def gro_110 : gR := (⟨"GiftShopsModel", "isSign", "(I)Z"⟩, prog_12_method_11_code, 2, (some .boolean), gc_110)
def gro_111 : gR := (⟨"GiftShopsModel", "hasSign", "(I)Z"⟩, prog_12_method_14_code, 3, (some .boolean), gc_111)
def gro_112 : gR := (⟨"GiftShopsModel", "emit", "(II)V"⟩, prog_12_method_17_code, 3, none, gc_112)
def gro_113 : gR := (⟨"GiftShopsModel", "goesOnBehind", "()Z"⟩, prog_12_method_23_code, 1, (some .boolean), gc_113)
def gro_114 : gR := (⟨"GiftShopsModel", "takeSign", "(I)V"⟩, prog_12_method_13_code, 2, none, gc_114)
def gro_115 : gR := (⟨"GiftShopsModel", "give", "(IIII)I"⟩, prog_12_method_26_code, 5, (some .int), gc_115)
def gro_116 : gR := (⟨"GiftShopsModel", "within", "(III)Z"⟩, prog_12_method_25_code, 3, (some .boolean), gc_116)
def gro_117 : gR := (⟨"GiftShopsModel", "shelf", "(II)Z"⟩, prog_12_method_30_code, 3, (some .boolean), gc_117)
def gro_118 : gR := (⟨"GiftShopsModel", "isShop", "(I)Z"⟩, prog_12_method_29_code, 1, (some .boolean), gc_118)
def gro_119 : gR := (⟨"GiftShopsModel", "base", "(II)Z"⟩, prog_12_method_31_code, 3, (some .boolean), gc_119)
def gro_120 : gR := (⟨"GiftShopsModel", "sort", "(II)I"⟩, prog_12_method_38_code, 3, (some .int), gc_120)
def gro_121 : gR := (⟨"GiftShopsModel", "isThing", "(I)Z"⟩, prog_12_method_27_code, 2, (some .boolean), gc_121)
def gro_122 : gR := (⟨"GiftShopsModel", "sorts", "(II)V"⟩, prog_12_method_37_code, 4, none, gc_122)
def gro_123 : gR := (⟨"GiftShopsModel", "wayOf", "(I)I"⟩, prog_12_method_33_code, 3, (some .int), gc_123)
def gro_124 : gR := (⟨"GiftShopsModel", "seasonNow", "()I"⟩, prog_12_method_32_code, 1, (some .int), gc_124)
def gro_125 : gR := (⟨"GiftShopsModel", "valueOf", "(I)I"⟩, prog_12_method_24_code, 7, (some .int), gc_125)
def gro_126 : gR := (⟨"GiftShopsModel", "hasRoom", "(I)Z"⟩, prog_12_method_35_code, 2, (some .boolean), gc_126)
def gro_127 : gR := (⟨"GiftShopsModel", "onShelf", "(I)I"⟩, prog_12_method_34_code, 4, (some .int), gc_127)
def gro_128 : gR := (⟨"GiftShopsModel", "comesOn", "(II)V"⟩, prog_12_method_36_code, 3, none, gc_128)
def gro_129 : gR := (⟨"GiftShopsModel", "says", "(III)I"⟩, prog_12_method_39_code, 5, (some .int), gc_129)
def gro_130 : gR := (⟨"GiftShopsModel", "habit", "(I)I"⟩, prog_12_method_40_code, 2, (some .int), gc_130)
def gro_131 : gR := (⟨"GiftShopsModel", "weeks", "(I)I"⟩, prog_12_method_43_code, 3, (some .int), gc_131)
def gro_132 : gR := (⟨"GiftShopsModel", "week", "()V"⟩, prog_12_method_41_code, 2, none, gc_132)
def gro_133 : gR := (⟨"GiftShopsModel", "firstWithRoom", "()I"⟩, prog_12_method_42_code, 2, (some .int), gc_133)
def gro_134 : gR := (⟨"GiftShopsModel", "price", "(I)I"⟩, prog_12_method_45_code, 2, (some .int), gc_134)
def gro_135 : gR := (⟨"GiftShopsModel", "isOn", "(I)Z"⟩, prog_12_method_28_code, 2, (some .boolean), gc_135)
def gro_136 : gR := (⟨"GiftShopsModel", "priceOf", "(I)I"⟩, prog_12_method_44_code, 3, (some .int), gc_136)
def gro_137 : gR := (⟨"GiftShopsModel", "sell", "(I)I"⟩, prog_12_method_46_code, 2, (some .int), gc_137)
def gro_138 : gR := (⟨"GiftShopsModel", "undo", "(I)Z"⟩, prog_12_method_47_code, 2, (some .boolean), gc_138)
def gro_139 : gR := (⟨"GiftShopsModel", "lose", "(I)Z"⟩, prog_12_method_48_code, 2, (some .boolean), gc_139)
def gro_140 : gR := (⟨"GiftShopsModel", "thefts", "(II)I"⟩, prog_12_method_49_code, 5, (some .int), gc_140)
def gro_141 : gR := (⟨"GiftShopsModel", "worth", "(II)I"⟩, prog_12_method_51_code, 3, (some .int), gc_141)
def gro_142 : gR := (⟨"GiftShopsModel", "weighs", "(III)I"⟩, prog_12_method_50_code, 6, (some .int), gc_142)
def gro_143 : gR := (⟨"GiftShopsModel", "where", "(I)I"⟩, prog_12_method_53_code, 2, (some .int), gc_143)
def gro_144 : gR := (⟨"GiftShopsModel", "whereTo", "(I)I"⟩, prog_12_method_52_code, 6, (some .int), gc_144)
def gro_145 : gR := (⟨"GiftShopsModel", "move", "(I)Z"⟩, prog_12_method_54_code, 3, (some .boolean), gc_145)
def gro_146 : gR := (⟨"GiftShopsModel", "van", "(I)Z"⟩, prog_12_method_55_code, 2, (some .boolean), gc_146)
def gro_147 : gR := (⟨"GiftShopsModel", "way", "(III)Z"⟩, prog_12_method_56_code, 4, (some .boolean), gc_147)
def gro_148 : gR := (⟨"GiftShopsModel", "round", "(I)I"⟩, prog_12_method_58_code, 2, (some .int), gc_148)
def gro_149 : gR := (⟨"GiftShopsModel", "goes", "(II)I"⟩, prog_12_method_57_code, 6, (some .int), gc_149)
def gro_150 : gR := (⟨"GiftShopsModel", "helper", "(I)I"⟩, prog_12_method_59_code, 2, (some .int), gc_150)
def gro_151 : gR := (⟨"GiftShopsModel", "least", "(I)I"⟩, prog_12_method_64_code, 2, (some .int), gc_151)
def gro_152 : gR := (⟨"GiftShopsModel", "canBe", "(I)Z"⟩, prog_12_method_63_code, 4, (some .boolean), gc_152)
def gro_153 : gR := (⟨"GiftShopsModel", "finds", "(I)Z"⟩, prog_12_method_61_code, 3, (some .boolean), gc_153)
def gro_154 : gR := (⟨"GiftShopsModel", "loadOf", "(I)I"⟩, prog_12_method_60_code, 4, (some .int), gc_154)
def gro_155 : gR := (⟨"GiftShopsModel", "givesWay", "(I)Z"⟩, prog_12_method_62_code, 3, (some .boolean), gc_155)
def gro_156 : gR := (⟨"GiftShopsModel", "rate", "(I)Z"⟩, prog_12_method_65_code, 2, (some .boolean), gc_156)
def gro_157 : gR := (⟨"GiftShopsModel", "relief", "(II)I"⟩, prog_12_method_66_code, 5, (some .int), gc_157)
def gro_158 : gR := (⟨"GiftShopsModel", "look", "(II)I"⟩, prog_12_method_67_code, 3, (some .int), gc_158)
def gro_159 : gR := (⟨"GiftShopsModel", "count", "(I)I"⟩, prog_12_method_69_code, 5, (some .int), gc_159)
def gro_160 : gR := (⟨"GiftShopsModel", "thingsThat", "(I)I"⟩, prog_12_method_68_code, 4, (some .int), gc_160)
def gro_161 : gR := (⟨"java/lang/Integer", "bitCount", "(I)I"⟩, prog_15_method_49_code, 1, (some .int), gc_161)
def gro_162 : gR := (⟨"GiftShopsLaw", "law", "([I)Z"⟩, code, 7, (some .boolean), gc_162)
def gMT : List gR := [gro_0, gro_1, gro_2, gro_3, gro_4, gro_5, gro_6, gro_7, gro_8, gro_9, gro_10, gro_11, gro_12, gro_13, gro_14, gro_15, gro_16, gro_17, gro_18, gro_19, gro_20, gro_21, gro_22, gro_23, gro_24, gro_25, gro_26, gro_27, gro_28, gro_29, gro_30, gro_31, gro_32, gro_33, gro_34, gro_35, gro_36, gro_37, gro_38, gro_39, gro_40, gro_41, gro_42, gro_43, gro_44, gro_45, gro_46, gro_47, gro_48, gro_49, gro_50, gro_51, gro_52, gro_53, gro_54, gro_55, gro_56, gro_57, gro_58, gro_59, gro_60, gro_61, gro_62, gro_63, gro_64, gro_65, gro_66, gro_67, gro_68, gro_69, gro_70, gro_71, gro_72, gro_73, gro_74, gro_75, gro_76, gro_77, gro_78, gro_79, gro_80, gro_81, gro_82, gro_83, gro_84, gro_85, gro_86, gro_87, gro_88, gro_89, gro_90, gro_91, gro_92, gro_93, gro_94, gro_95, gro_96, gro_97, gro_98, gro_99, gro_100, gro_101, gro_102, gro_103, gro_104, gro_105, gro_106, gro_107, gro_108, gro_109, gro_110, gro_111, gro_112, gro_113, gro_114, gro_115, gro_116, gro_117, gro_118, gro_119, gro_120, gro_121, gro_122, gro_123, gro_124, gro_125, gro_126, gro_127, gro_128, gro_129, gro_130, gro_131, gro_132, gro_133, gro_134, gro_135, gro_136, gro_137, gro_138, gro_139, gro_140, gro_141, gro_142, gro_143, gro_144, gro_145, gro_146, gro_147, gro_148, gro_149, gro_150, gro_151, gro_152, gro_153, gro_154, gro_155, gro_156, gro_157, gro_158, gro_159, gro_160, gro_161, gro_162]
end
section
theorem gd_0 : ∀ q ∈ gc_0, decode prog_1_method_1_code q.1 = .ok (q.2.1, q.2.2.1) := by decide +kernel
theorem gh_0 : ∀ q ∈ gc_0, gchk "GiftShops" "<init>" q = true := by decide +kernel
theorem gi_0 : ∀ q ∈ gc_0, gchkI gMT "GiftShops" q = true := by decide +kernel
set_option maxRecDepth 100000 in
theorem gm_0 : gMOK gMT gro_0 := ⟨fun _ => List.mem_filter.mpr ⟨List.mem_append_right _ (List.mem_of_getElem? (i := 27) (by rfl)), rfl⟩, List.mem_filter.mpr ⟨List.mem_append_right _ (List.mem_of_getElem? (i := 1) (by rfl)), rfl⟩, by decide, ⟨by decide, by decide⟩, gd_0, gh_0, gi_0, by decide⟩
theorem gd_1 : ∀ q ∈ gc_1, decode prog_7_method_1_code q.1 = .ok (q.2.1, q.2.2.1) := by decide +kernel
theorem gh_1 : ∀ q ∈ gc_1, gchk "GiftShops$Shop" "<init>" q = true := by decide +kernel
theorem gi_1 : ∀ q ∈ gc_1, gchkI gMT "GiftShops$Shop" q = true := by decide +kernel
set_option maxRecDepth 100000 in
theorem gm_1 : gMOK gMT gro_1 := ⟨fun _ => List.mem_filter.mpr ⟨List.mem_append_right _ (List.mem_of_getElem? (i := 40) (by rfl)), rfl⟩, List.mem_filter.mpr ⟨List.mem_append_right _ (List.mem_of_getElem? (i := 2) (by rfl)), rfl⟩, by decide, ⟨by decide, by decide⟩, gd_1, gh_1, gi_1, by decide⟩
theorem gd_2 : ∀ q ∈ gc_2, decode prog_8_method_1_code q.1 = .ok (q.2.1, q.2.2.1) := by decide +kernel
theorem gh_2 : ∀ q ∈ gc_2, gchk "GiftShops$Tape" "<init>" q = true := by decide +kernel
theorem gi_2 : ∀ q ∈ gc_2, gchkI gMT "GiftShops$Tape" q = true := by decide +kernel
set_option maxRecDepth 100000 in
theorem gm_2 : gMOK gMT gro_2 := ⟨fun _ => List.mem_filter.mpr ⟨List.mem_append_right _ (List.mem_of_getElem? (i := 67) (by rfl)), rfl⟩, List.mem_filter.mpr ⟨List.mem_append_right _ (List.mem_of_getElem? (i := 3) (by rfl)), rfl⟩, by decide, ⟨by decide, by decide⟩, gd_2, gh_2, gi_2, by decide⟩
theorem gd_3 : ∀ q ∈ gc_3, decode prog_4_method_1_code q.1 = .ok (q.2.1, q.2.2.1) := by decide +kernel
theorem gh_3 : ∀ q ∈ gc_3, gchk "GiftShops$Rules" "<init>" q = true := by decide +kernel
theorem gi_3 : ∀ q ∈ gc_3, gchkI gMT "GiftShops$Rules" q = true := by decide +kernel
set_option maxRecDepth 100000 in
theorem gm_3 : gMOK gMT gro_3 := ⟨fun _ => List.mem_filter.mpr ⟨List.mem_append_right _ (List.mem_of_getElem? (i := 84) (by rfl)), rfl⟩, List.mem_filter.mpr ⟨List.mem_append_right _ (List.mem_of_getElem? (i := 4) (by rfl)), rfl⟩, by decide, ⟨by decide, by decide⟩, gd_3, gh_3, gi_3, by decide⟩
theorem gd_4 : ∀ q ∈ gc_4, decode prog_2_method_1_code q.1 = .ok (q.2.1, q.2.2.1) := by decide +kernel
theorem gh_4 : ∀ q ∈ gc_4, gchk "GiftShops$Parser" "<init>" q = true := by decide +kernel
theorem gi_4 : ∀ q ∈ gc_4, gchkI gMT "GiftShops$Parser" q = true := by decide +kernel
set_option maxRecDepth 100000 in
theorem gm_4 : gMOK gMT gro_4 := ⟨fun _ => List.mem_filter.mpr ⟨List.mem_append_right _ (List.mem_of_getElem? (i := 111) (by rfl)), rfl⟩, List.mem_filter.mpr ⟨List.mem_append_right _ (List.mem_of_getElem? (i := 5) (by rfl)), rfl⟩, by decide, ⟨by decide, by decide⟩, gd_4, gh_4, gi_4, by decide⟩
theorem gd_5 : ∀ q ∈ gc_5, decode prog_6_method_1_code q.1 = .ok (q.2.1, q.2.2.1) := by decide +kernel
theorem gh_5 : ∀ q ∈ gc_5, gchk "GiftShops$Scanner" "<init>" q = true := by decide +kernel
theorem gi_5 : ∀ q ∈ gc_5, gchkI gMT "GiftShops$Scanner" q = true := by decide +kernel
set_option maxRecDepth 100000 in
theorem gm_5 : gMOK gMT gro_5 := ⟨fun _ => List.mem_filter.mpr ⟨List.mem_append_right _ (List.mem_of_getElem? (i := 117) (by rfl)), rfl⟩, List.mem_filter.mpr ⟨List.mem_append_right _ (List.mem_of_getElem? (i := 6) (by rfl)), rfl⟩, by decide, ⟨by decide, by decide⟩, gd_5, gh_5, gi_5, by decide⟩
theorem gd_6 : ∀ q ∈ gc_6, decode prog_3_method_1_code q.1 = .ok (q.2.1, q.2.2.1) := by decide +kernel
theorem gh_6 : ∀ q ∈ gc_6, gchk "GiftShops$Roads" "<init>" q = true := by decide +kernel
theorem gi_6 : ∀ q ∈ gc_6, gchkI gMT "GiftShops$Roads" q = true := by decide +kernel
set_option maxRecDepth 100000 in
theorem gm_6 : gMOK gMT gro_6 := ⟨fun _ => List.mem_filter.mpr ⟨List.mem_append_right _ (List.mem_of_getElem? (i := 152) (by rfl)), rfl⟩, List.mem_filter.mpr ⟨List.mem_append_right _ (List.mem_of_getElem? (i := 7) (by rfl)), rfl⟩, by decide, ⟨by decide, by decide⟩, gd_6, gh_6, gi_6, by decide⟩
theorem gd_7 : ∀ q ∈ gc_7, decode prog_10_method_1_code q.1 = .ok (q.2.1, q.2.2.1) := by decide +kernel
theorem gh_7 : ∀ q ∈ gc_7, gchk "GiftShops$Turns" "<init>" q = true := by decide +kernel
theorem gi_7 : ∀ q ∈ gc_7, gchkI gMT "GiftShops$Turns" q = true := by decide +kernel
set_option maxRecDepth 100000 in
theorem gm_7 : gMOK gMT gro_7 := ⟨fun _ => List.mem_filter.mpr ⟨List.mem_append_right _ (List.mem_of_getElem? (i := 165) (by rfl)), rfl⟩, List.mem_filter.mpr ⟨List.mem_append_right _ (List.mem_of_getElem? (i := 8) (by rfl)), rfl⟩, by decide, ⟨by decide, by decide⟩, gd_7, gh_7, gi_7, by decide⟩
theorem gd_8 : ∀ q ∈ gc_8, decode prog_1_method_2_code q.1 = .ok (q.2.1, q.2.2.1) := by decide +kernel
theorem gh_8 : ∀ q ∈ gc_8, gchk "GiftShops" "give" q = true := by decide +kernel
theorem gi_8 : ∀ q ∈ gc_8, gchkI gMT "GiftShops" q = true := by decide +kernel
set_option maxRecDepth 100000 in
theorem gm_8 : gMOK gMT gro_8 := ⟨fun _ => List.mem_filter.mpr ⟨List.mem_append_right _ (List.mem_of_getElem? (i := 242) (by rfl)), rfl⟩, List.mem_filter.mpr ⟨List.mem_append_right _ (List.mem_of_getElem? (i := 1) (by rfl)), rfl⟩, by decide, ⟨by decide, by decide⟩, gd_8, gh_8, gi_8, by decide⟩
theorem gd_9 : ∀ q ∈ gc_9, decode prog_1_method_28_code q.1 = .ok (q.2.1, q.2.2.1) := by decide +kernel
theorem gh_9 : ∀ q ∈ gc_9, gchk "GiftShops" "within" q = true := by decide +kernel
theorem gi_9 : ∀ q ∈ gc_9, gchkI gMT "GiftShops" q = true := by decide +kernel
set_option maxRecDepth 100000 in
theorem gm_9 : gMOK gMT gro_9 := ⟨fun _ => List.mem_filter.mpr ⟨List.mem_append_right _ (List.mem_of_getElem? (i := 245) (by rfl)), rfl⟩, List.mem_filter.mpr ⟨List.mem_append_right _ (List.mem_of_getElem? (i := 1) (by rfl)), rfl⟩, by decide, ⟨by decide, by decide⟩, gd_9, gh_9, gi_9, by decide⟩
theorem gd_10 : ∀ q ∈ gc_10, decode prog_9_method_1_code q.1 = .ok (q.2.1, q.2.2.1) := by decide +kernel
theorem gh_10 : ∀ q ∈ gc_10, gchk "GiftShops$Thing" "<init>" q = true := by decide +kernel
theorem gi_10 : ∀ q ∈ gc_10, gchkI gMT "GiftShops$Thing" q = true := by decide +kernel
set_option maxRecDepth 100000 in
theorem gm_10 : gMOK gMT gro_10 := ⟨fun _ => List.mem_filter.mpr ⟨List.mem_append_right _ (List.mem_of_getElem? (i := 249) (by rfl)), rfl⟩, List.mem_filter.mpr ⟨List.mem_append_right _ (List.mem_of_getElem? (i := 10) (by rfl)), rfl⟩, by decide, ⟨by decide, by decide⟩, gd_10, gh_10, gi_10, by decide⟩
theorem gd_11 : ∀ q ∈ gc_11, decode prog_1_method_3_code q.1 = .ok (q.2.1, q.2.2.1) := by decide +kernel
theorem gh_11 : ∀ q ∈ gc_11, gchk "GiftShops" "shelf" q = true := by decide +kernel
theorem gi_11 : ∀ q ∈ gc_11, gchkI gMT "GiftShops" q = true := by decide +kernel
set_option maxRecDepth 100000 in
theorem gm_11 : gMOK gMT gro_11 := ⟨fun _ => List.mem_filter.mpr ⟨List.mem_append_right _ (List.mem_of_getElem? (i := 290) (by rfl)), rfl⟩, List.mem_filter.mpr ⟨List.mem_append_right _ (List.mem_of_getElem? (i := 1) (by rfl)), rfl⟩, by decide, ⟨by decide, by decide⟩, gd_11, gh_11, gi_11, by decide⟩
theorem gd_12 : ∀ q ∈ gc_12, decode prog_1_method_4_code q.1 = .ok (q.2.1, q.2.2.1) := by decide +kernel
theorem gh_12 : ∀ q ∈ gc_12, gchk "GiftShops" "base" q = true := by decide +kernel
theorem gi_12 : ∀ q ∈ gc_12, gchkI gMT "GiftShops" q = true := by decide +kernel
set_option maxRecDepth 100000 in
theorem gm_12 : gMOK gMT gro_12 := ⟨fun _ => List.mem_filter.mpr ⟨List.mem_append_right _ (List.mem_of_getElem? (i := 294) (by rfl)), rfl⟩, List.mem_filter.mpr ⟨List.mem_append_right _ (List.mem_of_getElem? (i := 1) (by rfl)), rfl⟩, by decide, ⟨by decide, by decide⟩, gd_12, gh_12, gi_12, by decide⟩
theorem gd_13 : ∀ q ∈ gc_13, decode prog_1_method_5_code q.1 = .ok (q.2.1, q.2.2.1) := by decide +kernel
theorem gh_13 : ∀ q ∈ gc_13, gchk "GiftShops" "feed" q = true := by decide +kernel
theorem gi_13 : ∀ q ∈ gc_13, gchkI gMT "GiftShops" q = true := by decide +kernel
set_option maxRecDepth 100000 in
theorem gm_13 : gMOK gMT gro_13 := ⟨fun _ => List.mem_filter.mpr ⟨List.mem_append_right _ (List.mem_of_getElem? (i := 298) (by rfl)), rfl⟩, List.mem_filter.mpr ⟨List.mem_append_right _ (List.mem_of_getElem? (i := 1) (by rfl)), rfl⟩, by decide, ⟨by decide, by decide⟩, gd_13, gh_13, gi_13, by decide⟩
theorem gd_14 : ∀ q ∈ gc_14, decode prog_8_method_2_code q.1 = .ok (q.2.1, q.2.2.1) := by decide +kernel
theorem gh_14 : ∀ q ∈ gc_14, gchk "GiftShops$Tape" "addBytes" q = true := by decide +kernel
theorem gi_14 : ∀ q ∈ gc_14, gchkI gMT "GiftShops$Tape" q = true := by decide +kernel
set_option maxRecDepth 100000 in
theorem gm_14 : gMOK gMT gro_14 := ⟨fun _ => List.mem_filter.mpr ⟨List.mem_append_right _ (List.mem_of_getElem? (i := 302) (by rfl)), rfl⟩, List.mem_filter.mpr ⟨List.mem_append_right _ (List.mem_of_getElem? (i := 3) (by rfl)), rfl⟩, by decide, ⟨by decide, by decide⟩, gd_14, gh_14, gi_14, by decide⟩
theorem gd_15 : ∀ q ∈ gc_15, decode prog_1_method_6_code q.1 = .ok (q.2.1, q.2.2.1) := by decide +kernel
theorem gh_15 : ∀ q ∈ gc_15, gchk "GiftShops" "text" q = true := by decide +kernel
theorem gi_15 : ∀ q ∈ gc_15, gchkI gMT "GiftShops" q = true := by decide +kernel
set_option maxRecDepth 100000 in
theorem gm_15 : gMOK gMT gro_15 := ⟨fun _ => List.mem_filter.mpr ⟨List.mem_append_right _ (List.mem_of_getElem? (i := 306) (by rfl)), rfl⟩, List.mem_filter.mpr ⟨List.mem_append_right _ (List.mem_of_getElem? (i := 1) (by rfl)), rfl⟩, by decide, ⟨by decide, by decide⟩, gd_15, gh_15, gi_15, by decide⟩
theorem gd_16 : ∀ q ∈ gc_16, decode prog_2_method_2_code q.1 = .ok (q.2.1, q.2.2.1) := by decide +kernel
theorem gh_16 : ∀ q ∈ gc_16, gchk "GiftShops$Parser" "readInto" q = true := by decide +kernel
theorem gi_16 : ∀ q ∈ gc_16, gchkI gMT "GiftShops$Parser" q = true := by decide +kernel
set_option maxRecDepth 100000 in
theorem gm_16 : gMOK gMT gro_16 := ⟨fun _ => List.mem_filter.mpr ⟨List.mem_append_right _ (List.mem_of_getElem? (i := 310) (by rfl)), rfl⟩, List.mem_filter.mpr ⟨List.mem_append_right _ (List.mem_of_getElem? (i := 5) (by rfl)), rfl⟩, by decide, ⟨by decide, by decide⟩, gd_16, gh_16, gi_16, by decide⟩
theorem gd_17 : ∀ q ∈ gc_17, decode prog_4_method_2_code q.1 = .ok (q.2.1, q.2.2.1) := by decide +kernel
theorem gh_17 : ∀ q ∈ gc_17, gchk "GiftShops$Rules" "clear" q = true := by decide +kernel
theorem gi_17 : ∀ q ∈ gc_17, gchkI gMT "GiftShops$Rules" q = true := by decide +kernel
set_option maxRecDepth 100000 in
theorem gm_17 : gMOK gMT gro_17 := ⟨fun _ => List.mem_filter.mpr ⟨List.mem_append_right _ (List.mem_of_getElem? (i := 314) (by rfl)), rfl⟩, List.mem_filter.mpr ⟨List.mem_append_right _ (List.mem_of_getElem? (i := 4) (by rfl)), rfl⟩, by decide, ⟨by decide, by decide⟩, gd_17, gh_17, gi_17, by decide⟩
theorem gd_18 : ∀ q ∈ gc_18, decode prog_6_method_2_code q.1 = .ok (q.2.1, q.2.2.1) := by decide +kernel
theorem gh_18 : ∀ q ∈ gc_18, gchk "GiftShops$Scanner" "begin" q = true := by decide +kernel
theorem gi_18 : ∀ q ∈ gc_18, gchkI gMT "GiftShops$Scanner" q = true := by decide +kernel
set_option maxRecDepth 100000 in
theorem gm_18 : gMOK gMT gro_18 := ⟨fun _ => List.mem_filter.mpr ⟨List.mem_append_right _ (List.mem_of_getElem? (i := 318) (by rfl)), rfl⟩, List.mem_filter.mpr ⟨List.mem_append_right _ (List.mem_of_getElem? (i := 6) (by rfl)), rfl⟩, by decide, ⟨by decide, by decide⟩, gd_18, gh_18, gi_18, by decide⟩
theorem gd_19 : ∀ q ∈ gc_19, decode prog_6_method_3_code q.1 = .ok (q.2.1, q.2.2.1) := by decide +kernel
theorem gh_19 : ∀ q ∈ gc_19, gchk "GiftShops$Scanner" "next" q = true := by decide +kernel
theorem gi_19 : ∀ q ∈ gc_19, gchkI gMT "GiftShops$Scanner" q = true := by decide +kernel
set_option maxRecDepth 100000 in
theorem gm_19 : gMOK gMT gro_19 := ⟨fun _ => List.mem_filter.mpr ⟨List.mem_append_right _ (List.mem_of_getElem? (i := 322) (by rfl)), rfl⟩, List.mem_filter.mpr ⟨List.mem_append_right _ (List.mem_of_getElem? (i := 6) (by rfl)), rfl⟩, by decide, ⟨by decide, by decide⟩, gd_19, gh_19, gi_19, by decide⟩
theorem gd_20 : ∀ q ∈ gc_20, decode prog_6_method_12_code q.1 = .ok (q.2.1, q.2.2.1) := by decide +kernel
theorem gh_20 : ∀ q ∈ gc_20, gchk "GiftShops$Scanner" "isBlank" q = true := by decide +kernel
theorem gi_20 : ∀ q ∈ gc_20, gchkI gMT "GiftShops$Scanner" q = true := by decide +kernel
set_option maxRecDepth 100000 in
theorem gm_20 : gMOK gMT gro_20 := ⟨fun _ => List.mem_filter.mpr ⟨List.mem_append_right _ (List.mem_of_getElem? (i := 325) (by rfl)), rfl⟩, List.mem_filter.mpr ⟨List.mem_append_right _ (List.mem_of_getElem? (i := 6) (by rfl)), rfl⟩, by decide, ⟨by decide, by decide⟩, gd_20, gh_20, gi_20, by decide⟩
theorem gd_21 : ∀ q ∈ gc_21, decode prog_6_method_4_code q.1 = .ok (q.2.1, q.2.2.1) := by decide +kernel
theorem gh_21 : ∀ q ∈ gc_21, gchk "GiftShops$Scanner" "behindRun" q = true := by decide +kernel
theorem gi_21 : ∀ q ∈ gc_21, gchkI gMT "GiftShops$Scanner" q = true := by decide +kernel
set_option maxRecDepth 100000 in
theorem gm_21 : gMOK gMT gro_21 := ⟨fun _ => List.mem_filter.mpr ⟨List.mem_append_right _ (List.mem_of_getElem? (i := 329) (by rfl)), rfl⟩, List.mem_filter.mpr ⟨List.mem_append_right _ (List.mem_of_getElem? (i := 6) (by rfl)), rfl⟩, by decide, ⟨by decide, by decide⟩, gd_21, gh_21, gi_21, by decide⟩
theorem gd_22 : ∀ q ∈ gc_22, decode prog_6_method_5_code q.1 = .ok (q.2.1, q.2.2.1) := by decide +kernel
theorem gh_22 : ∀ q ∈ gc_22, gchk "GiftShops$Scanner" "wordToken" q = true := by decide +kernel
theorem gi_22 : ∀ q ∈ gc_22, gchkI gMT "GiftShops$Scanner" q = true := by decide +kernel
set_option maxRecDepth 100000 in
theorem gm_22 : gMOK gMT gro_22 := ⟨fun _ => List.mem_filter.mpr ⟨List.mem_append_right _ (List.mem_of_getElem? (i := 333) (by rfl)), rfl⟩, List.mem_filter.mpr ⟨List.mem_append_right _ (List.mem_of_getElem? (i := 6) (by rfl)), rfl⟩, by decide, ⟨by decide, by decide⟩, gd_22, gh_22, gi_22, by decide⟩
theorem gd_23 : ∀ q ∈ gc_23, decode prog_6_method_6_code q.1 = .ok (q.2.1, q.2.2.1) := by decide +kernel
theorem gh_23 : ∀ q ∈ gc_23, gchk "GiftShops$Scanner" "spells" q = true := by decide +kernel
theorem gi_23 : ∀ q ∈ gc_23, gchkI gMT "GiftShops$Scanner" q = true := by decide +kernel
set_option maxRecDepth 100000 in
theorem gm_23 : gMOK gMT gro_23 := ⟨fun _ => List.mem_filter.mpr ⟨List.mem_append_right _ (List.mem_of_getElem? (i := 337) (by rfl)), rfl⟩, List.mem_filter.mpr ⟨List.mem_append_right _ (List.mem_of_getElem? (i := 6) (by rfl)), rfl⟩, by decide, ⟨by decide, by decide⟩, gd_23, gh_23, gi_23, by decide⟩
theorem gd_24 : ∀ q ∈ gc_24, decode prog_6_method_7_code q.1 = .ok (q.2.1, q.2.2.1) := by decide +kernel
theorem gh_24 : ∀ q ∈ gc_24, gchk "GiftShops$Scanner" "numberToken" q = true := by decide +kernel
theorem gi_24 : ∀ q ∈ gc_24, gchkI gMT "GiftShops$Scanner" q = true := by decide +kernel
set_option maxRecDepth 100000 in
theorem gm_24 : gMOK gMT gro_24 := ⟨fun _ => List.mem_filter.mpr ⟨List.mem_append_right _ (List.mem_of_getElem? (i := 382) (by rfl)), rfl⟩, List.mem_filter.mpr ⟨List.mem_append_right _ (List.mem_of_getElem? (i := 6) (by rfl)), rfl⟩, by decide, ⟨by decide, by decide⟩, gd_24, gh_24, gi_24, by decide⟩
theorem gd_25 : ∀ q ∈ gc_25, decode prog_2_method_3_code q.1 = .ok (q.2.1, q.2.2.1) := by decide +kernel
theorem gh_25 : ∀ q ∈ gc_25, gchk "GiftShops$Parser" "readLine" q = true := by decide +kernel
theorem gi_25 : ∀ q ∈ gc_25, gchkI gMT "GiftShops$Parser" q = true := by decide +kernel
set_option maxRecDepth 100000 in
theorem gm_25 : gMOK gMT gro_25 := ⟨fun _ => List.mem_filter.mpr ⟨List.mem_append_right _ (List.mem_of_getElem? (i := 453) (by rfl)), rfl⟩, List.mem_filter.mpr ⟨List.mem_append_right _ (List.mem_of_getElem? (i := 5) (by rfl)), rfl⟩, by decide, ⟨by decide, by decide⟩, gd_25, gh_25, gi_25, by decide⟩
theorem gd_26 : ∀ q ∈ gc_26, decode prog_6_method_8_code q.1 = .ok (q.2.1, q.2.2.1) := by decide +kernel
theorem gh_26 : ∀ q ∈ gc_26, gchk "GiftShops$Scanner" "isWay" q = true := by decide +kernel
theorem gi_26 : ∀ q ∈ gc_26, gchkI gMT "GiftShops$Scanner" q = true := by decide +kernel
set_option maxRecDepth 100000 in
theorem gm_26 : gMOK gMT gro_26 := ⟨fun _ => List.mem_filter.mpr ⟨List.mem_append_right _ (List.mem_of_getElem? (i := 457) (by rfl)), rfl⟩, List.mem_filter.mpr ⟨List.mem_append_right _ (List.mem_of_getElem? (i := 6) (by rfl)), rfl⟩, by decide, ⟨by decide, by decide⟩, gd_26, gh_26, gi_26, by decide⟩
theorem gd_27 : ∀ q ∈ gc_27, decode prog_2_method_9_code q.1 = .ok (q.2.1, q.2.2.1) := by decide +kernel
theorem gh_27 : ∀ q ∈ gc_27, gchk "GiftShops$Parser" "wrong" q = true := by decide +kernel
theorem gi_27 : ∀ q ∈ gc_27, gchkI gMT "GiftShops$Parser" q = true := by decide +kernel
set_option maxRecDepth 100000 in
theorem gm_27 : gMOK gMT gro_27 := ⟨fun _ => List.mem_filter.mpr ⟨List.mem_append_right _ (List.mem_of_getElem? (i := 461) (by rfl)), rfl⟩, List.mem_filter.mpr ⟨List.mem_append_right _ (List.mem_of_getElem? (i := 5) (by rfl)), rfl⟩, by decide, ⟨by decide, by decide⟩, gd_27, gh_27, gi_27, by decide⟩
theorem gd_28 : ∀ q ∈ gc_28, decode prog_6_method_9_code q.1 = .ok (q.2.1, q.2.2.1) := by decide +kernel
theorem gh_28 : ∀ q ∈ gc_28, gchk "GiftShops$Scanner" "wayTold" q = true := by decide +kernel
theorem gi_28 : ∀ q ∈ gc_28, gchkI gMT "GiftShops$Scanner" q = true := by decide +kernel
set_option maxRecDepth 100000 in
theorem gm_28 : gMOK gMT gro_28 := ⟨fun _ => List.mem_filter.mpr ⟨List.mem_append_right _ (List.mem_of_getElem? (i := 465) (by rfl)), rfl⟩, List.mem_filter.mpr ⟨List.mem_append_right _ (List.mem_of_getElem? (i := 6) (by rfl)), rfl⟩, by decide, ⟨by decide, by decide⟩, gd_28, gh_28, gi_28, by decide⟩
theorem gd_29 : ∀ q ∈ gc_29, decode prog_2_method_8_code q.1 = .ok (q.2.1, q.2.2.1) := by decide +kernel
theorem gh_29 : ∀ q ∈ gc_29, gchk "GiftShops$Parser" "take" q = true := by decide +kernel
theorem gi_29 : ∀ q ∈ gc_29, gchkI gMT "GiftShops$Parser" q = true := by decide +kernel
set_option maxRecDepth 100000 in
theorem gm_29 : gMOK gMT gro_29 := ⟨fun _ => List.mem_filter.mpr ⟨List.mem_append_right _ (List.mem_of_getElem? (i := 470) (by rfl)), rfl⟩, List.mem_filter.mpr ⟨List.mem_append_right _ (List.mem_of_getElem? (i := 5) (by rfl)), rfl⟩, by decide, ⟨by decide, by decide⟩, gd_29, gh_29, gi_29, by decide⟩
theorem gd_30 : ∀ q ∈ gc_30, decode prog_2_method_4_code q.1 = .ok (q.2.1, q.2.2.1) := by decide +kernel
theorem gh_30 : ∀ q ∈ gc_30, gchk "GiftShops$Parser" "readTests" q = true := by decide +kernel
theorem gi_30 : ∀ q ∈ gc_30, gchkI gMT "GiftShops$Parser" q = true := by decide +kernel
set_option maxRecDepth 100000 in
theorem gm_30 : gMOK gMT gro_30 := ⟨fun _ => List.mem_filter.mpr ⟨List.mem_append_right _ (List.mem_of_getElem? (i := 474) (by rfl)), rfl⟩, List.mem_filter.mpr ⟨List.mem_append_right _ (List.mem_of_getElem? (i := 5) (by rfl)), rfl⟩, by decide, ⟨by decide, by decide⟩, gd_30, gh_30, gi_30, by decide⟩
theorem gd_31 : ∀ q ∈ gc_31, decode prog_2_method_5_code q.1 = .ok (q.2.1, q.2.2.1) := by decide +kernel
theorem gh_31 : ∀ q ∈ gc_31, gchk "GiftShops$Parser" "readTest" q = true := by decide +kernel
theorem gi_31 : ∀ q ∈ gc_31, gchkI gMT "GiftShops$Parser" q = true := by decide +kernel
set_option maxRecDepth 100000 in
theorem gm_31 : gMOK gMT gro_31 := ⟨fun _ => List.mem_filter.mpr ⟨List.mem_append_right _ (List.mem_of_getElem? (i := 478) (by rfl)), rfl⟩, List.mem_filter.mpr ⟨List.mem_append_right _ (List.mem_of_getElem? (i := 5) (by rfl)), rfl⟩, by decide, ⟨by decide, by decide⟩, gd_31, gh_31, gi_31, by decide⟩
theorem gd_32 : ∀ q ∈ gc_32, decode prog_2_method_6_code q.1 = .ok (q.2.1, q.2.2.1) := by decide +kernel
theorem gh_32 : ∀ q ∈ gc_32, gchk "GiftShops$Parser" "readSum" q = true := by decide +kernel
theorem gi_32 : ∀ q ∈ gc_32, gchkI gMT "GiftShops$Parser" q = true := by decide +kernel
set_option maxRecDepth 100000 in
theorem gm_32 : gMOK gMT gro_32 := ⟨fun _ => List.mem_filter.mpr ⟨List.mem_append_right _ (List.mem_of_getElem? (i := 482) (by rfl)), rfl⟩, List.mem_filter.mpr ⟨List.mem_append_right _ (List.mem_of_getElem? (i := 5) (by rfl)), rfl⟩, by decide, ⟨by decide, by decide⟩, gd_32, gh_32, gi_32, by decide⟩
theorem gd_33 : ∀ q ∈ gc_33, decode prog_2_method_7_code q.1 = .ok (q.2.1, q.2.2.1) := by decide +kernel
theorem gh_33 : ∀ q ∈ gc_33, gchk "GiftShops$Parser" "readPart" q = true := by decide +kernel
theorem gi_33 : ∀ q ∈ gc_33, gchkI gMT "GiftShops$Parser" q = true := by decide +kernel
set_option maxRecDepth 100000 in
theorem gm_33 : gMOK gMT gro_33 := ⟨fun _ => List.mem_filter.mpr ⟨List.mem_append_right _ (List.mem_of_getElem? (i := 486) (by rfl)), rfl⟩, List.mem_filter.mpr ⟨List.mem_append_right _ (List.mem_of_getElem? (i := 5) (by rfl)), rfl⟩, by decide, ⟨by decide, by decide⟩, gd_33, gh_33, gi_33, by decide⟩
theorem gd_34 : ∀ q ∈ gc_34, decode prog_6_method_10_code q.1 = .ok (q.2.1, q.2.2.1) := by decide +kernel
theorem gh_34 : ∀ q ∈ gc_34, gchk "GiftShops$Scanner" "isFact" q = true := by decide +kernel
theorem gi_34 : ∀ q ∈ gc_34, gchkI gMT "GiftShops$Scanner" q = true := by decide +kernel
set_option maxRecDepth 100000 in
theorem gm_34 : gMOK gMT gro_34 := ⟨fun _ => List.mem_filter.mpr ⟨List.mem_append_right _ (List.mem_of_getElem? (i := 490) (by rfl)), rfl⟩, List.mem_filter.mpr ⟨List.mem_append_right _ (List.mem_of_getElem? (i := 6) (by rfl)), rfl⟩, by decide, ⟨by decide, by decide⟩, gd_34, gh_34, gi_34, by decide⟩
theorem gd_35 : ∀ q ∈ gc_35, decode prog_4_method_3_code q.1 = .ok (q.2.1, q.2.2.1) := by decide +kernel
theorem gh_35 : ∀ q ∈ gc_35, gchk "GiftShops$Rules" "add" q = true := by decide +kernel
theorem gi_35 : ∀ q ∈ gc_35, gchkI gMT "GiftShops$Rules" q = true := by decide +kernel
set_option maxRecDepth 100000 in
theorem gm_35 : gMOK gMT gro_35 := ⟨fun _ => List.mem_filter.mpr ⟨List.mem_append_right _ (List.mem_of_getElem? (i := 494) (by rfl)), rfl⟩, List.mem_filter.mpr ⟨List.mem_append_right _ (List.mem_of_getElem? (i := 4) (by rfl)), rfl⟩, by decide, ⟨by decide, by decide⟩, gd_35, gh_35, gi_35, by decide⟩
theorem gd_36 : ∀ q ∈ gc_36, decode prog_6_method_11_code q.1 = .ok (q.2.1, q.2.2.1) := by decide +kernel
theorem gh_36 : ∀ q ∈ gc_36, gchk "GiftShops$Scanner" "factTold" q = true := by decide +kernel
theorem gi_36 : ∀ q ∈ gc_36, gchkI gMT "GiftShops$Scanner" q = true := by decide +kernel
set_option maxRecDepth 100000 in
theorem gm_36 : gMOK gMT gro_36 := ⟨fun _ => List.mem_filter.mpr ⟨List.mem_append_right _ (List.mem_of_getElem? (i := 498) (by rfl)), rfl⟩, List.mem_filter.mpr ⟨List.mem_append_right _ (List.mem_of_getElem? (i := 6) (by rfl)), rfl⟩, by decide, ⟨by decide, by decide⟩, gd_36, gh_36, gi_36, by decide⟩
theorem gd_37 : ∀ q ∈ gc_37, decode prog_4_method_4_code q.1 = .ok (q.2.1, q.2.2.1) := by decide +kernel
theorem gh_37 : ∀ q ∈ gc_37, gchk "GiftShops$Rules" "endLine" q = true := by decide +kernel
theorem gi_37 : ∀ q ∈ gc_37, gchkI gMT "GiftShops$Rules" q = true := by decide +kernel
set_option maxRecDepth 100000 in
theorem gm_37 : gMOK gMT gro_37 := ⟨fun _ => List.mem_filter.mpr ⟨List.mem_append_right _ (List.mem_of_getElem? (i := 502) (by rfl)), rfl⟩, List.mem_filter.mpr ⟨List.mem_append_right _ (List.mem_of_getElem? (i := 4) (by rfl)), rfl⟩, by decide, ⟨by decide, by decide⟩, gd_37, gh_37, gi_37, by decide⟩
theorem gd_38 : ∀ q ∈ gc_38, decode prog_1_method_7_code q.1 = .ok (q.2.1, q.2.2.1) := by decide +kernel
theorem gh_38 : ∀ q ∈ gc_38, gchk "GiftShops" "sort" q = true := by decide +kernel
theorem gi_38 : ∀ q ∈ gc_38, gchkI gMT "GiftShops" q = true := by decide +kernel
set_option maxRecDepth 100000 in
theorem gm_38 : gMOK gMT gro_38 := ⟨fun _ => List.mem_filter.mpr ⟨List.mem_append_right _ (List.mem_of_getElem? (i := 507) (by rfl)), rfl⟩, List.mem_filter.mpr ⟨List.mem_append_right _ (List.mem_of_getElem? (i := 1) (by rfl)), rfl⟩, by decide, ⟨by decide, by decide⟩, gd_38, gh_38, gi_38, by decide⟩
theorem gd_39 : ∀ q ∈ gc_39, decode prog_1_method_32_code q.1 = .ok (q.2.1, q.2.2.1) := by decide +kernel
theorem gh_39 : ∀ q ∈ gc_39, gchk "GiftShops" "sortFor" q = true := by decide +kernel
theorem gi_39 : ∀ q ∈ gc_39, gchkI gMT "GiftShops" q = true := by decide +kernel
set_option maxRecDepth 100000 in
theorem gm_39 : gMOK gMT gro_39 := ⟨fun _ => List.mem_filter.mpr ⟨List.mem_append_right _ (List.mem_of_getElem? (i := 511) (by rfl)), rfl⟩, List.mem_filter.mpr ⟨List.mem_append_right _ (List.mem_of_getElem? (i := 1) (by rfl)), rfl⟩, by decide, ⟨by decide, by decide⟩, gd_39, gh_39, gi_39, by decide⟩
theorem gd_40 : ∀ q ∈ gc_40, decode prog_1_method_31_code q.1 = .ok (q.2.1, q.2.2.1) := by decide +kernel
theorem gh_40 : ∀ q ∈ gc_40, gchk "GiftShops" "wayByText" q = true := by decide +kernel
theorem gi_40 : ∀ q ∈ gc_40, gchkI gMT "GiftShops" q = true := by decide +kernel
set_option maxRecDepth 100000 in
theorem gm_40 : gMOK gMT gro_40 := ⟨fun _ => List.mem_filter.mpr ⟨List.mem_append_right _ (List.mem_of_getElem? (i := 515) (by rfl)), rfl⟩, List.mem_filter.mpr ⟨List.mem_append_right _ (List.mem_of_getElem? (i := 1) (by rfl)), rfl⟩, by decide, ⟨by decide, by decide⟩, gd_40, gh_40, gi_40, by decide⟩
theorem gd_41 : ∀ q ∈ gc_41, decode prog_1_method_30_code q.1 = .ok (q.2.1, q.2.2.1) := by decide +kernel
theorem gh_41 : ∀ q ∈ gc_41, gchk "GiftShops" "seasonNow" q = true := by decide +kernel
theorem gi_41 : ∀ q ∈ gc_41, gchkI gMT "GiftShops" q = true := by decide +kernel
set_option maxRecDepth 100000 in
theorem gm_41 : gMOK gMT gro_41 := ⟨fun _ => List.mem_filter.mpr ⟨List.mem_append_right _ (List.mem_of_getElem? (i := 519) (by rfl)), rfl⟩, List.mem_filter.mpr ⟨List.mem_append_right _ (List.mem_of_getElem? (i := 1) (by rfl)), rfl⟩, by decide, ⟨by decide, by decide⟩, gd_41, gh_41, gi_41, by decide⟩
theorem gd_42 : ∀ q ∈ gc_42, decode prog_4_method_5_code q.1 = .ok (q.2.1, q.2.2.1) := by decide +kernel
theorem gh_42 : ∀ q ∈ gc_42, gchk "GiftShops$Rules" "wayFor" q = true := by decide +kernel
theorem gi_42 : ∀ q ∈ gc_42, gchkI gMT "GiftShops$Rules" q = true := by decide +kernel
set_option maxRecDepth 100000 in
theorem gm_42 : gMOK gMT gro_42 := ⟨fun _ => List.mem_filter.mpr ⟨List.mem_append_right _ (List.mem_of_getElem? (i := 523) (by rfl)), rfl⟩, List.mem_filter.mpr ⟨List.mem_append_right _ (List.mem_of_getElem? (i := 4) (by rfl)), rfl⟩, by decide, ⟨by decide, by decide⟩, gd_42, gh_42, gi_42, by decide⟩
theorem gd_43 : ∀ q ∈ gc_43, decode prog_4_method_6_code q.1 = .ok (q.2.1, q.2.2.1) := by decide +kernel
theorem gh_43 : ∀ q ∈ gc_43, gchk "GiftShops$Rules" "valueOf" q = true := by decide +kernel
theorem gi_43 : ∀ q ∈ gc_43, gchkI gMT "GiftShops$Rules" q = true := by decide +kernel
set_option maxRecDepth 100000 in
theorem gm_43 : gMOK gMT gro_43 := ⟨fun _ => List.mem_filter.mpr ⟨List.mem_append_right _ (List.mem_of_getElem? (i := 527) (by rfl)), rfl⟩, List.mem_filter.mpr ⟨List.mem_append_right _ (List.mem_of_getElem? (i := 4) (by rfl)), rfl⟩, by decide, ⟨by decide, by decide⟩, gd_43, gh_43, gi_43, by decide⟩
theorem gd_44 : ∀ q ∈ gc_44, decode prog_4_method_7_code q.1 = .ok (q.2.1, q.2.2.1) := by decide +kernel
theorem gh_44 : ∀ q ∈ gc_44, gchk "GiftShops$Rules" "joined" q = true := by decide +kernel
theorem gi_44 : ∀ q ∈ gc_44, gchkI gMT "GiftShops$Rules" q = true := by decide +kernel
set_option maxRecDepth 100000 in
theorem gm_44 : gMOK gMT gro_44 := ⟨fun _ => List.mem_filter.mpr ⟨List.mem_append_right _ (List.mem_of_getElem? (i := 530) (by rfl)), rfl⟩, List.mem_filter.mpr ⟨List.mem_append_right _ (List.mem_of_getElem? (i := 4) (by rfl)), rfl⟩, by decide, ⟨by decide, by decide⟩, gd_44, gh_44, gi_44, by decide⟩
end
section
theorem gd_45 : ∀ q ∈ gc_45, decode prog_7_method_2_code q.1 = .ok (q.2.1, q.2.2.1) := by decide +kernel
theorem gh_45 : ∀ q ∈ gc_45, gchk "GiftShops$Shop" "hasRoom" q = true := by decide +kernel
theorem gi_45 : ∀ q ∈ gc_45, gchkI gMT "GiftShops$Shop" q = true := by decide +kernel
set_option maxRecDepth 100000 in
theorem gm_45 : gMOK gMT gro_45 := ⟨fun _ => List.mem_filter.mpr ⟨List.mem_append_right _ (List.mem_of_getElem? (i := 534) (by rfl)), rfl⟩, List.mem_filter.mpr ⟨List.mem_append_right _ (List.mem_of_getElem? (i := 2) (by rfl)), rfl⟩, by decide, ⟨by decide, by decide⟩, gd_45, gh_45, gi_45, by decide⟩
theorem gd_46 : ∀ q ∈ gc_46, decode prog_1_method_33_code q.1 = .ok (q.2.1, q.2.2.1) := by decide +kernel
theorem gh_46 : ∀ q ∈ gc_46, gchk "GiftShops" "comeOnShelf" q = true := by decide +kernel
theorem gi_46 : ∀ q ∈ gc_46, gchkI gMT "GiftShops" q = true := by decide +kernel
set_option maxRecDepth 100000 in
theorem gm_46 : gMOK gMT gro_46 := ⟨fun _ => List.mem_filter.mpr ⟨List.mem_append_right _ (List.mem_of_getElem? (i := 538) (by rfl)), rfl⟩, List.mem_filter.mpr ⟨List.mem_append_right _ (List.mem_of_getElem? (i := 1) (by rfl)), rfl⟩, by decide, ⟨by decide, by decide⟩, gd_46, gh_46, gi_46, by decide⟩
theorem gd_47 : ∀ q ∈ gc_47, decode prog_1_method_8_code q.1 = .ok (q.2.1, q.2.2.1) := by decide +kernel
theorem gh_47 : ∀ q ∈ gc_47, gchk "GiftShops" "says" q = true := by decide +kernel
theorem gi_47 : ∀ q ∈ gc_47, gchkI gMT "GiftShops" q = true := by decide +kernel
set_option maxRecDepth 100000 in
theorem gm_47 : gMOK gMT gro_47 := ⟨fun _ => List.mem_filter.mpr ⟨List.mem_append_right _ (List.mem_of_getElem? (i := 542) (by rfl)), rfl⟩, List.mem_filter.mpr ⟨List.mem_append_right _ (List.mem_of_getElem? (i := 1) (by rfl)), rfl⟩, by decide, ⟨by decide, by decide⟩, gd_47, gh_47, gi_47, by decide⟩
theorem gd_48 : ∀ q ∈ gc_48, decode prog_1_method_9_code q.1 = .ok (q.2.1, q.2.2.1) := by decide +kernel
theorem gh_48 : ∀ q ∈ gc_48, gchk "GiftShops" "habit" q = true := by decide +kernel
theorem gi_48 : ∀ q ∈ gc_48, gchkI gMT "GiftShops" q = true := by decide +kernel
set_option maxRecDepth 100000 in
theorem gm_48 : gMOK gMT gro_48 := ⟨fun _ => List.mem_filter.mpr ⟨List.mem_append_right _ (List.mem_of_getElem? (i := 546) (by rfl)), rfl⟩, List.mem_filter.mpr ⟨List.mem_append_right _ (List.mem_of_getElem? (i := 1) (by rfl)), rfl⟩, by decide, ⟨by decide, by decide⟩, gd_48, gh_48, gi_48, by decide⟩
theorem gd_49 : ∀ q ∈ gc_49, decode prog_1_method_10_code q.1 = .ok (q.2.1, q.2.2.1) := by decide +kernel
theorem gh_49 : ∀ q ∈ gc_49, gchk "GiftShops" "weeks" q = true := by decide +kernel
theorem gi_49 : ∀ q ∈ gc_49, gchkI gMT "GiftShops" q = true := by decide +kernel
set_option maxRecDepth 100000 in
theorem gm_49 : gMOK gMT gro_49 := ⟨fun _ => List.mem_filter.mpr ⟨List.mem_append_right _ (List.mem_of_getElem? (i := 551) (by rfl)), rfl⟩, List.mem_filter.mpr ⟨List.mem_append_right _ (List.mem_of_getElem? (i := 1) (by rfl)), rfl⟩, by decide, ⟨by decide, by decide⟩, gd_49, gh_49, gi_49, by decide⟩
theorem gd_50 : ∀ q ∈ gc_50, decode prog_1_method_35_code q.1 = .ok (q.2.1, q.2.2.1) := by decide +kernel
theorem gh_50 : ∀ q ∈ gc_50, gchk "GiftShops" "endWeek" q = true := by decide +kernel
theorem gi_50 : ∀ q ∈ gc_50, gchkI gMT "GiftShops" q = true := by decide +kernel
set_option maxRecDepth 100000 in
theorem gm_50 : gMOK gMT gro_50 := ⟨fun _ => List.mem_filter.mpr ⟨List.mem_append_right _ (List.mem_of_getElem? (i := 555) (by rfl)), rfl⟩, List.mem_filter.mpr ⟨List.mem_append_right _ (List.mem_of_getElem? (i := 1) (by rfl)), rfl⟩, by decide, ⟨by decide, by decide⟩, gd_50, gh_50, gi_50, by decide⟩
theorem gd_51 : ∀ q ∈ gc_51, decode prog_1_method_36_code q.1 = .ok (q.2.1, q.2.2.1) := by decide +kernel
theorem gh_51 : ∀ q ∈ gc_51, gchk "GiftShops" "endWeekOnShelf" q = true := by decide +kernel
theorem gi_51 : ∀ q ∈ gc_51, gchkI gMT "GiftShops" q = true := by decide +kernel
set_option maxRecDepth 100000 in
theorem gm_51 : gMOK gMT gro_51 := ⟨fun _ => List.mem_filter.mpr ⟨List.mem_append_right _ (List.mem_of_getElem? (i := 559) (by rfl)), rfl⟩, List.mem_filter.mpr ⟨List.mem_append_right _ (List.mem_of_getElem? (i := 1) (by rfl)), rfl⟩, by decide, ⟨by decide, by decide⟩, gd_51, gh_51, gi_51, by decide⟩
theorem gd_52 : ∀ q ∈ gc_52, decode prog_1_method_34_code q.1 = .ok (q.2.1, q.2.2.1) := by decide +kernel
theorem gh_52 : ∀ q ∈ gc_52, gchk "GiftShops" "leaveShelf" q = true := by decide +kernel
theorem gi_52 : ∀ q ∈ gc_52, gchkI gMT "GiftShops" q = true := by decide +kernel
set_option maxRecDepth 100000 in
theorem gm_52 : gMOK gMT gro_52 := ⟨fun _ => List.mem_filter.mpr ⟨List.mem_append_right _ (List.mem_of_getElem? (i := 563) (by rfl)), rfl⟩, List.mem_filter.mpr ⟨List.mem_append_right _ (List.mem_of_getElem? (i := 1) (by rfl)), rfl⟩, by decide, ⟨by decide, by decide⟩, gd_52, gh_52, gi_52, by decide⟩
theorem gd_53 : ∀ q ∈ gc_53, decode prog_1_method_37_code q.1 = .ok (q.2.1, q.2.2.1) := by decide +kernel
theorem gh_53 : ∀ q ∈ gc_53, gchk "GiftShops" "beginSeason" q = true := by decide +kernel
theorem gi_53 : ∀ q ∈ gc_53, gchkI gMT "GiftShops" q = true := by decide +kernel
set_option maxRecDepth 100000 in
theorem gm_53 : gMOK gMT gro_53 := ⟨fun _ => List.mem_filter.mpr ⟨List.mem_append_right _ (List.mem_of_getElem? (i := 567) (by rfl)), rfl⟩, List.mem_filter.mpr ⟨List.mem_append_right _ (List.mem_of_getElem? (i := 1) (by rfl)), rfl⟩, by decide, ⟨by decide, by decide⟩, gd_53, gh_53, gi_53, by decide⟩
theorem gd_54 : ∀ q ∈ gc_54, decode prog_1_method_38_code q.1 = .ok (q.2.1, q.2.2.1) := by decide +kernel
theorem gh_54 : ∀ q ∈ gc_54, gchk "GiftShops" "firstShopWithRoom" q = true := by decide +kernel
theorem gi_54 : ∀ q ∈ gc_54, gchkI gMT "GiftShops" q = true := by decide +kernel
set_option maxRecDepth 100000 in
theorem gm_54 : gMOK gMT gro_54 := ⟨fun _ => List.mem_filter.mpr ⟨List.mem_append_right _ (List.mem_of_getElem? (i := 571) (by rfl)), rfl⟩, List.mem_filter.mpr ⟨List.mem_append_right _ (List.mem_of_getElem? (i := 1) (by rfl)), rfl⟩, by decide, ⟨by decide, by decide⟩, gd_54, gh_54, gi_54, by decide⟩
theorem gd_55 : ∀ q ∈ gc_55, decode prog_1_method_11_code q.1 = .ok (q.2.1, q.2.2.1) := by decide +kernel
theorem gh_55 : ∀ q ∈ gc_55, gchk "GiftShops" "price" q = true := by decide +kernel
theorem gi_55 : ∀ q ∈ gc_55, gchkI gMT "GiftShops" q = true := by decide +kernel
set_option maxRecDepth 100000 in
theorem gm_55 : gMOK gMT gro_55 := ⟨fun _ => List.mem_filter.mpr ⟨List.mem_append_right _ (List.mem_of_getElem? (i := 575) (by rfl)), rfl⟩, List.mem_filter.mpr ⟨List.mem_append_right _ (List.mem_of_getElem? (i := 1) (by rfl)), rfl⟩, by decide, ⟨by decide, by decide⟩, gd_55, gh_55, gi_55, by decide⟩
theorem gd_56 : ∀ q ∈ gc_56, decode prog_1_method_29_code q.1 = .ok (q.2.1, q.2.2.1) := by decide +kernel
theorem gh_56 : ∀ q ∈ gc_56, gchk "GiftShops" "liesOnShelf" q = true := by decide +kernel
theorem gi_56 : ∀ q ∈ gc_56, gchkI gMT "GiftShops" q = true := by decide +kernel
set_option maxRecDepth 100000 in
theorem gm_56 : gMOK gMT gro_56 := ⟨fun _ => List.mem_filter.mpr ⟨List.mem_append_right _ (List.mem_of_getElem? (i := 579) (by rfl)), rfl⟩, List.mem_filter.mpr ⟨List.mem_append_right _ (List.mem_of_getElem? (i := 1) (by rfl)), rfl⟩, by decide, ⟨by decide, by decide⟩, gd_56, gh_56, gi_56, by decide⟩
theorem gd_57 : ∀ q ∈ gc_57, decode prog_1_method_39_code q.1 = .ok (q.2.1, q.2.2.1) := by decide +kernel
theorem gh_57 : ∀ q ∈ gc_57, gchk "GiftShops" "priceNow" q = true := by decide +kernel
theorem gi_57 : ∀ q ∈ gc_57, gchkI gMT "GiftShops" q = true := by decide +kernel
set_option maxRecDepth 100000 in
theorem gm_57 : gMOK gMT gro_57 := ⟨fun _ => List.mem_filter.mpr ⟨List.mem_append_right _ (List.mem_of_getElem? (i := 583) (by rfl)), rfl⟩, List.mem_filter.mpr ⟨List.mem_append_right _ (List.mem_of_getElem? (i := 1) (by rfl)), rfl⟩, by decide, ⟨by decide, by decide⟩, gd_57, gh_57, gi_57, by decide⟩
theorem gd_58 : ∀ q ∈ gc_58, decode prog_1_method_12_code q.1 = .ok (q.2.1, q.2.2.1) := by decide +kernel
theorem gh_58 : ∀ q ∈ gc_58, gchk "GiftShops" "sell" q = true := by decide +kernel
theorem gi_58 : ∀ q ∈ gc_58, gchkI gMT "GiftShops" q = true := by decide +kernel
set_option maxRecDepth 100000 in
theorem gm_58 : gMOK gMT gro_58 := ⟨fun _ => List.mem_filter.mpr ⟨List.mem_append_right _ (List.mem_of_getElem? (i := 588) (by rfl)), rfl⟩, List.mem_filter.mpr ⟨List.mem_append_right _ (List.mem_of_getElem? (i := 1) (by rfl)), rfl⟩, by decide, ⟨by decide, by decide⟩, gd_58, gh_58, gi_58, by decide⟩
theorem gd_59 : ∀ q ∈ gc_59, decode prog_5_method_1_code q.1 = .ok (q.2.1, q.2.2.1) := by decide +kernel
theorem gh_59 : ∀ q ∈ gc_59, gchk "GiftShops$Sale" "<init>" q = true := by decide +kernel
theorem gi_59 : ∀ q ∈ gc_59, gchkI gMT "GiftShops$Sale" q = true := by decide +kernel
set_option maxRecDepth 100000 in
theorem gm_59 : gMOK gMT gro_59 := ⟨fun _ => List.mem_filter.mpr ⟨List.mem_append_right _ (List.mem_of_getElem? (i := 592) (by rfl)), rfl⟩, List.mem_filter.mpr ⟨List.mem_append_right _ (List.mem_of_getElem? (i := 17) (by rfl)), rfl⟩, by decide, ⟨by decide, by decide⟩, gd_59, gh_59, gi_59, by decide⟩
theorem gd_60 : ∀ q ∈ gc_60, decode prog_1_method_13_code q.1 = .ok (q.2.1, q.2.2.1) := by decide +kernel
theorem gh_60 : ∀ q ∈ gc_60, gchk "GiftShops" "undo" q = true := by decide +kernel
theorem gi_60 : ∀ q ∈ gc_60, gchkI gMT "GiftShops" q = true := by decide +kernel
set_option maxRecDepth 100000 in
theorem gm_60 : gMOK gMT gro_60 := ⟨fun _ => List.mem_filter.mpr ⟨List.mem_append_right _ (List.mem_of_getElem? (i := 621) (by rfl)), rfl⟩, List.mem_filter.mpr ⟨List.mem_append_right _ (List.mem_of_getElem? (i := 1) (by rfl)), rfl⟩, by decide, ⟨by decide, by decide⟩, gd_60, gh_60, gi_60, by decide⟩
theorem gd_61 : ∀ q ∈ gc_61, decode prog_1_method_14_code q.1 = .ok (q.2.1, q.2.2.1) := by decide +kernel
theorem gh_61 : ∀ q ∈ gc_61, gchk "GiftShops" "lose" q = true := by decide +kernel
theorem gi_61 : ∀ q ∈ gc_61, gchkI gMT "GiftShops" q = true := by decide +kernel
set_option maxRecDepth 100000 in
theorem gm_61 : gMOK gMT gro_61 := ⟨fun _ => List.mem_filter.mpr ⟨List.mem_append_right _ (List.mem_of_getElem? (i := 625) (by rfl)), rfl⟩, List.mem_filter.mpr ⟨List.mem_append_right _ (List.mem_of_getElem? (i := 1) (by rfl)), rfl⟩, by decide, ⟨by decide, by decide⟩, gd_61, gh_61, gi_61, by decide⟩
theorem gd_62 : ∀ q ∈ gc_62, decode prog_1_method_15_code q.1 = .ok (q.2.1, q.2.2.1) := by decide +kernel
theorem gh_62 : ∀ q ∈ gc_62, gchk "GiftShops" "thefts" q = true := by decide +kernel
theorem gi_62 : ∀ q ∈ gc_62, gchkI gMT "GiftShops" q = true := by decide +kernel
set_option maxRecDepth 100000 in
theorem gm_62 : gMOK gMT gro_62 := ⟨fun _ => List.mem_filter.mpr ⟨List.mem_append_right _ (List.mem_of_getElem? (i := 629) (by rfl)), rfl⟩, List.mem_filter.mpr ⟨List.mem_append_right _ (List.mem_of_getElem? (i := 1) (by rfl)), rfl⟩, by decide, ⟨by decide, by decide⟩, gd_62, gh_62, gi_62, by decide⟩
theorem gd_63 : ∀ q ∈ gc_63, decode prog_1_method_16_code q.1 = .ok (q.2.1, q.2.2.1) := by decide +kernel
theorem gh_63 : ∀ q ∈ gc_63, gchk "GiftShops" "worth" q = true := by decide +kernel
theorem gi_63 : ∀ q ∈ gc_63, gchkI gMT "GiftShops" q = true := by decide +kernel
set_option maxRecDepth 100000 in
theorem gm_63 : gMOK gMT gro_63 := ⟨fun _ => List.mem_filter.mpr ⟨List.mem_append_right _ (List.mem_of_getElem? (i := 633) (by rfl)), rfl⟩, List.mem_filter.mpr ⟨List.mem_append_right _ (List.mem_of_getElem? (i := 1) (by rfl)), rfl⟩, by decide, ⟨by decide, by decide⟩, gd_63, gh_63, gi_63, by decide⟩
theorem gd_64 : ∀ q ∈ gc_64, decode prog_1_method_40_code q.1 = .ok (q.2.1, q.2.2.1) := by decide +kernel
theorem gh_64 : ∀ q ∈ gc_64, gchk "GiftShops" "worthIn" q = true := by decide +kernel
theorem gi_64 : ∀ q ∈ gc_64, gchkI gMT "GiftShops" q = true := by decide +kernel
set_option maxRecDepth 100000 in
theorem gm_64 : gMOK gMT gro_64 := ⟨fun _ => List.mem_filter.mpr ⟨List.mem_append_right _ (List.mem_of_getElem? (i := 637) (by rfl)), rfl⟩, List.mem_filter.mpr ⟨List.mem_append_right _ (List.mem_of_getElem? (i := 1) (by rfl)), rfl⟩, by decide, ⟨by decide, by decide⟩, gd_64, gh_64, gi_64, by decide⟩
theorem gd_65 : ∀ q ∈ gc_65, decode prog_7_method_3_code q.1 = .ok (q.2.1, q.2.2.1) := by decide +kernel
theorem gh_65 : ∀ q ∈ gc_65, gchk "GiftShops$Shop" "expected" q = true := by decide +kernel
theorem gi_65 : ∀ q ∈ gc_65, gchkI gMT "GiftShops$Shop" q = true := by decide +kernel
set_option maxRecDepth 100000 in
theorem gm_65 : gMOK gMT gro_65 := ⟨fun _ => List.mem_filter.mpr ⟨List.mem_append_right _ (List.mem_of_getElem? (i := 641) (by rfl)), rfl⟩, List.mem_filter.mpr ⟨List.mem_append_right _ (List.mem_of_getElem? (i := 2) (by rfl)), rfl⟩, by decide, ⟨by decide, by decide⟩, gd_65, gh_65, gi_65, by decide⟩
theorem gd_66 : ∀ q ∈ gc_66, decode prog_1_method_17_code q.1 = .ok (q.2.1, q.2.2.1) := by decide +kernel
theorem gh_66 : ∀ q ∈ gc_66, gchk "GiftShops" "where" q = true := by decide +kernel
theorem gi_66 : ∀ q ∈ gc_66, gchkI gMT "GiftShops" q = true := by decide +kernel
set_option maxRecDepth 100000 in
theorem gm_66 : gMOK gMT gro_66 := ⟨fun _ => List.mem_filter.mpr ⟨List.mem_append_right _ (List.mem_of_getElem? (i := 645) (by rfl)), rfl⟩, List.mem_filter.mpr ⟨List.mem_append_right _ (List.mem_of_getElem? (i := 1) (by rfl)), rfl⟩, by decide, ⟨by decide, by decide⟩, gd_66, gh_66, gi_66, by decide⟩
theorem gd_67 : ∀ q ∈ gc_67, decode prog_1_method_41_code q.1 = .ok (q.2.1, q.2.2.1) := by decide +kernel
theorem gh_67 : ∀ q ∈ gc_67, gchk "GiftShops" "betterShop" q = true := by decide +kernel
theorem gi_67 : ∀ q ∈ gc_67, gchkI gMT "GiftShops" q = true := by decide +kernel
set_option maxRecDepth 100000 in
theorem gm_67 : gMOK gMT gro_67 := ⟨fun _ => List.mem_filter.mpr ⟨List.mem_append_right _ (List.mem_of_getElem? (i := 649) (by rfl)), rfl⟩, List.mem_filter.mpr ⟨List.mem_append_right _ (List.mem_of_getElem? (i := 1) (by rfl)), rfl⟩, by decide, ⟨by decide, by decide⟩, gd_67, gh_67, gi_67, by decide⟩
theorem gd_68 : ∀ q ∈ gc_68, decode prog_1_method_18_code q.1 = .ok (q.2.1, q.2.2.1) := by decide +kernel
theorem gh_68 : ∀ q ∈ gc_68, gchk "GiftShops" "move" q = true := by decide +kernel
theorem gi_68 : ∀ q ∈ gc_68, gchkI gMT "GiftShops" q = true := by decide +kernel
set_option maxRecDepth 100000 in
theorem gm_68 : gMOK gMT gro_68 := ⟨fun _ => List.mem_filter.mpr ⟨List.mem_append_right _ (List.mem_of_getElem? (i := 653) (by rfl)), rfl⟩, List.mem_filter.mpr ⟨List.mem_append_right _ (List.mem_of_getElem? (i := 1) (by rfl)), rfl⟩, by decide, ⟨by decide, by decide⟩, gd_68, gh_68, gi_68, by decide⟩
theorem gd_69 : ∀ q ∈ gc_69, decode prog_1_method_19_code q.1 = .ok (q.2.1, q.2.2.1) := by decide +kernel
theorem gh_69 : ∀ q ∈ gc_69, gchk "GiftShops" "van" q = true := by decide +kernel
theorem gi_69 : ∀ q ∈ gc_69, gchkI gMT "GiftShops" q = true := by decide +kernel
set_option maxRecDepth 100000 in
theorem gm_69 : gMOK gMT gro_69 := ⟨fun _ => List.mem_filter.mpr ⟨List.mem_append_right _ (List.mem_of_getElem? (i := 657) (by rfl)), rfl⟩, List.mem_filter.mpr ⟨List.mem_append_right _ (List.mem_of_getElem? (i := 1) (by rfl)), rfl⟩, by decide, ⟨by decide, by decide⟩, gd_69, gh_69, gi_69, by decide⟩
theorem gd_70 : ∀ q ∈ gc_70, decode prog_1_method_20_code q.1 = .ok (q.2.1, q.2.2.1) := by decide +kernel
theorem gh_70 : ∀ q ∈ gc_70, gchk "GiftShops" "way" q = true := by decide +kernel
theorem gi_70 : ∀ q ∈ gc_70, gchkI gMT "GiftShops" q = true := by decide +kernel
set_option maxRecDepth 100000 in
theorem gm_70 : gMOK gMT gro_70 := ⟨fun _ => List.mem_filter.mpr ⟨List.mem_append_right _ (List.mem_of_getElem? (i := 661) (by rfl)), rfl⟩, List.mem_filter.mpr ⟨List.mem_append_right _ (List.mem_of_getElem? (i := 1) (by rfl)), rfl⟩, by decide, ⟨by decide, by decide⟩, gd_70, gh_70, gi_70, by decide⟩
theorem gd_71 : ∀ q ∈ gc_71, decode prog_3_method_2_code q.1 = .ok (q.2.1, q.2.2.1) := by decide +kernel
theorem gh_71 : ∀ q ∈ gc_71, gchk "GiftShops$Roads" "tell" q = true := by decide +kernel
theorem gi_71 : ∀ q ∈ gc_71, gchkI gMT "GiftShops$Roads" q = true := by decide +kernel
set_option maxRecDepth 100000 in
theorem gm_71 : gMOK gMT gro_71 := ⟨fun _ => List.mem_filter.mpr ⟨List.mem_append_right _ (List.mem_of_getElem? (i := 665) (by rfl)), rfl⟩, List.mem_filter.mpr ⟨List.mem_append_right _ (List.mem_of_getElem? (i := 7) (by rfl)), rfl⟩, by decide, ⟨by decide, by decide⟩, gd_71, gh_71, gi_71, by decide⟩
theorem gd_72 : ∀ q ∈ gc_72, decode prog_1_method_21_code q.1 = .ok (q.2.1, q.2.2.1) := by decide +kernel
theorem gh_72 : ∀ q ∈ gc_72, gchk "GiftShops" "round" q = true := by decide +kernel
theorem gi_72 : ∀ q ∈ gc_72, gchkI gMT "GiftShops" q = true := by decide +kernel
set_option maxRecDepth 100000 in
theorem gm_72 : gMOK gMT gro_72 := ⟨fun _ => List.mem_filter.mpr ⟨List.mem_append_right _ (List.mem_of_getElem? (i := 670) (by rfl)), rfl⟩, List.mem_filter.mpr ⟨List.mem_append_right _ (List.mem_of_getElem? (i := 1) (by rfl)), rfl⟩, by decide, ⟨by decide, by decide⟩, gd_72, gh_72, gi_72, by decide⟩
theorem gd_73 : ∀ q ∈ gc_73, decode prog_3_method_3_code q.1 = .ok (q.2.1, q.2.2.1) := by decide +kernel
theorem gh_73 : ∀ q ∈ gc_73, gchk "GiftShops$Roads" "shortestRound" q = true := by decide +kernel
theorem gi_73 : ∀ q ∈ gc_73, gchkI gMT "GiftShops$Roads" q = true := by decide +kernel
set_option maxRecDepth 100000 in
theorem gm_73 : gMOK gMT gro_73 := ⟨fun _ => List.mem_filter.mpr ⟨List.mem_append_right _ (List.mem_of_getElem? (i := 674) (by rfl)), rfl⟩, List.mem_filter.mpr ⟨List.mem_append_right _ (List.mem_of_getElem? (i := 7) (by rfl)), rfl⟩, by decide, ⟨by decide, by decide⟩, gd_73, gh_73, gi_73, by decide⟩
theorem gd_74 : ∀ q ∈ gc_74, decode prog_3_method_4_code q.1 = .ok (q.2.1, q.2.2.1) := by decide +kernel
theorem gh_74 : ∀ q ∈ gc_74, gchk "GiftShops$Roads" "fillPart" q = true := by decide +kernel
theorem gi_74 : ∀ q ∈ gc_74, gchkI gMT "GiftShops$Roads" q = true := by decide +kernel
set_option maxRecDepth 100000 in
theorem gm_74 : gMOK gMT gro_74 := ⟨fun _ => List.mem_filter.mpr ⟨List.mem_append_right _ (List.mem_of_getElem? (i := 678) (by rfl)), rfl⟩, List.mem_filter.mpr ⟨List.mem_append_right _ (List.mem_of_getElem? (i := 7) (by rfl)), rfl⟩, by decide, ⟨by decide, by decide⟩, gd_74, gh_74, gi_74, by decide⟩
theorem gd_75 : ∀ q ∈ gc_75, decode prog_3_method_5_code q.1 = .ok (q.2.1, q.2.2.1) := by decide +kernel
theorem gh_75 : ∀ q ∈ gc_75, gchk "GiftShops$Roads" "leastInto" q = true := by decide +kernel
theorem gi_75 : ∀ q ∈ gc_75, gchkI gMT "GiftShops$Roads" q = true := by decide +kernel
set_option maxRecDepth 100000 in
theorem gm_75 : gMOK gMT gro_75 := ⟨fun _ => List.mem_filter.mpr ⟨List.mem_append_right _ (List.mem_of_getElem? (i := 682) (by rfl)), rfl⟩, List.mem_filter.mpr ⟨List.mem_append_right _ (List.mem_of_getElem? (i := 7) (by rfl)), rfl⟩, by decide, ⟨by decide, by decide⟩, gd_75, gh_75, gi_75, by decide⟩
theorem gd_76 : ∀ q ∈ gc_76, decode prog_1_method_22_code q.1 = .ok (q.2.1, q.2.2.1) := by decide +kernel
theorem gh_76 : ∀ q ∈ gc_76, gchk "GiftShops" "helper" q = true := by decide +kernel
theorem gi_76 : ∀ q ∈ gc_76, gchkI gMT "GiftShops" q = true := by decide +kernel
set_option maxRecDepth 100000 in
theorem gm_76 : gMOK gMT gro_76 := ⟨fun _ => List.mem_filter.mpr ⟨List.mem_append_right _ (List.mem_of_getElem? (i := 688) (by rfl)), rfl⟩, List.mem_filter.mpr ⟨List.mem_append_right _ (List.mem_of_getElem? (i := 1) (by rfl)), rfl⟩, by decide, ⟨by decide, by decide⟩, gd_76, gh_76, gi_76, by decide⟩
theorem gd_77 : ∀ q ∈ gc_77, decode prog_10_method_2_code q.1 = .ok (q.2.1, q.2.2.1) := by decide +kernel
theorem gh_77 : ∀ q ∈ gc_77, gchk "GiftShops$Turns" "addHelper" q = true := by decide +kernel
theorem gi_77 : ∀ q ∈ gc_77, gchkI gMT "GiftShops$Turns" q = true := by decide +kernel
set_option maxRecDepth 100000 in
theorem gm_77 : gMOK gMT gro_77 := ⟨fun _ => List.mem_filter.mpr ⟨List.mem_append_right _ (List.mem_of_getElem? (i := 692) (by rfl)), rfl⟩, List.mem_filter.mpr ⟨List.mem_append_right _ (List.mem_of_getElem? (i := 8) (by rfl)), rfl⟩, by decide, ⟨by decide, by decide⟩, gd_77, gh_77, gi_77, by decide⟩
theorem gd_78 : ∀ q ∈ gc_78, decode prog_1_method_23_code q.1 = .ok (q.2.1, q.2.2.1) := by decide +kernel
theorem gh_78 : ∀ q ∈ gc_78, gchk "GiftShops" "least" q = true := by decide +kernel
theorem gi_78 : ∀ q ∈ gc_78, gchkI gMT "GiftShops" q = true := by decide +kernel
set_option maxRecDepth 100000 in
theorem gm_78 : gMOK gMT gro_78 := ⟨fun _ => List.mem_filter.mpr ⟨List.mem_append_right _ (List.mem_of_getElem? (i := 697) (by rfl)), rfl⟩, List.mem_filter.mpr ⟨List.mem_append_right _ (List.mem_of_getElem? (i := 1) (by rfl)), rfl⟩, by decide, ⟨by decide, by decide⟩, gd_78, gh_78, gi_78, by decide⟩
theorem gd_79 : ∀ q ∈ gc_79, decode prog_10_method_3_code q.1 = .ok (q.2.1, q.2.2.1) := by decide +kernel
theorem gh_79 : ∀ q ∈ gc_79, gchk "GiftShops$Turns" "leastTurns" q = true := by decide +kernel
theorem gi_79 : ∀ q ∈ gc_79, gchkI gMT "GiftShops$Turns" q = true := by decide +kernel
set_option maxRecDepth 100000 in
theorem gm_79 : gMOK gMT gro_79 := ⟨fun _ => List.mem_filter.mpr ⟨List.mem_append_right _ (List.mem_of_getElem? (i := 701) (by rfl)), rfl⟩, List.mem_filter.mpr ⟨List.mem_append_right _ (List.mem_of_getElem? (i := 8) (by rfl)), rfl⟩, by decide, ⟨by decide, by decide⟩, gd_79, gh_79, gi_79, by decide⟩
theorem gd_80 : ∀ q ∈ gc_80, decode prog_10_method_4_code q.1 = .ok (q.2.1, q.2.2.1) := by decide +kernel
theorem gh_80 : ∀ q ∈ gc_80, gchk "GiftShops$Turns" "eachDayHasTwo" q = true := by decide +kernel
theorem gi_80 : ∀ q ∈ gc_80, gchkI gMT "GiftShops$Turns" q = true := by decide +kernel
set_option maxRecDepth 100000 in
theorem gm_80 : gMOK gMT gro_80 := ⟨fun _ => List.mem_filter.mpr ⟨List.mem_append_right _ (List.mem_of_getElem? (i := 705) (by rfl)), rfl⟩, List.mem_filter.mpr ⟨List.mem_append_right _ (List.mem_of_getElem? (i := 8) (by rfl)), rfl⟩, by decide, ⟨by decide, by decide⟩, gd_80, gh_80, gi_80, by decide⟩
theorem gd_81 : ∀ q ∈ gc_81, decode prog_10_method_5_code q.1 = .ok (q.2.1, q.2.2.1) := by decide +kernel
theorem gh_81 : ∀ q ∈ gc_81, gchk "GiftShops$Turns" "helpersOn" q = true := by decide +kernel
theorem gi_81 : ∀ q ∈ gc_81, gchkI gMT "GiftShops$Turns" q = true := by decide +kernel
set_option maxRecDepth 100000 in
theorem gm_81 : gMOK gMT gro_81 := ⟨fun _ => List.mem_filter.mpr ⟨List.mem_append_right _ (List.mem_of_getElem? (i := 709) (by rfl)), rfl⟩, List.mem_filter.mpr ⟨List.mem_append_right _ (List.mem_of_getElem? (i := 8) (by rfl)), rfl⟩, by decide, ⟨by decide, by decide⟩, gd_81, gh_81, gi_81, by decide⟩
theorem gd_82 : ∀ q ∈ gc_82, decode prog_10_method_6_code q.1 = .ok (q.2.1, q.2.2.1) := by decide +kernel
theorem gh_82 : ∀ q ∈ gc_82, gchk "GiftShops$Turns" "fillPlace" q = true := by decide +kernel
theorem gi_82 : ∀ q ∈ gc_82, gchkI gMT "GiftShops$Turns" q = true := by decide +kernel
set_option maxRecDepth 100000 in
theorem gm_82 : gMOK gMT gro_82 := ⟨fun _ => List.mem_filter.mpr ⟨List.mem_append_right _ (List.mem_of_getElem? (i := 713) (by rfl)), rfl⟩, List.mem_filter.mpr ⟨List.mem_append_right _ (List.mem_of_getElem? (i := 8) (by rfl)), rfl⟩, by decide, ⟨by decide, by decide⟩, gd_82, gh_82, gi_82, by decide⟩
theorem gd_83 : ∀ q ∈ gc_83, decode prog_10_method_7_code q.1 = .ok (q.2.1, q.2.2.1) := by decide +kernel
theorem gh_83 : ∀ q ∈ gc_83, gchk "GiftShops$Turns" "findHelper" q = true := by decide +kernel
theorem gi_83 : ∀ q ∈ gc_83, gchkI gMT "GiftShops$Turns" q = true := by decide +kernel
set_option maxRecDepth 100000 in
theorem gm_83 : gMOK gMT gro_83 := ⟨fun _ => List.mem_filter.mpr ⟨List.mem_append_right _ (List.mem_of_getElem? (i := 717) (by rfl)), rfl⟩, List.mem_filter.mpr ⟨List.mem_append_right _ (List.mem_of_getElem? (i := 8) (by rfl)), rfl⟩, by decide, ⟨by decide, by decide⟩, gd_83, gh_83, gi_83, by decide⟩
theorem gd_84 : ∀ q ∈ gc_84, decode prog_10_method_8_code q.1 = .ok (q.2.1, q.2.2.1) := by decide +kernel
theorem gh_84 : ∀ q ∈ gc_84, gchk "GiftShops$Turns" "handOver" q = true := by decide +kernel
theorem gi_84 : ∀ q ∈ gc_84, gchkI gMT "GiftShops$Turns" q = true := by decide +kernel
set_option maxRecDepth 100000 in
theorem gm_84 : gMOK gMT gro_84 := ⟨fun _ => List.mem_filter.mpr ⟨List.mem_append_right _ (List.mem_of_getElem? (i := 727) (by rfl)), rfl⟩, List.mem_filter.mpr ⟨List.mem_append_right _ (List.mem_of_getElem? (i := 8) (by rfl)), rfl⟩, by decide, ⟨by decide, by decide⟩, gd_84, gh_84, gi_84, by decide⟩
theorem gd_85 : ∀ q ∈ gc_85, decode prog_1_method_24_code q.1 = .ok (q.2.1, q.2.2.1) := by decide +kernel
theorem gh_85 : ∀ q ∈ gc_85, gchk "GiftShops" "rate" q = true := by decide +kernel
theorem gi_85 : ∀ q ∈ gc_85, gchkI gMT "GiftShops" q = true := by decide +kernel
set_option maxRecDepth 100000 in
theorem gm_85 : gMOK gMT gro_85 := ⟨fun _ => List.mem_filter.mpr ⟨List.mem_append_right _ (List.mem_of_getElem? (i := 731) (by rfl)), rfl⟩, List.mem_filter.mpr ⟨List.mem_append_right _ (List.mem_of_getElem? (i := 1) (by rfl)), rfl⟩, by decide, ⟨by decide, by decide⟩, gd_85, gh_85, gi_85, by decide⟩
theorem gd_86 : ∀ q ∈ gc_86, decode prog_1_method_25_code q.1 = .ok (q.2.1, q.2.2.1) := by decide +kernel
theorem gh_86 : ∀ q ∈ gc_86, gchk "GiftShops" "relief" q = true := by decide +kernel
theorem gi_86 : ∀ q ∈ gc_86, gchkI gMT "GiftShops" q = true := by decide +kernel
set_option maxRecDepth 100000 in
theorem gm_86 : gMOK gMT gro_86 := ⟨fun _ => List.mem_filter.mpr ⟨List.mem_append_right _ (List.mem_of_getElem? (i := 735) (by rfl)), rfl⟩, List.mem_filter.mpr ⟨List.mem_append_right _ (List.mem_of_getElem? (i := 1) (by rfl)), rfl⟩, by decide, ⟨by decide, by decide⟩, gd_86, gh_86, gi_86, by decide⟩
theorem gd_87 : ∀ q ∈ gc_87, decode prog_1_method_27_code q.1 = .ok (q.2.1, q.2.2.1) := by decide +kernel
theorem gh_87 : ∀ q ∈ gc_87, gchk "GiftShops" "count" q = true := by decide +kernel
theorem gi_87 : ∀ q ∈ gc_87, gchkI gMT "GiftShops" q = true := by decide +kernel
set_option maxRecDepth 100000 in
theorem gm_87 : gMOK gMT gro_87 := ⟨fun _ => List.mem_filter.mpr ⟨List.mem_append_right _ (List.mem_of_getElem? (i := 739) (by rfl)), rfl⟩, List.mem_filter.mpr ⟨List.mem_append_right _ (List.mem_of_getElem? (i := 1) (by rfl)), rfl⟩, by decide, ⟨by decide, by decide⟩, gd_87, gh_87, gi_87, by decide⟩
theorem gd_88 : ∀ q ∈ gc_88, decode prog_1_method_42_code q.1 = .ok (q.2.1, q.2.2.1) := by decide +kernel
theorem gh_88 : ∀ q ∈ gc_88, gchk "GiftShops" "validSales" q = true := by decide +kernel
theorem gi_88 : ∀ q ∈ gc_88, gchkI gMT "GiftShops" q = true := by decide +kernel
set_option maxRecDepth 100000 in
theorem gm_88 : gMOK gMT gro_88 := ⟨fun _ => List.mem_filter.mpr ⟨List.mem_append_right _ (List.mem_of_getElem? (i := 743) (by rfl)), rfl⟩, List.mem_filter.mpr ⟨List.mem_append_right _ (List.mem_of_getElem? (i := 1) (by rfl)), rfl⟩, by decide, ⟨by decide, by decide⟩, gd_88, gh_88, gi_88, by decide⟩
theorem gd_89 : ∀ q ∈ gc_89, decode prog_1_method_43_code q.1 = .ok (q.2.1, q.2.2.1) := by decide +kernel
theorem gh_89 : ∀ q ∈ gc_89, gchk "GiftShops" "validSum" q = true := by decide +kernel
theorem gi_89 : ∀ q ∈ gc_89, gchkI gMT "GiftShops" q = true := by decide +kernel
set_option maxRecDepth 100000 in
theorem gm_89 : gMOK gMT gro_89 := ⟨fun _ => List.mem_filter.mpr ⟨List.mem_append_right _ (List.mem_of_getElem? (i := 747) (by rfl)), rfl⟩, List.mem_filter.mpr ⟨List.mem_append_right _ (List.mem_of_getElem? (i := 1) (by rfl)), rfl⟩, by decide, ⟨by decide, by decide⟩, gd_89, gh_89, gi_89, by decide⟩
theorem gd_90 : ∀ q ∈ gc_90, decode prog_1_method_44_code q.1 = .ok (q.2.1, q.2.2.1) := by decide +kernel
theorem gh_90 : ∀ q ∈ gc_90, gchk "GiftShops" "thingsThatAre" q = true := by decide +kernel
theorem gi_90 : ∀ q ∈ gc_90, gchkI gMT "GiftShops" q = true := by decide +kernel
set_option maxRecDepth 100000 in
theorem gm_90 : gMOK gMT gro_90 := ⟨fun _ => List.mem_filter.mpr ⟨List.mem_append_right _ (List.mem_of_getElem? (i := 751) (by rfl)), rfl⟩, List.mem_filter.mpr ⟨List.mem_append_right _ (List.mem_of_getElem? (i := 1) (by rfl)), rfl⟩, by decide, ⟨by decide, by decide⟩, gd_90, gh_90, gi_90, by decide⟩
theorem gd_91 : ∀ q ∈ gc_91, decode prog_1_method_26_code q.1 = .ok (q.2.1, q.2.2.1) := by decide +kernel
theorem gh_91 : ∀ q ∈ gc_91, gchk "GiftShops" "look" q = true := by decide +kernel
theorem gi_91 : ∀ q ∈ gc_91, gchkI gMT "GiftShops" q = true := by decide +kernel
set_option maxRecDepth 100000 in
theorem gm_91 : gMOK gMT gro_91 := ⟨fun _ => List.mem_filter.mpr ⟨List.mem_append_right _ (List.mem_of_getElem? (i := 759) (by rfl)), rfl⟩, List.mem_filter.mpr ⟨List.mem_append_right _ (List.mem_of_getElem? (i := 1) (by rfl)), rfl⟩, by decide, ⟨by decide, by decide⟩, gd_91, gh_91, gi_91, by decide⟩
theorem gd_92 : ∀ q ∈ gc_92, decode prog_12_method_1_code q.1 = .ok (q.2.1, q.2.2.1) := by decide +kernel
theorem gh_92 : ∀ q ∈ gc_92, gchk "GiftShopsModel" "thrown" q = true := by decide +kernel
theorem gi_92 : ∀ q ∈ gc_92, gchkI gMT "GiftShopsModel" q = true := by decide +kernel
set_option maxRecDepth 100000 in
theorem gm_92 : gMOK gMT gro_92 := ⟨fun _ => List.mem_filter.mpr ⟨List.mem_append_right _ (List.mem_of_getElem? (i := 828) (by rfl)), rfl⟩, List.mem_filter.mpr ⟨List.mem_append_right _ (List.mem_of_getElem? (i := 9) (by rfl)), rfl⟩, by decide, ⟨by decide, by decide⟩, gd_92, gh_92, gi_92, by decide⟩
theorem gd_93 : ∀ q ∈ gc_93, decode prog_12_method_2_code q.1 = .ok (q.2.1, q.2.2.1) := by decide +kernel
theorem gh_93 : ∀ q ∈ gc_93, gchk "GiftShopsModel" "feed" q = true := by decide +kernel
theorem gi_93 : ∀ q ∈ gc_93, gchkI gMT "GiftShopsModel" q = true := by decide +kernel
set_option maxRecDepth 100000 in
theorem gm_93 : gMOK gMT gro_93 := ⟨fun _ => List.mem_filter.mpr ⟨List.mem_append_right _ (List.mem_of_getElem? (i := 832) (by rfl)), rfl⟩, List.mem_filter.mpr ⟨List.mem_append_right _ (List.mem_of_getElem? (i := 9) (by rfl)), rfl⟩, by decide, ⟨by decide, by decide⟩, gd_93, gh_93, gi_93, by decide⟩
theorem gd_94 : ∀ q ∈ gc_94, decode prog_12_method_3_code q.1 = .ok (q.2.1, q.2.2.1) := by decide +kernel
theorem gh_94 : ∀ q ∈ gc_94, gchk "GiftShopsModel" "lay" q = true := by decide +kernel
theorem gi_94 : ∀ q ∈ gc_94, gchkI gMT "GiftShopsModel" q = true := by decide +kernel
set_option maxRecDepth 100000 in
theorem gm_94 : gMOK gMT gro_94 := ⟨fun _ => List.mem_filter.mpr ⟨List.mem_append_right _ (List.mem_of_getElem? (i := 837) (by rfl)), rfl⟩, List.mem_filter.mpr ⟨List.mem_append_right _ (List.mem_of_getElem? (i := 9) (by rfl)), rfl⟩, by decide, ⟨by decide, by decide⟩, gd_94, gh_94, gi_94, by decide⟩
end
section
theorem gd_95 : ∀ q ∈ gc_95, decode prog_12_method_4_code q.1 = .ok (q.2.1, q.2.2.1) := by decide +kernel
theorem gh_95 : ∀ q ∈ gc_95, gchk "GiftShopsModel" "<init>" q = true := by decide +kernel
theorem gi_95 : ∀ q ∈ gc_95, gchkI gMT "GiftShopsModel" q = true := by decide +kernel
set_option maxRecDepth 100000 in
theorem gm_95 : gMOK gMT gro_95 := ⟨fun _ => List.mem_filter.mpr ⟨List.mem_append_right _ (List.mem_of_getElem? (i := 841) (by rfl)), rfl⟩, List.mem_filter.mpr ⟨List.mem_append_right _ (List.mem_of_getElem? (i := 9) (by rfl)), rfl⟩, by decide, ⟨by decide, by decide⟩, gd_95, gh_95, gi_95, by decide⟩
theorem gd_96 : ∀ q ∈ gc_96, decode prog_12_method_18_code q.1 = .ok (q.2.1, q.2.2.1) := by decide +kernel
theorem gh_96 : ∀ q ∈ gc_96, gchk "GiftShopsModel" "text" q = true := by decide +kernel
theorem gi_96 : ∀ q ∈ gc_96, gchkI gMT "GiftShopsModel" q = true := by decide +kernel
set_option maxRecDepth 100000 in
theorem gm_96 : gMOK gMT gro_96 := ⟨fun _ => List.mem_filter.mpr ⟨List.mem_append_right _ (List.mem_of_getElem? (i := 1023) (by rfl)), rfl⟩, List.mem_filter.mpr ⟨List.mem_append_right _ (List.mem_of_getElem? (i := 9) (by rfl)), rfl⟩, by decide, ⟨by decide, by decide⟩, gd_96, gh_96, gi_96, by decide⟩
theorem gd_97 : ∀ q ∈ gc_97, decode prog_12_method_9_code q.1 = .ok (q.2.1, q.2.2.1) := by decide +kernel
theorem gh_97 : ∀ q ∈ gc_97, gchk "GiftShopsModel" "cutAll" q = true := by decide +kernel
theorem gi_97 : ∀ q ∈ gc_97, gchkI gMT "GiftShopsModel" q = true := by decide +kernel
set_option maxRecDepth 100000 in
theorem gm_97 : gMOK gMT gro_97 := ⟨fun _ => List.mem_filter.mpr ⟨List.mem_append_right _ (List.mem_of_getElem? (i := 1027) (by rfl)), rfl⟩, List.mem_filter.mpr ⟨List.mem_append_right _ (List.mem_of_getElem? (i := 9) (by rfl)), rfl⟩, by decide, ⟨by decide, by decide⟩, gd_97, gh_97, gi_97, by decide⟩
theorem gd_98 : ∀ q ∈ gc_98, decode prog_12_method_5_code q.1 = .ok (q.2.1, q.2.2.1) := by decide +kernel
theorem gh_98 : ∀ q ∈ gc_98, gchk "GiftShopsModel" "isLetter" q = true := by decide +kernel
theorem gi_98 : ∀ q ∈ gc_98, gchkI gMT "GiftShopsModel" q = true := by decide +kernel
set_option maxRecDepth 100000 in
theorem gm_98 : gMOK gMT gro_98 := ⟨fun _ => List.mem_filter.mpr ⟨List.mem_append_right _ (List.mem_of_getElem? (i := 1030) (by rfl)), rfl⟩, List.mem_filter.mpr ⟨List.mem_append_right _ (List.mem_of_getElem? (i := 9) (by rfl)), rfl⟩, by decide, ⟨by decide, by decide⟩, gd_98, gh_98, gi_98, by decide⟩
theorem gd_99 : ∀ q ∈ gc_99, decode prog_12_method_7_code q.1 = .ok (q.2.1, q.2.2.1) := by decide +kernel
theorem gh_99 : ∀ q ∈ gc_99, gchk "GiftShopsModel" "rank" q = true := by decide +kernel
theorem gi_99 : ∀ q ∈ gc_99, gchkI gMT "GiftShopsModel" q = true := by decide +kernel
set_option maxRecDepth 100000 in
theorem gm_99 : gMOK gMT gro_99 := ⟨fun _ => List.mem_filter.mpr ⟨List.mem_append_right _ (List.mem_of_getElem? (i := 1034) (by rfl)), rfl⟩, List.mem_filter.mpr ⟨List.mem_append_right _ (List.mem_of_getElem? (i := 9) (by rfl)), rfl⟩, by decide, ⟨by decide, by decide⟩, gd_99, gh_99, gi_99, by decide⟩
theorem gd_100 : ∀ q ∈ gc_100, decode prog_12_method_6_code q.1 = .ok (q.2.1, q.2.2.1) := by decide +kernel
theorem gh_100 : ∀ q ∈ gc_100, gchk "GiftShopsModel" "isDigit" q = true := by decide +kernel
theorem gi_100 : ∀ q ∈ gc_100, gchkI gMT "GiftShopsModel" q = true := by decide +kernel
set_option maxRecDepth 100000 in
theorem gm_100 : gMOK gMT gro_100 := ⟨fun _ => List.mem_filter.mpr ⟨List.mem_append_right _ (List.mem_of_getElem? (i := 1037) (by rfl)), rfl⟩, List.mem_filter.mpr ⟨List.mem_append_right _ (List.mem_of_getElem? (i := 9) (by rfl)), rfl⟩, by decide, ⟨by decide, by decide⟩, gd_100, gh_100, gi_100, by decide⟩
theorem gd_101 : ∀ q ∈ gc_101, decode prog_12_method_8_code q.1 = .ok (q.2.1, q.2.2.1) := by decide +kernel
theorem gh_101 : ∀ q ∈ gc_101, gchk "GiftShopsModel" "isSignOf" q = true := by decide +kernel
theorem gi_101 : ∀ q ∈ gc_101, gchkI gMT "GiftShopsModel" q = true := by decide +kernel
set_option maxRecDepth 100000 in
theorem gm_101 : gMOK gMT gro_101 := ⟨fun _ => List.mem_filter.mpr ⟨List.mem_append_right _ (List.mem_of_getElem? (i := 1042) (by rfl)), rfl⟩, List.mem_filter.mpr ⟨List.mem_append_right _ (List.mem_of_getElem? (i := 9) (by rfl)), rfl⟩, by decide, ⟨by decide, by decide⟩, gd_101, gh_101, gi_101, by decide⟩
theorem gd_102 : ∀ q ∈ gc_102, decode prog_12_method_19_code q.1 = .ok (q.2.1, q.2.2.1) := by decide +kernel
theorem gh_102 : ∀ q ∈ gc_102, gchk "GiftShopsModel" "line" q = true := by decide +kernel
theorem gi_102 : ∀ q ∈ gc_102, gchkI gMT "GiftShopsModel" q = true := by decide +kernel
set_option maxRecDepth 100000 in
theorem gm_102 : gMOK gMT gro_102 := ⟨fun _ => List.mem_filter.mpr ⟨List.mem_append_right _ (List.mem_of_getElem? (i := 1046) (by rfl)), rfl⟩, List.mem_filter.mpr ⟨List.mem_append_right _ (List.mem_of_getElem? (i := 9) (by rfl)), rfl⟩, by decide, ⟨by decide, by decide⟩, gd_102, gh_102, gi_102, by decide⟩
theorem gd_103 : ∀ q ∈ gc_103, decode prog_12_method_12_code q.1 = .ok (q.2.1, q.2.2.1) := by decide +kernel
theorem gh_103 : ∀ q ∈ gc_103, gchk "GiftShopsModel" "isWord" q = true := by decide +kernel
theorem gi_103 : ∀ q ∈ gc_103, gchkI gMT "GiftShopsModel" q = true := by decide +kernel
set_option maxRecDepth 100000 in
theorem gm_103 : gMOK gMT gro_103 := ⟨fun _ => List.mem_filter.mpr ⟨List.mem_append_right _ (List.mem_of_getElem? (i := 1050) (by rfl)), rfl⟩, List.mem_filter.mpr ⟨List.mem_append_right _ (List.mem_of_getElem? (i := 9) (by rfl)), rfl⟩, by decide, ⟨by decide, by decide⟩, gd_103, gh_103, gi_103, by decide⟩
theorem gd_104 : ∀ q ∈ gc_104, decode prog_12_method_10_code q.1 = .ok (q.2.1, q.2.2.1) := by decide +kernel
theorem gh_104 : ∀ q ∈ gc_104, gchk "GiftShopsModel" "wrong" q = true := by decide +kernel
theorem gi_104 : ∀ q ∈ gc_104, gchkI gMT "GiftShopsModel" q = true := by decide +kernel
set_option maxRecDepth 100000 in
theorem gm_104 : gMOK gMT gro_104 := ⟨fun _ => List.mem_filter.mpr ⟨List.mem_append_right _ (List.mem_of_getElem? (i := 1054) (by rfl)), rfl⟩, List.mem_filter.mpr ⟨List.mem_append_right _ (List.mem_of_getElem? (i := 9) (by rfl)), rfl⟩, by decide, ⟨by decide, by decide⟩, gd_104, gh_104, gi_104, by decide⟩
theorem gd_105 : ∀ q ∈ gc_105, decode prog_12_method_16_code q.1 = .ok (q.2.1, q.2.2.1) := by decide +kernel
theorem gh_105 : ∀ q ∈ gc_105, gchk "GiftShopsModel" "takeWord" q = true := by decide +kernel
theorem gi_105 : ∀ q ∈ gc_105, gchkI gMT "GiftShopsModel" q = true := by decide +kernel
set_option maxRecDepth 100000 in
theorem gm_105 : gMOK gMT gro_105 := ⟨fun _ => List.mem_filter.mpr ⟨List.mem_append_right _ (List.mem_of_getElem? (i := 1058) (by rfl)), rfl⟩, List.mem_filter.mpr ⟨List.mem_append_right _ (List.mem_of_getElem? (i := 9) (by rfl)), rfl⟩, by decide, ⟨by decide, by decide⟩, gd_105, gh_105, gi_105, by decide⟩
theorem gd_106 : ∀ q ∈ gc_106, decode prog_12_method_15_code q.1 = .ok (q.2.1, q.2.2.1) := by decide +kernel
theorem gh_106 : ∀ q ∈ gc_106, gchk "GiftShopsModel" "hasWord" q = true := by decide +kernel
theorem gi_106 : ∀ q ∈ gc_106, gchkI gMT "GiftShopsModel" q = true := by decide +kernel
set_option maxRecDepth 100000 in
theorem gm_106 : gMOK gMT gro_106 := ⟨fun _ => List.mem_filter.mpr ⟨List.mem_append_right _ (List.mem_of_getElem? (i := 1062) (by rfl)), rfl⟩, List.mem_filter.mpr ⟨List.mem_append_right _ (List.mem_of_getElem? (i := 9) (by rfl)), rfl⟩, by decide, ⟨by decide, by decide⟩, gd_106, gh_106, gi_106, by decide⟩
theorem gd_107 : ∀ q ∈ gc_107, decode prog_12_method_20_code q.1 = .ok (q.2.1, q.2.2.1) := by decide +kernel
theorem gh_107 : ∀ q ∈ gc_107, gchk "GiftShopsModel" "opens" q = true := by decide +kernel
theorem gi_107 : ∀ q ∈ gc_107, gchkI gMT "GiftShopsModel" q = true := by decide +kernel
set_option maxRecDepth 100000 in
theorem gm_107 : gMOK gMT gro_107 := ⟨fun _ => List.mem_filter.mpr ⟨List.mem_append_right _ (List.mem_of_getElem? (i := 1066) (by rfl)), rfl⟩, List.mem_filter.mpr ⟨List.mem_append_right _ (List.mem_of_getElem? (i := 9) (by rfl)), rfl⟩, by decide, ⟨by decide, by decide⟩, gd_107, gh_107, gi_107, by decide⟩
theorem gd_108 : ∀ q ∈ gc_108, decode prog_12_method_22_code q.1 = .ok (q.2.1, q.2.2.1) := by decide +kernel
theorem gh_108 : ∀ q ∈ gc_108, gchk "GiftShopsModel" "part" q = true := by decide +kernel
theorem gi_108 : ∀ q ∈ gc_108, gchkI gMT "GiftShopsModel" q = true := by decide +kernel
set_option maxRecDepth 100000 in
theorem gm_108 : gMOK gMT gro_108 := ⟨fun _ => List.mem_filter.mpr ⟨List.mem_append_right _ (List.mem_of_getElem? (i := 1070) (by rfl)), rfl⟩, List.mem_filter.mpr ⟨List.mem_append_right _ (List.mem_of_getElem? (i := 9) (by rfl)), rfl⟩, by decide, ⟨by decide, by decide⟩, gd_108, gh_108, gi_108, by decide⟩
theorem gd_109 : ∀ q ∈ gc_109, decode prog_12_method_21_code q.1 = .ok (q.2.1, q.2.2.1) := by decide +kernel
theorem gh_109 : ∀ q ∈ gc_109, gchk "GiftShopsModel" "partWord" q = true := by decide +kernel
theorem gi_109 : ∀ q ∈ gc_109, gchkI gMT "GiftShopsModel" q = true := by decide +kernel
set_option maxRecDepth 100000 in
theorem gm_109 : gMOK gMT gro_109 := ⟨fun _ => List.mem_filter.mpr ⟨List.mem_append_right _ (List.mem_of_getElem? (i := 1074) (by rfl)), rfl⟩, List.mem_filter.mpr ⟨List.mem_append_right _ (List.mem_of_getElem? (i := 9) (by rfl)), rfl⟩, by decide, ⟨by decide, by decide⟩, gd_109, gh_109, gi_109, by decide⟩
theorem gd_110 : ∀ q ∈ gc_110, decode prog_12_method_11_code q.1 = .ok (q.2.1, q.2.2.1) := by decide +kernel
theorem gh_110 : ∀ q ∈ gc_110, gchk "GiftShopsModel" "isSign" q = true := by decide +kernel
theorem gi_110 : ∀ q ∈ gc_110, gchkI gMT "GiftShopsModel" q = true := by decide +kernel
set_option maxRecDepth 100000 in
theorem gm_110 : gMOK gMT gro_110 := ⟨fun _ => List.mem_filter.mpr ⟨List.mem_append_right _ (List.mem_of_getElem? (i := 1078) (by rfl)), rfl⟩, List.mem_filter.mpr ⟨List.mem_append_right _ (List.mem_of_getElem? (i := 9) (by rfl)), rfl⟩, by decide, ⟨by decide, by decide⟩, gd_110, gh_110, gi_110, by decide⟩
theorem gd_111 : ∀ q ∈ gc_111, decode prog_12_method_14_code q.1 = .ok (q.2.1, q.2.2.1) := by decide +kernel
theorem gh_111 : ∀ q ∈ gc_111, gchk "GiftShopsModel" "hasSign" q = true := by decide +kernel
theorem gi_111 : ∀ q ∈ gc_111, gchkI gMT "GiftShopsModel" q = true := by decide +kernel
set_option maxRecDepth 100000 in
theorem gm_111 : gMOK gMT gro_111 := ⟨fun _ => List.mem_filter.mpr ⟨List.mem_append_right _ (List.mem_of_getElem? (i := 1082) (by rfl)), rfl⟩, List.mem_filter.mpr ⟨List.mem_append_right _ (List.mem_of_getElem? (i := 9) (by rfl)), rfl⟩, by decide, ⟨by decide, by decide⟩, gd_111, gh_111, gi_111, by decide⟩
theorem gd_112 : ∀ q ∈ gc_112, decode prog_12_method_17_code q.1 = .ok (q.2.1, q.2.2.1) := by decide +kernel
theorem gh_112 : ∀ q ∈ gc_112, gchk "GiftShopsModel" "emit" q = true := by decide +kernel
theorem gi_112 : ∀ q ∈ gc_112, gchkI gMT "GiftShopsModel" q = true := by decide +kernel
set_option maxRecDepth 100000 in
theorem gm_112 : gMOK gMT gro_112 := ⟨fun _ => List.mem_filter.mpr ⟨List.mem_append_right _ (List.mem_of_getElem? (i := 1086) (by rfl)), rfl⟩, List.mem_filter.mpr ⟨List.mem_append_right _ (List.mem_of_getElem? (i := 9) (by rfl)), rfl⟩, by decide, ⟨by decide, by decide⟩, gd_112, gh_112, gi_112, by decide⟩
theorem gd_113 : ∀ q ∈ gc_113, decode prog_12_method_23_code q.1 = .ok (q.2.1, q.2.2.1) := by decide +kernel
theorem gh_113 : ∀ q ∈ gc_113, gchk "GiftShopsModel" "goesOnBehind" q = true := by decide +kernel
theorem gi_113 : ∀ q ∈ gc_113, gchkI gMT "GiftShopsModel" q = true := by decide +kernel
set_option maxRecDepth 100000 in
theorem gm_113 : gMOK gMT gro_113 := ⟨fun _ => List.mem_filter.mpr ⟨List.mem_append_right _ (List.mem_of_getElem? (i := 1090) (by rfl)), rfl⟩, List.mem_filter.mpr ⟨List.mem_append_right _ (List.mem_of_getElem? (i := 9) (by rfl)), rfl⟩, by decide, ⟨by decide, by decide⟩, gd_113, gh_113, gi_113, by decide⟩
theorem gd_114 : ∀ q ∈ gc_114, decode prog_12_method_13_code q.1 = .ok (q.2.1, q.2.2.1) := by decide +kernel
theorem gh_114 : ∀ q ∈ gc_114, gchk "GiftShopsModel" "takeSign" q = true := by decide +kernel
theorem gi_114 : ∀ q ∈ gc_114, gchkI gMT "GiftShopsModel" q = true := by decide +kernel
set_option maxRecDepth 100000 in
theorem gm_114 : gMOK gMT gro_114 := ⟨fun _ => List.mem_filter.mpr ⟨List.mem_append_right _ (List.mem_of_getElem? (i := 1094) (by rfl)), rfl⟩, List.mem_filter.mpr ⟨List.mem_append_right _ (List.mem_of_getElem? (i := 9) (by rfl)), rfl⟩, by decide, ⟨by decide, by decide⟩, gd_114, gh_114, gi_114, by decide⟩
theorem gd_115 : ∀ q ∈ gc_115, decode prog_12_method_26_code q.1 = .ok (q.2.1, q.2.2.1) := by decide +kernel
theorem gh_115 : ∀ q ∈ gc_115, gchk "GiftShopsModel" "give" q = true := by decide +kernel
theorem gi_115 : ∀ q ∈ gc_115, gchkI gMT "GiftShopsModel" q = true := by decide +kernel
set_option maxRecDepth 100000 in
theorem gm_115 : gMOK gMT gro_115 := ⟨fun _ => List.mem_filter.mpr ⟨List.mem_append_right _ (List.mem_of_getElem? (i := 1098) (by rfl)), rfl⟩, List.mem_filter.mpr ⟨List.mem_append_right _ (List.mem_of_getElem? (i := 9) (by rfl)), rfl⟩, by decide, ⟨by decide, by decide⟩, gd_115, gh_115, gi_115, by decide⟩
theorem gd_116 : ∀ q ∈ gc_116, decode prog_12_method_25_code q.1 = .ok (q.2.1, q.2.2.1) := by decide +kernel
theorem gh_116 : ∀ q ∈ gc_116, gchk "GiftShopsModel" "within" q = true := by decide +kernel
theorem gi_116 : ∀ q ∈ gc_116, gchkI gMT "GiftShopsModel" q = true := by decide +kernel
set_option maxRecDepth 100000 in
theorem gm_116 : gMOK gMT gro_116 := ⟨fun _ => List.mem_filter.mpr ⟨List.mem_append_right _ (List.mem_of_getElem? (i := 1101) (by rfl)), rfl⟩, List.mem_filter.mpr ⟨List.mem_append_right _ (List.mem_of_getElem? (i := 9) (by rfl)), rfl⟩, by decide, ⟨by decide, by decide⟩, gd_116, gh_116, gi_116, by decide⟩
theorem gd_117 : ∀ q ∈ gc_117, decode prog_12_method_30_code q.1 = .ok (q.2.1, q.2.2.1) := by decide +kernel
theorem gh_117 : ∀ q ∈ gc_117, gchk "GiftShopsModel" "shelf" q = true := by decide +kernel
theorem gi_117 : ∀ q ∈ gc_117, gchkI gMT "GiftShopsModel" q = true := by decide +kernel
set_option maxRecDepth 100000 in
theorem gm_117 : gMOK gMT gro_117 := ⟨fun _ => List.mem_filter.mpr ⟨List.mem_append_right _ (List.mem_of_getElem? (i := 1105) (by rfl)), rfl⟩, List.mem_filter.mpr ⟨List.mem_append_right _ (List.mem_of_getElem? (i := 9) (by rfl)), rfl⟩, by decide, ⟨by decide, by decide⟩, gd_117, gh_117, gi_117, by decide⟩
theorem gd_118 : ∀ q ∈ gc_118, decode prog_12_method_29_code q.1 = .ok (q.2.1, q.2.2.1) := by decide +kernel
theorem gh_118 : ∀ q ∈ gc_118, gchk "GiftShopsModel" "isShop" q = true := by decide +kernel
theorem gi_118 : ∀ q ∈ gc_118, gchkI gMT "GiftShopsModel" q = true := by decide +kernel
set_option maxRecDepth 100000 in
theorem gm_118 : gMOK gMT gro_118 := ⟨fun _ => List.mem_filter.mpr ⟨List.mem_append_right _ (List.mem_of_getElem? (i := 1108) (by rfl)), rfl⟩, List.mem_filter.mpr ⟨List.mem_append_right _ (List.mem_of_getElem? (i := 9) (by rfl)), rfl⟩, by decide, ⟨by decide, by decide⟩, gd_118, gh_118, gi_118, by decide⟩
theorem gd_119 : ∀ q ∈ gc_119, decode prog_12_method_31_code q.1 = .ok (q.2.1, q.2.2.1) := by decide +kernel
theorem gh_119 : ∀ q ∈ gc_119, gchk "GiftShopsModel" "base" q = true := by decide +kernel
theorem gi_119 : ∀ q ∈ gc_119, gchkI gMT "GiftShopsModel" q = true := by decide +kernel
set_option maxRecDepth 100000 in
theorem gm_119 : gMOK gMT gro_119 := ⟨fun _ => List.mem_filter.mpr ⟨List.mem_append_right _ (List.mem_of_getElem? (i := 1112) (by rfl)), rfl⟩, List.mem_filter.mpr ⟨List.mem_append_right _ (List.mem_of_getElem? (i := 9) (by rfl)), rfl⟩, by decide, ⟨by decide, by decide⟩, gd_119, gh_119, gi_119, by decide⟩
theorem gd_120 : ∀ q ∈ gc_120, decode prog_12_method_38_code q.1 = .ok (q.2.1, q.2.2.1) := by decide +kernel
theorem gh_120 : ∀ q ∈ gc_120, gchk "GiftShopsModel" "sort" q = true := by decide +kernel
theorem gi_120 : ∀ q ∈ gc_120, gchkI gMT "GiftShopsModel" q = true := by decide +kernel
set_option maxRecDepth 100000 in
theorem gm_120 : gMOK gMT gro_120 := ⟨fun _ => List.mem_filter.mpr ⟨List.mem_append_right _ (List.mem_of_getElem? (i := 1116) (by rfl)), rfl⟩, List.mem_filter.mpr ⟨List.mem_append_right _ (List.mem_of_getElem? (i := 9) (by rfl)), rfl⟩, by decide, ⟨by decide, by decide⟩, gd_120, gh_120, gi_120, by decide⟩
theorem gd_121 : ∀ q ∈ gc_121, decode prog_12_method_27_code q.1 = .ok (q.2.1, q.2.2.1) := by decide +kernel
theorem gh_121 : ∀ q ∈ gc_121, gchk "GiftShopsModel" "isThing" q = true := by decide +kernel
theorem gi_121 : ∀ q ∈ gc_121, gchkI gMT "GiftShopsModel" q = true := by decide +kernel
set_option maxRecDepth 100000 in
theorem gm_121 : gMOK gMT gro_121 := ⟨fun _ => List.mem_filter.mpr ⟨List.mem_append_right _ (List.mem_of_getElem? (i := 1120) (by rfl)), rfl⟩, List.mem_filter.mpr ⟨List.mem_append_right _ (List.mem_of_getElem? (i := 9) (by rfl)), rfl⟩, by decide, ⟨by decide, by decide⟩, gd_121, gh_121, gi_121, by decide⟩
theorem gd_122 : ∀ q ∈ gc_122, decode prog_12_method_37_code q.1 = .ok (q.2.1, q.2.2.1) := by decide +kernel
theorem gh_122 : ∀ q ∈ gc_122, gchk "GiftShopsModel" "sorts" q = true := by decide +kernel
theorem gi_122 : ∀ q ∈ gc_122, gchkI gMT "GiftShopsModel" q = true := by decide +kernel
set_option maxRecDepth 100000 in
theorem gm_122 : gMOK gMT gro_122 := ⟨fun _ => List.mem_filter.mpr ⟨List.mem_append_right _ (List.mem_of_getElem? (i := 1124) (by rfl)), rfl⟩, List.mem_filter.mpr ⟨List.mem_append_right _ (List.mem_of_getElem? (i := 9) (by rfl)), rfl⟩, by decide, ⟨by decide, by decide⟩, gd_122, gh_122, gi_122, by decide⟩
theorem gd_123 : ∀ q ∈ gc_123, decode prog_12_method_33_code q.1 = .ok (q.2.1, q.2.2.1) := by decide +kernel
theorem gh_123 : ∀ q ∈ gc_123, gchk "GiftShopsModel" "wayOf" q = true := by decide +kernel
theorem gi_123 : ∀ q ∈ gc_123, gchkI gMT "GiftShopsModel" q = true := by decide +kernel
set_option maxRecDepth 100000 in
theorem gm_123 : gMOK gMT gro_123 := ⟨fun _ => List.mem_filter.mpr ⟨List.mem_append_right _ (List.mem_of_getElem? (i := 1128) (by rfl)), rfl⟩, List.mem_filter.mpr ⟨List.mem_append_right _ (List.mem_of_getElem? (i := 9) (by rfl)), rfl⟩, by decide, ⟨by decide, by decide⟩, gd_123, gh_123, gi_123, by decide⟩
theorem gd_124 : ∀ q ∈ gc_124, decode prog_12_method_32_code q.1 = .ok (q.2.1, q.2.2.1) := by decide +kernel
theorem gh_124 : ∀ q ∈ gc_124, gchk "GiftShopsModel" "seasonNow" q = true := by decide +kernel
theorem gi_124 : ∀ q ∈ gc_124, gchkI gMT "GiftShopsModel" q = true := by decide +kernel
set_option maxRecDepth 100000 in
theorem gm_124 : gMOK gMT gro_124 := ⟨fun _ => List.mem_filter.mpr ⟨List.mem_append_right _ (List.mem_of_getElem? (i := 1132) (by rfl)), rfl⟩, List.mem_filter.mpr ⟨List.mem_append_right _ (List.mem_of_getElem? (i := 9) (by rfl)), rfl⟩, by decide, ⟨by decide, by decide⟩, gd_124, gh_124, gi_124, by decide⟩
theorem gd_125 : ∀ q ∈ gc_125, decode prog_12_method_24_code q.1 = .ok (q.2.1, q.2.2.1) := by decide +kernel
theorem gh_125 : ∀ q ∈ gc_125, gchk "GiftShopsModel" "valueOf" q = true := by decide +kernel
theorem gi_125 : ∀ q ∈ gc_125, gchkI gMT "GiftShopsModel" q = true := by decide +kernel
set_option maxRecDepth 100000 in
theorem gm_125 : gMOK gMT gro_125 := ⟨fun _ => List.mem_filter.mpr ⟨List.mem_append_right _ (List.mem_of_getElem? (i := 1136) (by rfl)), rfl⟩, List.mem_filter.mpr ⟨List.mem_append_right _ (List.mem_of_getElem? (i := 9) (by rfl)), rfl⟩, by decide, ⟨by decide, by decide⟩, gd_125, gh_125, gi_125, by decide⟩
theorem gd_126 : ∀ q ∈ gc_126, decode prog_12_method_35_code q.1 = .ok (q.2.1, q.2.2.1) := by decide +kernel
theorem gh_126 : ∀ q ∈ gc_126, gchk "GiftShopsModel" "hasRoom" q = true := by decide +kernel
theorem gi_126 : ∀ q ∈ gc_126, gchkI gMT "GiftShopsModel" q = true := by decide +kernel
set_option maxRecDepth 100000 in
theorem gm_126 : gMOK gMT gro_126 := ⟨fun _ => List.mem_filter.mpr ⟨List.mem_append_right _ (List.mem_of_getElem? (i := 1140) (by rfl)), rfl⟩, List.mem_filter.mpr ⟨List.mem_append_right _ (List.mem_of_getElem? (i := 9) (by rfl)), rfl⟩, by decide, ⟨by decide, by decide⟩, gd_126, gh_126, gi_126, by decide⟩
theorem gd_127 : ∀ q ∈ gc_127, decode prog_12_method_34_code q.1 = .ok (q.2.1, q.2.2.1) := by decide +kernel
theorem gh_127 : ∀ q ∈ gc_127, gchk "GiftShopsModel" "onShelf" q = true := by decide +kernel
theorem gi_127 : ∀ q ∈ gc_127, gchkI gMT "GiftShopsModel" q = true := by decide +kernel
set_option maxRecDepth 100000 in
theorem gm_127 : gMOK gMT gro_127 := ⟨fun _ => List.mem_filter.mpr ⟨List.mem_append_right _ (List.mem_of_getElem? (i := 1144) (by rfl)), rfl⟩, List.mem_filter.mpr ⟨List.mem_append_right _ (List.mem_of_getElem? (i := 9) (by rfl)), rfl⟩, by decide, ⟨by decide, by decide⟩, gd_127, gh_127, gi_127, by decide⟩
theorem gd_128 : ∀ q ∈ gc_128, decode prog_12_method_36_code q.1 = .ok (q.2.1, q.2.2.1) := by decide +kernel
theorem gh_128 : ∀ q ∈ gc_128, gchk "GiftShopsModel" "comesOn" q = true := by decide +kernel
theorem gi_128 : ∀ q ∈ gc_128, gchkI gMT "GiftShopsModel" q = true := by decide +kernel
set_option maxRecDepth 100000 in
theorem gm_128 : gMOK gMT gro_128 := ⟨fun _ => List.mem_filter.mpr ⟨List.mem_append_right _ (List.mem_of_getElem? (i := 1148) (by rfl)), rfl⟩, List.mem_filter.mpr ⟨List.mem_append_right _ (List.mem_of_getElem? (i := 9) (by rfl)), rfl⟩, by decide, ⟨by decide, by decide⟩, gd_128, gh_128, gi_128, by decide⟩
theorem gd_129 : ∀ q ∈ gc_129, decode prog_12_method_39_code q.1 = .ok (q.2.1, q.2.2.1) := by decide +kernel
theorem gh_129 : ∀ q ∈ gc_129, gchk "GiftShopsModel" "says" q = true := by decide +kernel
theorem gi_129 : ∀ q ∈ gc_129, gchkI gMT "GiftShopsModel" q = true := by decide +kernel
set_option maxRecDepth 100000 in
theorem gm_129 : gMOK gMT gro_129 := ⟨fun _ => List.mem_filter.mpr ⟨List.mem_append_right _ (List.mem_of_getElem? (i := 1152) (by rfl)), rfl⟩, List.mem_filter.mpr ⟨List.mem_append_right _ (List.mem_of_getElem? (i := 9) (by rfl)), rfl⟩, by decide, ⟨by decide, by decide⟩, gd_129, gh_129, gi_129, by decide⟩
end
section
theorem gd_130 : ∀ q ∈ gc_130, decode prog_12_method_40_code q.1 = .ok (q.2.1, q.2.2.1) := by decide +kernel
theorem gh_130 : ∀ q ∈ gc_130, gchk "GiftShopsModel" "habit" q = true := by decide +kernel
theorem gi_130 : ∀ q ∈ gc_130, gchkI gMT "GiftShopsModel" q = true := by decide +kernel
set_option maxRecDepth 100000 in
theorem gm_130 : gMOK gMT gro_130 := ⟨fun _ => List.mem_filter.mpr ⟨List.mem_append_right _ (List.mem_of_getElem? (i := 1156) (by rfl)), rfl⟩, List.mem_filter.mpr ⟨List.mem_append_right _ (List.mem_of_getElem? (i := 9) (by rfl)), rfl⟩, by decide, ⟨by decide, by decide⟩, gd_130, gh_130, gi_130, by decide⟩
theorem gd_131 : ∀ q ∈ gc_131, decode prog_12_method_43_code q.1 = .ok (q.2.1, q.2.2.1) := by decide +kernel
theorem gh_131 : ∀ q ∈ gc_131, gchk "GiftShopsModel" "weeks" q = true := by decide +kernel
theorem gi_131 : ∀ q ∈ gc_131, gchkI gMT "GiftShopsModel" q = true := by decide +kernel
set_option maxRecDepth 100000 in
theorem gm_131 : gMOK gMT gro_131 := ⟨fun _ => List.mem_filter.mpr ⟨List.mem_append_right _ (List.mem_of_getElem? (i := 1160) (by rfl)), rfl⟩, List.mem_filter.mpr ⟨List.mem_append_right _ (List.mem_of_getElem? (i := 9) (by rfl)), rfl⟩, by decide, ⟨by decide, by decide⟩, gd_131, gh_131, gi_131, by decide⟩
theorem gd_132 : ∀ q ∈ gc_132, decode prog_12_method_41_code q.1 = .ok (q.2.1, q.2.2.1) := by decide +kernel
theorem gh_132 : ∀ q ∈ gc_132, gchk "GiftShopsModel" "week" q = true := by decide +kernel
theorem gi_132 : ∀ q ∈ gc_132, gchkI gMT "GiftShopsModel" q = true := by decide +kernel
set_option maxRecDepth 100000 in
theorem gm_132 : gMOK gMT gro_132 := ⟨fun _ => List.mem_filter.mpr ⟨List.mem_append_right _ (List.mem_of_getElem? (i := 1164) (by rfl)), rfl⟩, List.mem_filter.mpr ⟨List.mem_append_right _ (List.mem_of_getElem? (i := 9) (by rfl)), rfl⟩, by decide, ⟨by decide, by decide⟩, gd_132, gh_132, gi_132, by decide⟩
theorem gd_133 : ∀ q ∈ gc_133, decode prog_12_method_42_code q.1 = .ok (q.2.1, q.2.2.1) := by decide +kernel
theorem gh_133 : ∀ q ∈ gc_133, gchk "GiftShopsModel" "firstWithRoom" q = true := by decide +kernel
theorem gi_133 : ∀ q ∈ gc_133, gchkI gMT "GiftShopsModel" q = true := by decide +kernel
set_option maxRecDepth 100000 in
theorem gm_133 : gMOK gMT gro_133 := ⟨fun _ => List.mem_filter.mpr ⟨List.mem_append_right _ (List.mem_of_getElem? (i := 1168) (by rfl)), rfl⟩, List.mem_filter.mpr ⟨List.mem_append_right _ (List.mem_of_getElem? (i := 9) (by rfl)), rfl⟩, by decide, ⟨by decide, by decide⟩, gd_133, gh_133, gi_133, by decide⟩
theorem gd_134 : ∀ q ∈ gc_134, decode prog_12_method_45_code q.1 = .ok (q.2.1, q.2.2.1) := by decide +kernel
theorem gh_134 : ∀ q ∈ gc_134, gchk "GiftShopsModel" "price" q = true := by decide +kernel
theorem gi_134 : ∀ q ∈ gc_134, gchkI gMT "GiftShopsModel" q = true := by decide +kernel
set_option maxRecDepth 100000 in
theorem gm_134 : gMOK gMT gro_134 := ⟨fun _ => List.mem_filter.mpr ⟨List.mem_append_right _ (List.mem_of_getElem? (i := 1172) (by rfl)), rfl⟩, List.mem_filter.mpr ⟨List.mem_append_right _ (List.mem_of_getElem? (i := 9) (by rfl)), rfl⟩, by decide, ⟨by decide, by decide⟩, gd_134, gh_134, gi_134, by decide⟩
theorem gd_135 : ∀ q ∈ gc_135, decode prog_12_method_28_code q.1 = .ok (q.2.1, q.2.2.1) := by decide +kernel
theorem gh_135 : ∀ q ∈ gc_135, gchk "GiftShopsModel" "isOn" q = true := by decide +kernel
theorem gi_135 : ∀ q ∈ gc_135, gchkI gMT "GiftShopsModel" q = true := by decide +kernel
set_option maxRecDepth 100000 in
theorem gm_135 : gMOK gMT gro_135 := ⟨fun _ => List.mem_filter.mpr ⟨List.mem_append_right _ (List.mem_of_getElem? (i := 1176) (by rfl)), rfl⟩, List.mem_filter.mpr ⟨List.mem_append_right _ (List.mem_of_getElem? (i := 9) (by rfl)), rfl⟩, by decide, ⟨by decide, by decide⟩, gd_135, gh_135, gi_135, by decide⟩
theorem gd_136 : ∀ q ∈ gc_136, decode prog_12_method_44_code q.1 = .ok (q.2.1, q.2.2.1) := by decide +kernel
theorem gh_136 : ∀ q ∈ gc_136, gchk "GiftShopsModel" "priceOf" q = true := by decide +kernel
theorem gi_136 : ∀ q ∈ gc_136, gchkI gMT "GiftShopsModel" q = true := by decide +kernel
set_option maxRecDepth 100000 in
theorem gm_136 : gMOK gMT gro_136 := ⟨fun _ => List.mem_filter.mpr ⟨List.mem_append_right _ (List.mem_of_getElem? (i := 1180) (by rfl)), rfl⟩, List.mem_filter.mpr ⟨List.mem_append_right _ (List.mem_of_getElem? (i := 9) (by rfl)), rfl⟩, by decide, ⟨by decide, by decide⟩, gd_136, gh_136, gi_136, by decide⟩
theorem gd_137 : ∀ q ∈ gc_137, decode prog_12_method_46_code q.1 = .ok (q.2.1, q.2.2.1) := by decide +kernel
theorem gh_137 : ∀ q ∈ gc_137, gchk "GiftShopsModel" "sell" q = true := by decide +kernel
theorem gi_137 : ∀ q ∈ gc_137, gchkI gMT "GiftShopsModel" q = true := by decide +kernel
set_option maxRecDepth 100000 in
theorem gm_137 : gMOK gMT gro_137 := ⟨fun _ => List.mem_filter.mpr ⟨List.mem_append_right _ (List.mem_of_getElem? (i := 1184) (by rfl)), rfl⟩, List.mem_filter.mpr ⟨List.mem_append_right _ (List.mem_of_getElem? (i := 9) (by rfl)), rfl⟩, by decide, ⟨by decide, by decide⟩, gd_137, gh_137, gi_137, by decide⟩
theorem gd_138 : ∀ q ∈ gc_138, decode prog_12_method_47_code q.1 = .ok (q.2.1, q.2.2.1) := by decide +kernel
theorem gh_138 : ∀ q ∈ gc_138, gchk "GiftShopsModel" "undo" q = true := by decide +kernel
theorem gi_138 : ∀ q ∈ gc_138, gchkI gMT "GiftShopsModel" q = true := by decide +kernel
set_option maxRecDepth 100000 in
theorem gm_138 : gMOK gMT gro_138 := ⟨fun _ => List.mem_filter.mpr ⟨List.mem_append_right _ (List.mem_of_getElem? (i := 1188) (by rfl)), rfl⟩, List.mem_filter.mpr ⟨List.mem_append_right _ (List.mem_of_getElem? (i := 9) (by rfl)), rfl⟩, by decide, ⟨by decide, by decide⟩, gd_138, gh_138, gi_138, by decide⟩
theorem gd_139 : ∀ q ∈ gc_139, decode prog_12_method_48_code q.1 = .ok (q.2.1, q.2.2.1) := by decide +kernel
theorem gh_139 : ∀ q ∈ gc_139, gchk "GiftShopsModel" "lose" q = true := by decide +kernel
theorem gi_139 : ∀ q ∈ gc_139, gchkI gMT "GiftShopsModel" q = true := by decide +kernel
set_option maxRecDepth 100000 in
theorem gm_139 : gMOK gMT gro_139 := ⟨fun _ => List.mem_filter.mpr ⟨List.mem_append_right _ (List.mem_of_getElem? (i := 1192) (by rfl)), rfl⟩, List.mem_filter.mpr ⟨List.mem_append_right _ (List.mem_of_getElem? (i := 9) (by rfl)), rfl⟩, by decide, ⟨by decide, by decide⟩, gd_139, gh_139, gi_139, by decide⟩
theorem gd_140 : ∀ q ∈ gc_140, decode prog_12_method_49_code q.1 = .ok (q.2.1, q.2.2.1) := by decide +kernel
theorem gh_140 : ∀ q ∈ gc_140, gchk "GiftShopsModel" "thefts" q = true := by decide +kernel
theorem gi_140 : ∀ q ∈ gc_140, gchkI gMT "GiftShopsModel" q = true := by decide +kernel
set_option maxRecDepth 100000 in
theorem gm_140 : gMOK gMT gro_140 := ⟨fun _ => List.mem_filter.mpr ⟨List.mem_append_right _ (List.mem_of_getElem? (i := 1196) (by rfl)), rfl⟩, List.mem_filter.mpr ⟨List.mem_append_right _ (List.mem_of_getElem? (i := 9) (by rfl)), rfl⟩, by decide, ⟨by decide, by decide⟩, gd_140, gh_140, gi_140, by decide⟩
theorem gd_141 : ∀ q ∈ gc_141, decode prog_12_method_51_code q.1 = .ok (q.2.1, q.2.2.1) := by decide +kernel
theorem gh_141 : ∀ q ∈ gc_141, gchk "GiftShopsModel" "worth" q = true := by decide +kernel
theorem gi_141 : ∀ q ∈ gc_141, gchkI gMT "GiftShopsModel" q = true := by decide +kernel
set_option maxRecDepth 100000 in
theorem gm_141 : gMOK gMT gro_141 := ⟨fun _ => List.mem_filter.mpr ⟨List.mem_append_right _ (List.mem_of_getElem? (i := 1200) (by rfl)), rfl⟩, List.mem_filter.mpr ⟨List.mem_append_right _ (List.mem_of_getElem? (i := 9) (by rfl)), rfl⟩, by decide, ⟨by decide, by decide⟩, gd_141, gh_141, gi_141, by decide⟩
theorem gd_142 : ∀ q ∈ gc_142, decode prog_12_method_50_code q.1 = .ok (q.2.1, q.2.2.1) := by decide +kernel
theorem gh_142 : ∀ q ∈ gc_142, gchk "GiftShopsModel" "weighs" q = true := by decide +kernel
theorem gi_142 : ∀ q ∈ gc_142, gchkI gMT "GiftShopsModel" q = true := by decide +kernel
set_option maxRecDepth 100000 in
theorem gm_142 : gMOK gMT gro_142 := ⟨fun _ => List.mem_filter.mpr ⟨List.mem_append_right _ (List.mem_of_getElem? (i := 1204) (by rfl)), rfl⟩, List.mem_filter.mpr ⟨List.mem_append_right _ (List.mem_of_getElem? (i := 9) (by rfl)), rfl⟩, by decide, ⟨by decide, by decide⟩, gd_142, gh_142, gi_142, by decide⟩
theorem gd_143 : ∀ q ∈ gc_143, decode prog_12_method_53_code q.1 = .ok (q.2.1, q.2.2.1) := by decide +kernel
theorem gh_143 : ∀ q ∈ gc_143, gchk "GiftShopsModel" "where" q = true := by decide +kernel
theorem gi_143 : ∀ q ∈ gc_143, gchkI gMT "GiftShopsModel" q = true := by decide +kernel
set_option maxRecDepth 100000 in
theorem gm_143 : gMOK gMT gro_143 := ⟨fun _ => List.mem_filter.mpr ⟨List.mem_append_right _ (List.mem_of_getElem? (i := 1208) (by rfl)), rfl⟩, List.mem_filter.mpr ⟨List.mem_append_right _ (List.mem_of_getElem? (i := 9) (by rfl)), rfl⟩, by decide, ⟨by decide, by decide⟩, gd_143, gh_143, gi_143, by decide⟩
theorem gd_144 : ∀ q ∈ gc_144, decode prog_12_method_52_code q.1 = .ok (q.2.1, q.2.2.1) := by decide +kernel
theorem gh_144 : ∀ q ∈ gc_144, gchk "GiftShopsModel" "whereTo" q = true := by decide +kernel
theorem gi_144 : ∀ q ∈ gc_144, gchkI gMT "GiftShopsModel" q = true := by decide +kernel
set_option maxRecDepth 100000 in
theorem gm_144 : gMOK gMT gro_144 := ⟨fun _ => List.mem_filter.mpr ⟨List.mem_append_right _ (List.mem_of_getElem? (i := 1212) (by rfl)), rfl⟩, List.mem_filter.mpr ⟨List.mem_append_right _ (List.mem_of_getElem? (i := 9) (by rfl)), rfl⟩, by decide, ⟨by decide, by decide⟩, gd_144, gh_144, gi_144, by decide⟩
theorem gd_145 : ∀ q ∈ gc_145, decode prog_12_method_54_code q.1 = .ok (q.2.1, q.2.2.1) := by decide +kernel
theorem gh_145 : ∀ q ∈ gc_145, gchk "GiftShopsModel" "move" q = true := by decide +kernel
theorem gi_145 : ∀ q ∈ gc_145, gchkI gMT "GiftShopsModel" q = true := by decide +kernel
set_option maxRecDepth 100000 in
theorem gm_145 : gMOK gMT gro_145 := ⟨fun _ => List.mem_filter.mpr ⟨List.mem_append_right _ (List.mem_of_getElem? (i := 1216) (by rfl)), rfl⟩, List.mem_filter.mpr ⟨List.mem_append_right _ (List.mem_of_getElem? (i := 9) (by rfl)), rfl⟩, by decide, ⟨by decide, by decide⟩, gd_145, gh_145, gi_145, by decide⟩
theorem gd_146 : ∀ q ∈ gc_146, decode prog_12_method_55_code q.1 = .ok (q.2.1, q.2.2.1) := by decide +kernel
theorem gh_146 : ∀ q ∈ gc_146, gchk "GiftShopsModel" "van" q = true := by decide +kernel
theorem gi_146 : ∀ q ∈ gc_146, gchkI gMT "GiftShopsModel" q = true := by decide +kernel
set_option maxRecDepth 100000 in
theorem gm_146 : gMOK gMT gro_146 := ⟨fun _ => List.mem_filter.mpr ⟨List.mem_append_right _ (List.mem_of_getElem? (i := 1220) (by rfl)), rfl⟩, List.mem_filter.mpr ⟨List.mem_append_right _ (List.mem_of_getElem? (i := 9) (by rfl)), rfl⟩, by decide, ⟨by decide, by decide⟩, gd_146, gh_146, gi_146, by decide⟩
theorem gd_147 : ∀ q ∈ gc_147, decode prog_12_method_56_code q.1 = .ok (q.2.1, q.2.2.1) := by decide +kernel
theorem gh_147 : ∀ q ∈ gc_147, gchk "GiftShopsModel" "way" q = true := by decide +kernel
theorem gi_147 : ∀ q ∈ gc_147, gchkI gMT "GiftShopsModel" q = true := by decide +kernel
set_option maxRecDepth 100000 in
theorem gm_147 : gMOK gMT gro_147 := ⟨fun _ => List.mem_filter.mpr ⟨List.mem_append_right _ (List.mem_of_getElem? (i := 1224) (by rfl)), rfl⟩, List.mem_filter.mpr ⟨List.mem_append_right _ (List.mem_of_getElem? (i := 9) (by rfl)), rfl⟩, by decide, ⟨by decide, by decide⟩, gd_147, gh_147, gi_147, by decide⟩
theorem gd_148 : ∀ q ∈ gc_148, decode prog_12_method_58_code q.1 = .ok (q.2.1, q.2.2.1) := by decide +kernel
theorem gh_148 : ∀ q ∈ gc_148, gchk "GiftShopsModel" "round" q = true := by decide +kernel
theorem gi_148 : ∀ q ∈ gc_148, gchkI gMT "GiftShopsModel" q = true := by decide +kernel
set_option maxRecDepth 100000 in
theorem gm_148 : gMOK gMT gro_148 := ⟨fun _ => List.mem_filter.mpr ⟨List.mem_append_right _ (List.mem_of_getElem? (i := 1228) (by rfl)), rfl⟩, List.mem_filter.mpr ⟨List.mem_append_right _ (List.mem_of_getElem? (i := 9) (by rfl)), rfl⟩, by decide, ⟨by decide, by decide⟩, gd_148, gh_148, gi_148, by decide⟩
theorem gd_149 : ∀ q ∈ gc_149, decode prog_12_method_57_code q.1 = .ok (q.2.1, q.2.2.1) := by decide +kernel
theorem gh_149 : ∀ q ∈ gc_149, gchk "GiftShopsModel" "goes" q = true := by decide +kernel
theorem gi_149 : ∀ q ∈ gc_149, gchkI gMT "GiftShopsModel" q = true := by decide +kernel
set_option maxRecDepth 100000 in
theorem gm_149 : gMOK gMT gro_149 := ⟨fun _ => List.mem_filter.mpr ⟨List.mem_append_right _ (List.mem_of_getElem? (i := 1232) (by rfl)), rfl⟩, List.mem_filter.mpr ⟨List.mem_append_right _ (List.mem_of_getElem? (i := 9) (by rfl)), rfl⟩, by decide, ⟨by decide, by decide⟩, gd_149, gh_149, gi_149, by decide⟩
theorem gd_150 : ∀ q ∈ gc_150, decode prog_12_method_59_code q.1 = .ok (q.2.1, q.2.2.1) := by decide +kernel
theorem gh_150 : ∀ q ∈ gc_150, gchk "GiftShopsModel" "helper" q = true := by decide +kernel
theorem gi_150 : ∀ q ∈ gc_150, gchkI gMT "GiftShopsModel" q = true := by decide +kernel
set_option maxRecDepth 100000 in
theorem gm_150 : gMOK gMT gro_150 := ⟨fun _ => List.mem_filter.mpr ⟨List.mem_append_right _ (List.mem_of_getElem? (i := 1236) (by rfl)), rfl⟩, List.mem_filter.mpr ⟨List.mem_append_right _ (List.mem_of_getElem? (i := 9) (by rfl)), rfl⟩, by decide, ⟨by decide, by decide⟩, gd_150, gh_150, gi_150, by decide⟩
theorem gd_151 : ∀ q ∈ gc_151, decode prog_12_method_64_code q.1 = .ok (q.2.1, q.2.2.1) := by decide +kernel
theorem gh_151 : ∀ q ∈ gc_151, gchk "GiftShopsModel" "least" q = true := by decide +kernel
theorem gi_151 : ∀ q ∈ gc_151, gchkI gMT "GiftShopsModel" q = true := by decide +kernel
set_option maxRecDepth 100000 in
theorem gm_151 : gMOK gMT gro_151 := ⟨fun _ => List.mem_filter.mpr ⟨List.mem_append_right _ (List.mem_of_getElem? (i := 1240) (by rfl)), rfl⟩, List.mem_filter.mpr ⟨List.mem_append_right _ (List.mem_of_getElem? (i := 9) (by rfl)), rfl⟩, by decide, ⟨by decide, by decide⟩, gd_151, gh_151, gi_151, by decide⟩
theorem gd_152 : ∀ q ∈ gc_152, decode prog_12_method_63_code q.1 = .ok (q.2.1, q.2.2.1) := by decide +kernel
theorem gh_152 : ∀ q ∈ gc_152, gchk "GiftShopsModel" "canBe" q = true := by decide +kernel
theorem gi_152 : ∀ q ∈ gc_152, gchkI gMT "GiftShopsModel" q = true := by decide +kernel
set_option maxRecDepth 100000 in
theorem gm_152 : gMOK gMT gro_152 := ⟨fun _ => List.mem_filter.mpr ⟨List.mem_append_right _ (List.mem_of_getElem? (i := 1244) (by rfl)), rfl⟩, List.mem_filter.mpr ⟨List.mem_append_right _ (List.mem_of_getElem? (i := 9) (by rfl)), rfl⟩, by decide, ⟨by decide, by decide⟩, gd_152, gh_152, gi_152, by decide⟩
theorem gd_153 : ∀ q ∈ gc_153, decode prog_12_method_61_code q.1 = .ok (q.2.1, q.2.2.1) := by decide +kernel
theorem gh_153 : ∀ q ∈ gc_153, gchk "GiftShopsModel" "finds" q = true := by decide +kernel
theorem gi_153 : ∀ q ∈ gc_153, gchkI gMT "GiftShopsModel" q = true := by decide +kernel
set_option maxRecDepth 100000 in
theorem gm_153 : gMOK gMT gro_153 := ⟨fun _ => List.mem_filter.mpr ⟨List.mem_append_right _ (List.mem_of_getElem? (i := 1248) (by rfl)), rfl⟩, List.mem_filter.mpr ⟨List.mem_append_right _ (List.mem_of_getElem? (i := 9) (by rfl)), rfl⟩, by decide, ⟨by decide, by decide⟩, gd_153, gh_153, gi_153, by decide⟩
theorem gd_154 : ∀ q ∈ gc_154, decode prog_12_method_60_code q.1 = .ok (q.2.1, q.2.2.1) := by decide +kernel
theorem gh_154 : ∀ q ∈ gc_154, gchk "GiftShopsModel" "loadOf" q = true := by decide +kernel
theorem gi_154 : ∀ q ∈ gc_154, gchkI gMT "GiftShopsModel" q = true := by decide +kernel
set_option maxRecDepth 100000 in
theorem gm_154 : gMOK gMT gro_154 := ⟨fun _ => List.mem_filter.mpr ⟨List.mem_append_right _ (List.mem_of_getElem? (i := 1252) (by rfl)), rfl⟩, List.mem_filter.mpr ⟨List.mem_append_right _ (List.mem_of_getElem? (i := 9) (by rfl)), rfl⟩, by decide, ⟨by decide, by decide⟩, gd_154, gh_154, gi_154, by decide⟩
theorem gd_155 : ∀ q ∈ gc_155, decode prog_12_method_62_code q.1 = .ok (q.2.1, q.2.2.1) := by decide +kernel
theorem gh_155 : ∀ q ∈ gc_155, gchk "GiftShopsModel" "givesWay" q = true := by decide +kernel
theorem gi_155 : ∀ q ∈ gc_155, gchkI gMT "GiftShopsModel" q = true := by decide +kernel
set_option maxRecDepth 100000 in
theorem gm_155 : gMOK gMT gro_155 := ⟨fun _ => List.mem_filter.mpr ⟨List.mem_append_right _ (List.mem_of_getElem? (i := 1256) (by rfl)), rfl⟩, List.mem_filter.mpr ⟨List.mem_append_right _ (List.mem_of_getElem? (i := 9) (by rfl)), rfl⟩, by decide, ⟨by decide, by decide⟩, gd_155, gh_155, gi_155, by decide⟩
theorem gd_156 : ∀ q ∈ gc_156, decode prog_12_method_65_code q.1 = .ok (q.2.1, q.2.2.1) := by decide +kernel
theorem gh_156 : ∀ q ∈ gc_156, gchk "GiftShopsModel" "rate" q = true := by decide +kernel
theorem gi_156 : ∀ q ∈ gc_156, gchkI gMT "GiftShopsModel" q = true := by decide +kernel
set_option maxRecDepth 100000 in
theorem gm_156 : gMOK gMT gro_156 := ⟨fun _ => List.mem_filter.mpr ⟨List.mem_append_right _ (List.mem_of_getElem? (i := 1260) (by rfl)), rfl⟩, List.mem_filter.mpr ⟨List.mem_append_right _ (List.mem_of_getElem? (i := 9) (by rfl)), rfl⟩, by decide, ⟨by decide, by decide⟩, gd_156, gh_156, gi_156, by decide⟩
theorem gd_157 : ∀ q ∈ gc_157, decode prog_12_method_66_code q.1 = .ok (q.2.1, q.2.2.1) := by decide +kernel
theorem gh_157 : ∀ q ∈ gc_157, gchk "GiftShopsModel" "relief" q = true := by decide +kernel
theorem gi_157 : ∀ q ∈ gc_157, gchkI gMT "GiftShopsModel" q = true := by decide +kernel
set_option maxRecDepth 100000 in
theorem gm_157 : gMOK gMT gro_157 := ⟨fun _ => List.mem_filter.mpr ⟨List.mem_append_right _ (List.mem_of_getElem? (i := 1264) (by rfl)), rfl⟩, List.mem_filter.mpr ⟨List.mem_append_right _ (List.mem_of_getElem? (i := 9) (by rfl)), rfl⟩, by decide, ⟨by decide, by decide⟩, gd_157, gh_157, gi_157, by decide⟩
theorem gd_158 : ∀ q ∈ gc_158, decode prog_12_method_67_code q.1 = .ok (q.2.1, q.2.2.1) := by decide +kernel
theorem gh_158 : ∀ q ∈ gc_158, gchk "GiftShopsModel" "look" q = true := by decide +kernel
theorem gi_158 : ∀ q ∈ gc_158, gchkI gMT "GiftShopsModel" q = true := by decide +kernel
set_option maxRecDepth 100000 in
theorem gm_158 : gMOK gMT gro_158 := ⟨fun _ => List.mem_filter.mpr ⟨List.mem_append_right _ (List.mem_of_getElem? (i := 1268) (by rfl)), rfl⟩, List.mem_filter.mpr ⟨List.mem_append_right _ (List.mem_of_getElem? (i := 9) (by rfl)), rfl⟩, by decide, ⟨by decide, by decide⟩, gd_158, gh_158, gi_158, by decide⟩
theorem gd_159 : ∀ q ∈ gc_159, decode prog_12_method_69_code q.1 = .ok (q.2.1, q.2.2.1) := by decide +kernel
theorem gh_159 : ∀ q ∈ gc_159, gchk "GiftShopsModel" "count" q = true := by decide +kernel
theorem gi_159 : ∀ q ∈ gc_159, gchkI gMT "GiftShopsModel" q = true := by decide +kernel
set_option maxRecDepth 100000 in
theorem gm_159 : gMOK gMT gro_159 := ⟨fun _ => List.mem_filter.mpr ⟨List.mem_append_right _ (List.mem_of_getElem? (i := 1272) (by rfl)), rfl⟩, List.mem_filter.mpr ⟨List.mem_append_right _ (List.mem_of_getElem? (i := 9) (by rfl)), rfl⟩, by decide, ⟨by decide, by decide⟩, gd_159, gh_159, gi_159, by decide⟩
theorem gd_160 : ∀ q ∈ gc_160, decode prog_12_method_68_code q.1 = .ok (q.2.1, q.2.2.1) := by decide +kernel
theorem gh_160 : ∀ q ∈ gc_160, gchk "GiftShopsModel" "thingsThat" q = true := by decide +kernel
theorem gi_160 : ∀ q ∈ gc_160, gchkI gMT "GiftShopsModel" q = true := by decide +kernel
set_option maxRecDepth 100000 in
theorem gm_160 : gMOK gMT gro_160 := ⟨fun _ => List.mem_filter.mpr ⟨List.mem_append_right _ (List.mem_of_getElem? (i := 1276) (by rfl)), rfl⟩, List.mem_filter.mpr ⟨List.mem_append_right _ (List.mem_of_getElem? (i := 9) (by rfl)), rfl⟩, by decide, ⟨by decide, by decide⟩, gd_160, gh_160, gi_160, by decide⟩
theorem gd_161 : ∀ q ∈ gc_161, decode prog_15_method_49_code q.1 = .ok (q.2.1, q.2.2.1) := by decide +kernel
theorem gh_161 : ∀ q ∈ gc_161, gchk "java/lang/Integer" "bitCount" q = true := by decide +kernel
theorem gi_161 : ∀ q ∈ gc_161, gchkI gMT "java/lang/Integer" q = true := by decide +kernel
set_option maxRecDepth 100000 in
theorem gm_161 : gMOK gMT gro_161 := ⟨fun _ => List.mem_filter.mpr ⟨List.mem_append_right _ (List.mem_of_getElem? (i := 720) (by rfl)), rfl⟩, List.mem_filter.mpr ⟨List.mem_append_right _ (List.mem_of_getElem? (i := 18) (by rfl)), rfl⟩, by decide, ⟨by decide, by decide⟩, gd_161, gh_161, gi_161, by decide⟩
end
section
theorem gd_162_0 : ∀ q ∈ gc_162_0, decode code q.1 = .ok (q.2.1, q.2.2.1) := by decide +kernel
theorem gd_162_1 : ∀ q ∈ gc_162_1, decode code q.1 = .ok (q.2.1, q.2.2.1) := by decide +kernel
theorem gd_162_2 : ∀ q ∈ gc_162_2, decode code q.1 = .ok (q.2.1, q.2.2.1) := by decide +kernel
theorem gd_162_3 : ∀ q ∈ gc_162_3, decode code q.1 = .ok (q.2.1, q.2.2.1) := by decide +kernel
theorem gd_162_4 : ∀ q ∈ gc_162_4, decode code q.1 = .ok (q.2.1, q.2.2.1) := by decide +kernel
theorem gd_162_5 : ∀ q ∈ gc_162_5, decode code q.1 = .ok (q.2.1, q.2.2.1) := by decide +kernel
theorem gd_162_6 : ∀ q ∈ gc_162_6, decode code q.1 = .ok (q.2.1, q.2.2.1) := by decide +kernel
theorem gd_162_7 : ∀ q ∈ gc_162_7, decode code q.1 = .ok (q.2.1, q.2.2.1) := by decide +kernel
theorem gd_162_8 : ∀ q ∈ gc_162_8, decode code q.1 = .ok (q.2.1, q.2.2.1) := by decide +kernel
theorem gd_162_9 : ∀ q ∈ gc_162_9, decode code q.1 = .ok (q.2.1, q.2.2.1) := by decide +kernel
theorem gd_162_10 : ∀ q ∈ gc_162_10, decode code q.1 = .ok (q.2.1, q.2.2.1) := by decide +kernel
theorem gd_162_11 : ∀ q ∈ gc_162_11, decode code q.1 = .ok (q.2.1, q.2.2.1) := by decide +kernel
theorem gd_162_12 : ∀ q ∈ gc_162_12, decode code q.1 = .ok (q.2.1, q.2.2.1) := by decide +kernel
theorem gd_162_13 : ∀ q ∈ gc_162_13, decode code q.1 = .ok (q.2.1, q.2.2.1) := by decide +kernel
theorem gd_162_14 : ∀ q ∈ gc_162_14, decode code q.1 = .ok (q.2.1, q.2.2.1) := by decide +kernel
theorem gd_162_15 : ∀ q ∈ gc_162_15, decode code q.1 = .ok (q.2.1, q.2.2.1) := by decide +kernel
theorem gd_162_16 : ∀ q ∈ gc_162_16, decode code q.1 = .ok (q.2.1, q.2.2.1) := by decide +kernel
theorem gd_162_17 : ∀ q ∈ gc_162_17, decode code q.1 = .ok (q.2.1, q.2.2.1) := by decide +kernel
theorem gd_162 : ∀ q ∈ gc_162, decode code q.1 = .ok (q.2.1, q.2.2.1) := List.forall_mem_append.mpr ⟨gd_162_0, List.forall_mem_append.mpr ⟨gd_162_1, List.forall_mem_append.mpr ⟨gd_162_2, List.forall_mem_append.mpr ⟨gd_162_3, List.forall_mem_append.mpr ⟨gd_162_4, List.forall_mem_append.mpr ⟨gd_162_5, List.forall_mem_append.mpr ⟨gd_162_6, List.forall_mem_append.mpr ⟨gd_162_7, List.forall_mem_append.mpr ⟨gd_162_8, List.forall_mem_append.mpr ⟨gd_162_9, List.forall_mem_append.mpr ⟨gd_162_10, List.forall_mem_append.mpr ⟨gd_162_11, List.forall_mem_append.mpr ⟨gd_162_12, List.forall_mem_append.mpr ⟨gd_162_13, List.forall_mem_append.mpr ⟨gd_162_14, List.forall_mem_append.mpr ⟨gd_162_15, List.forall_mem_append.mpr ⟨gd_162_16, gd_162_17⟩⟩⟩⟩⟩⟩⟩⟩⟩⟩⟩⟩⟩⟩⟩⟩⟩
theorem gh_162_0 : ∀ q ∈ gc_162_0, gchk "GiftShopsLaw" "law" q = true := by decide +kernel
theorem gh_162_1 : ∀ q ∈ gc_162_1, gchk "GiftShopsLaw" "law" q = true := by decide +kernel
theorem gh_162_2 : ∀ q ∈ gc_162_2, gchk "GiftShopsLaw" "law" q = true := by decide +kernel
theorem gh_162_3 : ∀ q ∈ gc_162_3, gchk "GiftShopsLaw" "law" q = true := by decide +kernel
theorem gh_162_4 : ∀ q ∈ gc_162_4, gchk "GiftShopsLaw" "law" q = true := by decide +kernel
theorem gh_162_5 : ∀ q ∈ gc_162_5, gchk "GiftShopsLaw" "law" q = true := by decide +kernel
theorem gh_162_6 : ∀ q ∈ gc_162_6, gchk "GiftShopsLaw" "law" q = true := by decide +kernel
theorem gh_162_7 : ∀ q ∈ gc_162_7, gchk "GiftShopsLaw" "law" q = true := by decide +kernel
theorem gh_162_8 : ∀ q ∈ gc_162_8, gchk "GiftShopsLaw" "law" q = true := by decide +kernel
theorem gh_162_9 : ∀ q ∈ gc_162_9, gchk "GiftShopsLaw" "law" q = true := by decide +kernel
theorem gh_162_10 : ∀ q ∈ gc_162_10, gchk "GiftShopsLaw" "law" q = true := by decide +kernel
theorem gh_162_11 : ∀ q ∈ gc_162_11, gchk "GiftShopsLaw" "law" q = true := by decide +kernel
theorem gh_162_12 : ∀ q ∈ gc_162_12, gchk "GiftShopsLaw" "law" q = true := by decide +kernel
theorem gh_162_13 : ∀ q ∈ gc_162_13, gchk "GiftShopsLaw" "law" q = true := by decide +kernel
theorem gh_162_14 : ∀ q ∈ gc_162_14, gchk "GiftShopsLaw" "law" q = true := by decide +kernel
theorem gh_162_15 : ∀ q ∈ gc_162_15, gchk "GiftShopsLaw" "law" q = true := by decide +kernel
theorem gh_162_16 : ∀ q ∈ gc_162_16, gchk "GiftShopsLaw" "law" q = true := by decide +kernel
theorem gh_162_17 : ∀ q ∈ gc_162_17, gchk "GiftShopsLaw" "law" q = true := by decide +kernel
theorem gh_162 : ∀ q ∈ gc_162, gchk "GiftShopsLaw" "law" q = true := List.forall_mem_append.mpr ⟨gh_162_0, List.forall_mem_append.mpr ⟨gh_162_1, List.forall_mem_append.mpr ⟨gh_162_2, List.forall_mem_append.mpr ⟨gh_162_3, List.forall_mem_append.mpr ⟨gh_162_4, List.forall_mem_append.mpr ⟨gh_162_5, List.forall_mem_append.mpr ⟨gh_162_6, List.forall_mem_append.mpr ⟨gh_162_7, List.forall_mem_append.mpr ⟨gh_162_8, List.forall_mem_append.mpr ⟨gh_162_9, List.forall_mem_append.mpr ⟨gh_162_10, List.forall_mem_append.mpr ⟨gh_162_11, List.forall_mem_append.mpr ⟨gh_162_12, List.forall_mem_append.mpr ⟨gh_162_13, List.forall_mem_append.mpr ⟨gh_162_14, List.forall_mem_append.mpr ⟨gh_162_15, List.forall_mem_append.mpr ⟨gh_162_16, gh_162_17⟩⟩⟩⟩⟩⟩⟩⟩⟩⟩⟩⟩⟩⟩⟩⟩⟩
theorem gi_162_0 : ∀ q ∈ gc_162_0, gchkI gMT "GiftShopsLaw" q = true := by decide +kernel
theorem gi_162_1 : ∀ q ∈ gc_162_1, gchkI gMT "GiftShopsLaw" q = true := by decide +kernel
theorem gi_162_2 : ∀ q ∈ gc_162_2, gchkI gMT "GiftShopsLaw" q = true := by decide +kernel
theorem gi_162_3 : ∀ q ∈ gc_162_3, gchkI gMT "GiftShopsLaw" q = true := by decide +kernel
theorem gi_162_4 : ∀ q ∈ gc_162_4, gchkI gMT "GiftShopsLaw" q = true := by decide +kernel
theorem gi_162_5 : ∀ q ∈ gc_162_5, gchkI gMT "GiftShopsLaw" q = true := by decide +kernel
theorem gi_162_6 : ∀ q ∈ gc_162_6, gchkI gMT "GiftShopsLaw" q = true := by decide +kernel
theorem gi_162_7 : ∀ q ∈ gc_162_7, gchkI gMT "GiftShopsLaw" q = true := by decide +kernel
theorem gi_162_8 : ∀ q ∈ gc_162_8, gchkI gMT "GiftShopsLaw" q = true := by decide +kernel
theorem gi_162_9 : ∀ q ∈ gc_162_9, gchkI gMT "GiftShopsLaw" q = true := by decide +kernel
theorem gi_162_10 : ∀ q ∈ gc_162_10, gchkI gMT "GiftShopsLaw" q = true := by decide +kernel
theorem gi_162_11 : ∀ q ∈ gc_162_11, gchkI gMT "GiftShopsLaw" q = true := by decide +kernel
theorem gi_162_12 : ∀ q ∈ gc_162_12, gchkI gMT "GiftShopsLaw" q = true := by decide +kernel
theorem gi_162_13 : ∀ q ∈ gc_162_13, gchkI gMT "GiftShopsLaw" q = true := by decide +kernel
theorem gi_162_14 : ∀ q ∈ gc_162_14, gchkI gMT "GiftShopsLaw" q = true := by decide +kernel
theorem gi_162_15 : ∀ q ∈ gc_162_15, gchkI gMT "GiftShopsLaw" q = true := by decide +kernel
theorem gi_162_16 : ∀ q ∈ gc_162_16, gchkI gMT "GiftShopsLaw" q = true := by decide +kernel
theorem gi_162_17 : ∀ q ∈ gc_162_17, gchkI gMT "GiftShopsLaw" q = true := by decide +kernel
theorem gi_162 : ∀ q ∈ gc_162, gchkI gMT "GiftShopsLaw" q = true := List.forall_mem_append.mpr ⟨gi_162_0, List.forall_mem_append.mpr ⟨gi_162_1, List.forall_mem_append.mpr ⟨gi_162_2, List.forall_mem_append.mpr ⟨gi_162_3, List.forall_mem_append.mpr ⟨gi_162_4, List.forall_mem_append.mpr ⟨gi_162_5, List.forall_mem_append.mpr ⟨gi_162_6, List.forall_mem_append.mpr ⟨gi_162_7, List.forall_mem_append.mpr ⟨gi_162_8, List.forall_mem_append.mpr ⟨gi_162_9, List.forall_mem_append.mpr ⟨gi_162_10, List.forall_mem_append.mpr ⟨gi_162_11, List.forall_mem_append.mpr ⟨gi_162_12, List.forall_mem_append.mpr ⟨gi_162_13, List.forall_mem_append.mpr ⟨gi_162_14, List.forall_mem_append.mpr ⟨gi_162_15, List.forall_mem_append.mpr ⟨gi_162_16, gi_162_17⟩⟩⟩⟩⟩⟩⟩⟩⟩⟩⟩⟩⟩⟩⟩⟩⟩
set_option maxRecDepth 100000 in
theorem gm_162 : gMOK gMT gro_162 := ⟨fun h => absurd rfl h, List.mem_filter.mpr ⟨List.mem_append_right _ (List.mem_of_getElem? (i := 0) (by rfl)), rfl⟩, by decide, ⟨by decide, by decide⟩, gd_162, gh_162, gi_162, by decide⟩
end
section
theorem gMT_ok : ∀ row ∈ gMT, gMOK gMT row := List.forall_mem_cons.mpr ⟨gm_0, List.forall_mem_cons.mpr ⟨gm_1, List.forall_mem_cons.mpr ⟨gm_2, List.forall_mem_cons.mpr ⟨gm_3, List.forall_mem_cons.mpr ⟨gm_4, List.forall_mem_cons.mpr ⟨gm_5, List.forall_mem_cons.mpr ⟨gm_6, List.forall_mem_cons.mpr ⟨gm_7, List.forall_mem_cons.mpr ⟨gm_8, List.forall_mem_cons.mpr ⟨gm_9, List.forall_mem_cons.mpr ⟨gm_10, List.forall_mem_cons.mpr ⟨gm_11, List.forall_mem_cons.mpr ⟨gm_12, List.forall_mem_cons.mpr ⟨gm_13, List.forall_mem_cons.mpr ⟨gm_14, List.forall_mem_cons.mpr ⟨gm_15, List.forall_mem_cons.mpr ⟨gm_16, List.forall_mem_cons.mpr ⟨gm_17, List.forall_mem_cons.mpr ⟨gm_18, List.forall_mem_cons.mpr ⟨gm_19, List.forall_mem_cons.mpr ⟨gm_20, List.forall_mem_cons.mpr ⟨gm_21, List.forall_mem_cons.mpr ⟨gm_22, List.forall_mem_cons.mpr ⟨gm_23, List.forall_mem_cons.mpr ⟨gm_24, List.forall_mem_cons.mpr ⟨gm_25, List.forall_mem_cons.mpr ⟨gm_26, List.forall_mem_cons.mpr ⟨gm_27, List.forall_mem_cons.mpr ⟨gm_28, List.forall_mem_cons.mpr ⟨gm_29, List.forall_mem_cons.mpr ⟨gm_30, List.forall_mem_cons.mpr ⟨gm_31, List.forall_mem_cons.mpr ⟨gm_32, List.forall_mem_cons.mpr ⟨gm_33, List.forall_mem_cons.mpr ⟨gm_34, List.forall_mem_cons.mpr ⟨gm_35, List.forall_mem_cons.mpr ⟨gm_36, List.forall_mem_cons.mpr ⟨gm_37, List.forall_mem_cons.mpr ⟨gm_38, List.forall_mem_cons.mpr ⟨gm_39, List.forall_mem_cons.mpr ⟨gm_40, List.forall_mem_cons.mpr ⟨gm_41, List.forall_mem_cons.mpr ⟨gm_42, List.forall_mem_cons.mpr ⟨gm_43, List.forall_mem_cons.mpr ⟨gm_44, List.forall_mem_cons.mpr ⟨gm_45, List.forall_mem_cons.mpr ⟨gm_46, List.forall_mem_cons.mpr ⟨gm_47, List.forall_mem_cons.mpr ⟨gm_48, List.forall_mem_cons.mpr ⟨gm_49, List.forall_mem_cons.mpr ⟨gm_50, List.forall_mem_cons.mpr ⟨gm_51, List.forall_mem_cons.mpr ⟨gm_52, List.forall_mem_cons.mpr ⟨gm_53, List.forall_mem_cons.mpr ⟨gm_54, List.forall_mem_cons.mpr ⟨gm_55, List.forall_mem_cons.mpr ⟨gm_56, List.forall_mem_cons.mpr ⟨gm_57, List.forall_mem_cons.mpr ⟨gm_58, List.forall_mem_cons.mpr ⟨gm_59, List.forall_mem_cons.mpr ⟨gm_60, List.forall_mem_cons.mpr ⟨gm_61, List.forall_mem_cons.mpr ⟨gm_62, List.forall_mem_cons.mpr ⟨gm_63, List.forall_mem_cons.mpr ⟨gm_64, List.forall_mem_cons.mpr ⟨gm_65, List.forall_mem_cons.mpr ⟨gm_66, List.forall_mem_cons.mpr ⟨gm_67, List.forall_mem_cons.mpr ⟨gm_68, List.forall_mem_cons.mpr ⟨gm_69, List.forall_mem_cons.mpr ⟨gm_70, List.forall_mem_cons.mpr ⟨gm_71, List.forall_mem_cons.mpr ⟨gm_72, List.forall_mem_cons.mpr ⟨gm_73, List.forall_mem_cons.mpr ⟨gm_74, List.forall_mem_cons.mpr ⟨gm_75, List.forall_mem_cons.mpr ⟨gm_76, List.forall_mem_cons.mpr ⟨gm_77, List.forall_mem_cons.mpr ⟨gm_78, List.forall_mem_cons.mpr ⟨gm_79, List.forall_mem_cons.mpr ⟨gm_80, List.forall_mem_cons.mpr ⟨gm_81, List.forall_mem_cons.mpr ⟨gm_82, List.forall_mem_cons.mpr ⟨gm_83, List.forall_mem_cons.mpr ⟨gm_84, List.forall_mem_cons.mpr ⟨gm_85, List.forall_mem_cons.mpr ⟨gm_86, List.forall_mem_cons.mpr ⟨gm_87, List.forall_mem_cons.mpr ⟨gm_88, List.forall_mem_cons.mpr ⟨gm_89, List.forall_mem_cons.mpr ⟨gm_90, List.forall_mem_cons.mpr ⟨gm_91, List.forall_mem_cons.mpr ⟨gm_92, List.forall_mem_cons.mpr ⟨gm_93, List.forall_mem_cons.mpr ⟨gm_94, List.forall_mem_cons.mpr ⟨gm_95, List.forall_mem_cons.mpr ⟨gm_96, List.forall_mem_cons.mpr ⟨gm_97, List.forall_mem_cons.mpr ⟨gm_98, List.forall_mem_cons.mpr ⟨gm_99, List.forall_mem_cons.mpr ⟨gm_100, List.forall_mem_cons.mpr ⟨gm_101, List.forall_mem_cons.mpr ⟨gm_102, List.forall_mem_cons.mpr ⟨gm_103, List.forall_mem_cons.mpr ⟨gm_104, List.forall_mem_cons.mpr ⟨gm_105, List.forall_mem_cons.mpr ⟨gm_106, List.forall_mem_cons.mpr ⟨gm_107, List.forall_mem_cons.mpr ⟨gm_108, List.forall_mem_cons.mpr ⟨gm_109, List.forall_mem_cons.mpr ⟨gm_110, List.forall_mem_cons.mpr ⟨gm_111, List.forall_mem_cons.mpr ⟨gm_112, List.forall_mem_cons.mpr ⟨gm_113, List.forall_mem_cons.mpr ⟨gm_114, List.forall_mem_cons.mpr ⟨gm_115, List.forall_mem_cons.mpr ⟨gm_116, List.forall_mem_cons.mpr ⟨gm_117, List.forall_mem_cons.mpr ⟨gm_118, List.forall_mem_cons.mpr ⟨gm_119, List.forall_mem_cons.mpr ⟨gm_120, List.forall_mem_cons.mpr ⟨gm_121, List.forall_mem_cons.mpr ⟨gm_122, List.forall_mem_cons.mpr ⟨gm_123, List.forall_mem_cons.mpr ⟨gm_124, List.forall_mem_cons.mpr ⟨gm_125, List.forall_mem_cons.mpr ⟨gm_126, List.forall_mem_cons.mpr ⟨gm_127, List.forall_mem_cons.mpr ⟨gm_128, List.forall_mem_cons.mpr ⟨gm_129, List.forall_mem_cons.mpr ⟨gm_130, List.forall_mem_cons.mpr ⟨gm_131, List.forall_mem_cons.mpr ⟨gm_132, List.forall_mem_cons.mpr ⟨gm_133, List.forall_mem_cons.mpr ⟨gm_134, List.forall_mem_cons.mpr ⟨gm_135, List.forall_mem_cons.mpr ⟨gm_136, List.forall_mem_cons.mpr ⟨gm_137, List.forall_mem_cons.mpr ⟨gm_138, List.forall_mem_cons.mpr ⟨gm_139, List.forall_mem_cons.mpr ⟨gm_140, List.forall_mem_cons.mpr ⟨gm_141, List.forall_mem_cons.mpr ⟨gm_142, List.forall_mem_cons.mpr ⟨gm_143, List.forall_mem_cons.mpr ⟨gm_144, List.forall_mem_cons.mpr ⟨gm_145, List.forall_mem_cons.mpr ⟨gm_146, List.forall_mem_cons.mpr ⟨gm_147, List.forall_mem_cons.mpr ⟨gm_148, List.forall_mem_cons.mpr ⟨gm_149, List.forall_mem_cons.mpr ⟨gm_150, List.forall_mem_cons.mpr ⟨gm_151, List.forall_mem_cons.mpr ⟨gm_152, List.forall_mem_cons.mpr ⟨gm_153, List.forall_mem_cons.mpr ⟨gm_154, List.forall_mem_cons.mpr ⟨gm_155, List.forall_mem_cons.mpr ⟨gm_156, List.forall_mem_cons.mpr ⟨gm_157, List.forall_mem_cons.mpr ⟨gm_158, List.forall_mem_cons.mpr ⟨gm_159, List.forall_mem_cons.mpr ⟨gm_160, List.forall_mem_cons.mpr ⟨gm_161, List.forall_mem_cons.mpr ⟨gm_162, fun _ h => absurd h List.not_mem_nil⟩⟩⟩⟩⟩⟩⟩⟩⟩⟩⟩⟩⟩⟩⟩⟩⟩⟩⟩⟩⟩⟩⟩⟩⟩⟩⟩⟩⟩⟩⟩⟩⟩⟩⟩⟩⟩⟩⟩⟩⟩⟩⟩⟩⟩⟩⟩⟩⟩⟩⟩⟩⟩⟩⟩⟩⟩⟩⟩⟩⟩⟩⟩⟩⟩⟩⟩⟩⟩⟩⟩⟩⟩⟩⟩⟩⟩⟩⟩⟩⟩⟩⟩⟩⟩⟩⟩⟩⟩⟩⟩⟩⟩⟩⟩⟩⟩⟩⟩⟩⟩⟩⟩⟩⟩⟩⟩⟩⟩⟩⟩⟩⟩⟩⟩⟩⟩⟩⟩⟩⟩⟩⟩⟩⟩⟩⟩⟩⟩⟩⟩⟩⟩⟩⟩⟩⟩⟩⟩⟩⟩⟩⟩⟩⟩⟩⟩⟩⟩⟩⟩⟩⟩⟩⟩⟩⟩⟩⟩⟩⟩⟩⟩
end
section
/-! ===== rules for walking the small machine ===== -/
def gtx1 : List Nat := [115, 104, 101, 108, 102, 32, 32, 32, 115, 116, 111, 114, 101, 32, 32, 32, 114, 97, 103, 32, 32, 32, 32, 32, 108, 111, 111, 107, 32, 32, 32, 32, 119, 104, 101, 110, 32, 32, 32, 32, 97, 110, 100, 32, 32, 32, 32, 32, 107, 105, 110, 100, 32, 32, 32, 32, 115, 116, 97, 116, 101, 32, 32, 32, 115, 101, 97, 115, 111, 110, 32, 32, 110, 111, 119, 32, 32, 32, 32, 32, 98, 97, 115, 101, 32, 32, 32, 32, 103, 105, 118, 101, 114, 32, 32, 32]
def gsgn (c : Int32) : Int32 := if c = 40 then 0 else if c = 41 then 1 else if c = 60 then 2 else if c = 61 then 3 else if c = 43 then 4 else if c = 45 then 5 else if c = 59 then 6 else -1
/-- the methods that are told by hand -/
def gBI0 : gB := fun j as S v S' => S' = S ∧ ((j = 1000 ∧ (∃ a, as = [.ref a]) ∧ v = none)
  ∨ (j = 1001 ∧ ∃ n, n < 96 ∧ as = [.ref 2000000001, .int (nI n)] ∧ v = some (.int (nI (gtx1.getD n 0))))
  ∨ (j = 1002 ∧ ∃ n, n < 256 ∧ as = [.ref 2000000002, .int (nI n)] ∧ v = some (.int (gsgn (nI n))))
  ∨ (j = 1004 ∧ ∃ x y, as = [.int x, .int y] ∧ v = some (.int (if x < y then y else x)))
  ∨ (j = 1005 ∧ ∃ x y, as = [.int x, .int y] ∧ v = some (.int (if y < x then y else x))))
theorem gBI0_mono : gBmono gBI0 := fun _ _ _ _ _ h => by rw [h.1]; exact ⟨Nat.le_refl _, Nat.le_refl _⟩
theorem gER_up {MT : List gR} {BI BI' : gB} (hBI : ∀ j as S v S', BI j as S v S' → BI' j as S v S') : ∀ (f f' d d' k pc : Nat) (L : gL) (st : List Value) (S : gS) (v : Option Value) (S' : gS), f ≤ f' → d ≤ d' → gER MT BI f d k pc L st S v S' → gER MT BI' f' d' k pc L st S v S' := by
  intro f
  induction f with
  | zero => intro f' d d' k pc L st S v S' _ _ h; exact h.elim
  | succ f ih =>
    intro f' d d' k pc L st S v S' hf hd h
    cases f' with
    | zero => omega
    | succ f' =>
      unfold gER at h ⊢
      split at h
      · exact h.elim
      · rename_i row hrow
        try rw [hrow]
        try dsimp only
        split at h
        · exact h.elim
        · rename_i q hl
          try rw [hl]
          try dsimp only
          split at h
          · exact h
          · exact h
          · unfold gcallP at h ⊢
            split at h
            · obtain ⟨h1, h2, v1, S1, h3, h4⟩ := h
              refine ⟨h1, h2, v1, S1, ?_, ih _ _ _ _ _ _ _ _ _ _ (by omega) hd h4⟩
              split at h3
              · rename_i hj9
                rw [if_pos hj9]
                exact ⟨by omega, hBI _ _ _ _ _ h3.2⟩
              · rename_i hj9
                rw [if_neg hj9]
                obtain ⟨h5, cr, h6, h7, h8, h9⟩ := h3
                exact ⟨by omega, cr, h6, h7, h8, ih _ _ _ _ _ _ _ _ _ _ (by omega) (by omega) h9⟩
            · exact h.elim
          · split at h
            · exact h.elim
            · rename_i o hs
              exact ih _ _ _ _ _ _ _ _ _ _ (by omega) hd h
/-- from this frame the method ends with Q -/
def gX (d k pc : Nat) (L : gL) (st : List Value) (S : gS) (Q : Option Value → gS → Prop) : Prop := ∃ f v S', gER gMT gBI0 f d k pc L st S v S' ∧ Q v S'
/-- called with these values the method ends with Q -/
def gE (d k : Nat) (as : List Value) (S : gS) (Q : Option Value → gS → Prop) : Prop := ∃ row, gMT[k]? = some row ∧ (gent as).length ≤ row.2.2.1 ∧ gX d k 0 (gpad (gent as) row.2.2.1) [] S Q
section GRL
variable {d k pc : Nat} {L : gL} {st : List Value} {S : gS} {Q : Option Value → gS → Prop} {row : gR}
theorem gX_mono {d' : Nat} {Q' : Option Value → gS → Prop} (hd : d ≤ d') (h : gX d k pc L st S Q) (hQ : ∀ v S', Q v S' → Q' v S') : gX d' k pc L st S Q' := by
  obtain ⟨f, v, S', h1, h2⟩ := h
  exact ⟨f, v, S', gER_up (fun _ _ _ _ _ h => h) f f d d' k pc L st S v S' (Nat.le_refl _) hd h1, hQ v S' h2⟩
theorem gE_mono {d' : Nat} {as : List Value} {Q' : Option Value → gS → Prop} (hd : d ≤ d') (h : gE d k as S Q) (hQ : ∀ v S', Q v S' → Q' v S') : gE d' k as S Q' := by
  obtain ⟨row, h1, h2, h3⟩ := h
  exact ⟨row, h1, h2, gX_mono hd h3 hQ⟩
theorem r_in {as : List Value} (hk : gMT[k]? = some row) (L0 : gL) (hl : (gent as).length ≤ row.2.2.1) (hL : gpad (gent as) row.2.2.1 = L0) (h : gX d k 0 L0 [] S Q) : gE d k as S Q := ⟨row, hk, hl, by rw [hL]; exact h⟩
theorem r_step (hk : gMT[k]? = some row) {i : Instr} {len : Nat} {ax : List Nat} {w : Value} {pc' : Nat} {L' : gL} {st' : List Value} {S1 : gS} (hq : glook row.2.2.2.2 pc = some (i, len, ax, w)) (hc : gcls i = 0) (hs : gstep i len ax w pc L st S = some (pc', L', st', S1)) (h : gX d k pc' L' st' S1 Q) : gX d k pc L st S Q := by
  obtain ⟨f, v, S', h1, h2⟩ := h
  refine ⟨f + 1, v, S', ?_, h2⟩
  unfold gER
  rw [hk]
  try dsimp only
  rw [hq]
  try dsimp only
  rw [hc]
  try dsimp only
  rw [hs]
  exact h1
theorem r_ret (hk : gMT[k]? = some row) {len : Nat} {ax : List Nat} {w : Value} (hq : glook row.2.2.2.2 pc = some (.return_, len, ax, w)) (hn : row.2.2.2.1 = none) (h : Q none S) : gX d k pc L [] S Q := by
  refine ⟨1, none, S, ?_, h⟩
  unfold gER
  rw [hk]
  try dsimp only
  rw [hq]
  exact ⟨rfl, rfl, rfl, hn⟩
theorem r_iret (hk : gMT[k]? = some row) {len : Nat} {ax : List Nat} {w : Value} {x : Int32} (hq : glook row.2.2.2.2 pc = some (.ireturn, len, ax, w)) (hn : grok row.2.2.2.1 x) (h : Q (some (.int x)) S) : gX d k pc L [.int x] S Q := by
  refine ⟨1, _, S, ?_, h⟩
  unfold gER
  rw [hk]
  try dsimp only
  rw [hq]
  exact ⟨x, rfl, rfl, rfl, hn⟩
theorem r_call (hk : gMT[k]? = some row) {i : Instr} {len j na : Nat} {ax : List Nat} {w : Value} (as rest : List Value) {P : Option Value → gS → Prop} (hq : glook row.2.2.2.2 pc = some (i, len, j :: na :: ax, w)) (hc : gcls i = 3) (hj : Nat.blt j 1000 = true) (hst : st = as.reverse ++ rest) (hna : as.length = na) (hcat : gcat rest ≤ 8) (hd : 1 ≤ d) (hE : gE (d - 1) j as S P) (hkind : ∀ cr, gMT[j]? = some cr → gkind i S cr.1.cls as)
    (h : ∀ v1 S1, P v1 S1 → gX d k (pc + 3) L (v1.toList ++ rest) S1 Q) : gX d k pc L st S Q := by
  obtain ⟨cr, hcr, hlen, f1, v1, S1, h1, hP⟩ := hE
  obtain ⟨f2, v, S', h2, hQ⟩ := h v1 S1 hP
  have hj2 : ¬ 1000 ≤ j := by
    have := Nat.ble_eq.mp hj
    omega
  subst hst
  subst hna
  have e1 : ((as.reverse ++ rest).take as.length).reverse = as := by
    rw [← List.length_reverse (as := as), List.take_left, List.reverse_reverse]
  have e2 : (as.reverse ++ rest).drop as.length = rest := by
    rw [← List.length_reverse (as := as), List.drop_left]
  refine ⟨f1 + f2 + 1, v, S', ?_, hQ⟩
  unfold gER
  rw [hk]
  try dsimp only
  rw [hq]
  try dsimp only
  rw [hc]
  dsimp only [gcallP]
  rw [e1, e2]
  refine ⟨by simp, hcat, v1, S1, ?_, gER_up (fun _ _ _ _ _ h => h) f2 (f1 + f2) d d k (pc + 3) L _ S1 v S' (by omega) (Nat.le_refl _) h2⟩
  rw [if_neg hj2]
  exact ⟨hd, cr, hcr, hlen, hkind cr hcr, gER_up (fun _ _ _ _ _ h => h) f1 (f1 + f2) (d - 1) (d - 1) j 0 _ [] S v1 S1 (by omega) (Nat.le_refl _) h1⟩
theorem r_bi (hk : gMT[k]? = some row) {i : Instr} {len j na : Nat} {ax : List Nat} {w : Value} (as rest : List Value) {v1 : Option Value} (hq : glook row.2.2.2.2 pc = some (i, len, j :: na :: ax, w)) (hc : gcls i = 3) (hj : Nat.ble 1000 j = true) (hst : st = as.reverse ++ rest) (hna : as.length = na) (hcat : gcat rest ≤ 8) (hd : 10 ≤ d) (hB : gBI0 j as S v1 S)
    (h : gX d k (pc + 3) L (v1.toList ++ rest) S Q) : gX d k pc L st S Q := by
  obtain ⟨f2, v, S', h2, hQ⟩ := h
  have hj2 : 1000 ≤ j := Nat.ble_eq.mp hj
  subst hst
  subst hna
  have e1 : ((as.reverse ++ rest).take as.length).reverse = as := by
    rw [← List.length_reverse (as := as), List.take_left, List.reverse_reverse]
  have e2 : (as.reverse ++ rest).drop as.length = rest := by
    rw [← List.length_reverse (as := as), List.drop_left]
  refine ⟨f2 + 1, v, S', ?_, hQ⟩
  unfold gER
  rw [hk]
  try dsimp only
  rw [hq]
  try dsimp only
  rw [hc]
  dsimp only [gcallP]
  rw [e1, e2]
  refine ⟨by simp, hcat, v1, S, ?_, h2⟩
  rw [if_pos hj2]
  exact ⟨hd, hB⟩
theorem r_eq {x y : Int32} {t f : Nat} (h1 : x = y → gX d k t L st S Q) (h2 : ¬ x = y → gX d k f L st S Q) : gX d k (gbr .eq x y t f) L st S Q := by
  by_cases h : x = y
  · simp only [gbr, if_pos h]; exact h1 h
  · simp only [gbr, if_neg h]; exact h2 h
theorem r_ne {x y : Int32} {t f : Nat} (h1 : ¬ x = y → gX d k t L st S Q) (h2 : x = y → gX d k f L st S Q) : gX d k (gbr .ne x y t f) L st S Q := by
  by_cases h : x = y
  · simp only [gbr, if_neg (not_not_intro h)]; exact h2 h
  · simp only [gbr, if_pos h]; exact h1 h
theorem r_lt {x y : Int32} {t f : Nat} (h1 : x < y → gX d k t L st S Q) (h2 : ¬ x < y → gX d k f L st S Q) : gX d k (gbr .lt x y t f) L st S Q := by
  by_cases h : x < y
  · simp only [gbr, if_pos h]; exact h1 h
  · simp only [gbr, if_neg h]; exact h2 h
theorem r_ge {x y : Int32} {t f : Nat} (h1 : y ≤ x → gX d k t L st S Q) (h2 : ¬ y ≤ x → gX d k f L st S Q) : gX d k (gbr .ge x y t f) L st S Q := by
  by_cases h : y ≤ x
  · simp only [gbr, if_pos h]; exact h1 h
  · simp only [gbr, if_neg h]; exact h2 h
theorem r_gt {x y : Int32} {t f : Nat} (h1 : y < x → gX d k t L st S Q) (h2 : ¬ y < x → gX d k f L st S Q) : gX d k (gbr .gt x y t f) L st S Q := by
  by_cases h : y < x
  · simp only [gbr, if_pos h]; exact h1 h
  · simp only [gbr, if_neg h]; exact h2 h
theorem r_le {x y : Int32} {t f : Nat} (h1 : x ≤ y → gX d k t L st S Q) (h2 : ¬ x ≤ y → gX d k f L st S Q) : gX d k (gbr .le x y t f) L st S Q := by
  by_cases h : x ≤ y
  · simp only [gbr, if_pos h]; exact h1 h
  · simp only [gbr, if_neg h]; exact h2 h
/-! the heap, by what is known of a cell -/
theorem r_get (hk : gMT[k]? = some row) {idx len ci sl a b r : Nat} {w v : Value} {fs : List Value} (hq : glook row.2.2.2.2 pc = some (.getfield idx, len, [ci, sl, a, b], w)) (hh : S.2.2 r = .inr (ci, fs)) (hf : fs[sl]? = some v) (h : gX d k (pc + 3) L (v :: st) S Q) : gX d k pc L (.ref r :: st) S Q :=
  r_step hk hq rfl (by simp only [gstep, gget, hh, Nat.beq_refl, cond_true, hf]) h
theorem r_put (hk : gMT[k]? = some row) {idx len ci sl a b r : Nat} {w v : Value} {fs : List Value} (hq : glook row.2.2.2.2 pc = some (.putfield idx, len, [ci, sl, a, b], w)) (hh : S.2.2 r = .inr (ci, fs)) (hf : (Nat.blt sl fs.length && gfit (gty ci sl) v) = true) (h : gX d k (pc + 3) L st (S.1, S.2.1, gset S.2.2 r (.inr (ci, fs.set sl v))) Q) : gX d k pc L (v :: .ref r :: st) S Q :=
  r_step hk hq rfl (by simp only [gstep, gput, hh, Nat.beq_refl, Bool.true_and, hf, cond_true]) h
theorem r_ald (hk : gMT[k]? = some row) {i : Instr} {len r n : Nat} {ax : List Nat} {w : Value} {ty : FieldType} {x : Int32} {f : Nat → Int32} (hq : glook row.2.2.2.2 pc = some (i, len, ax, w)) (hi : (i = .iaload ∧ ty = .int) ∨ (i = .caload ∧ ty = .char) ∨ (i = .baload ∧ (ty = .boolean ∨ ty = .byte))) (hh : S.2.2 r = .inl (ty, n, .inl f)) (hin : ¬ (x < 0 ∨ n ≤ x.toNatClampNeg)) (h : gX d k (pc + 1) L (.int (f x.toNatClampNeg) :: st) S Q) : gX d k pc L (.int x :: .ref r :: st) S Q := by
  rcases hi with ⟨rfl, rfl⟩ | ⟨rfl, rfl⟩ | ⟨rfl, ht⟩
  · exact r_step hk hq rfl (by simp only [gstep, giald, hh]; rw [if_pos ⟨trivial, hin⟩]) h
  · exact r_step hk hq rfl (by simp only [gstep, giald, hh]; rw [if_pos ⟨trivial, hin⟩]) h
  · exact r_step hk hq rfl (by simp only [gstep, gbald, hh]; rw [if_pos ⟨ht, hin⟩]) h
theorem r_lald (hk : gMT[k]? = some row) {len r n : Nat} {ax : List Nat} {w : Value} {x : Int32} {f : Nat → Int64} (hq : glook row.2.2.2.2 pc = some (.laload, len, ax, w)) (hh : S.2.2 r = .inl (.long, n, .inr (.inl f))) (hin : ¬ (x < 0 ∨ n ≤ x.toNatClampNeg)) (h : gX d k (pc + 1) L (.long (f x.toNatClampNeg) :: st) S Q) : gX d k pc L (.int x :: .ref r :: st) S Q :=
  r_step hk hq rfl (by simp only [gstep, glald, hh]; rw [if_pos ⟨trivial, hin⟩]) h
theorem r_aald (hk : gMT[k]? = some row) {len r n : Nat} {ax : List Nat} {w : Value} {x : Int32} {C : String} {f : Nat → Option Nat} (hq : glook row.2.2.2.2 pc = some (.aaload, len, ax, w)) (hh : S.2.2 r = .inl (.object C, n, .inr (.inr (.inr (.inr f))))) (hin : ¬ (x < 0 ∨ n ≤ x.toNatClampNeg)) (h : gX d k (pc + 1) L (va_rf (f x.toNatClampNeg) :: st) S Q) : gX d k pc L (.int x :: .ref r :: st) S Q :=
  r_step hk hq rfl (by simp only [gstep, gaald, hh]; rw [if_pos hin]) h
theorem r_ast (hk : gMT[k]? = some row) {len r n : Nat} {ax : List Nat} {w : Value} {x y : Int32} {f : Nat → Int32} (hq : glook row.2.2.2.2 pc = some (.iastore, len, ax, w)) (hh : S.2.2 r = .inl (.int, n, .inl f)) (hr : Nat.blt r 1000000000 = true) (hin : ¬ (x < 0 ∨ n ≤ x.toNatClampNeg)) (h : gX d k (pc + 1) L st (S.1, S.2.1, gset S.2.2 r (.inl (.int, n, .inl (upd f x.toNatClampNeg y)))) Q) : gX d k pc L (.int y :: .int x :: .ref r :: st) S Q :=
  r_step hk hq rfl (by simp only [gstep, giast, hh]; rw [if_pos ⟨trivial, hin, trivial, Nat.ble_eq.mp hr⟩]) h
theorem r_zst (hk : gMT[k]? = some row) {len r n : Nat} {ax : List Nat} {w : Value} {x y : Int32} {f : Nat → Int32} (hq : glook row.2.2.2.2 pc = some (.bastore, len, ax, w)) (hh : S.2.2 r = .inl (.boolean, n, .inl f)) (hr : Nat.blt r 1000000000 = true) (hin : ¬ (x < 0 ∨ n ≤ x.toNatClampNeg)) (hy : y = 0 ∨ y = 1) (h : gX d k (pc + 1) L st (S.1, S.2.1, gset S.2.2 r (.inl (.boolean, n, .inl (upd f x.toNatClampNeg y)))) Q) : gX d k pc L (.int y :: .int x :: .ref r :: st) S Q :=
  r_step hk hq rfl (by simp only [gstep, giast, hh]; rw [if_pos ⟨trivial, hin, hy, Nat.ble_eq.mp hr⟩]) h
theorem r_cst (hk : gMT[k]? = some row) {len r n : Nat} {ax : List Nat} {w : Value} {x y : Int32} {f : Nat → Int32} (hq : glook row.2.2.2.2 pc = some (.castore, len, ax, w)) (hh : S.2.2 r = .inl (.char, n, .inl f)) (hr : Nat.blt r 1000000000 = true) (hin : ¬ (x < 0 ∨ n ≤ x.toNatClampNeg)) (hy : vp_nar .char y = y) (h : gX d k (pc + 1) L st (S.1, S.2.1, gset S.2.2 r (.inl (.char, n, .inl (upd f x.toNatClampNeg y)))) Q) : gX d k pc L (.int y :: .int x :: .ref r :: st) S Q :=
  r_step hk hq rfl (by simp only [gstep, giast, hh]; rw [if_pos ⟨trivial, hin, hy, Nat.ble_eq.mp hr⟩]) h
theorem r_lst (hk : gMT[k]? = some row) {len r n : Nat} {ax : List Nat} {w : Value} {x : Int32} {y : Int64} {f : Nat → Int64} (hq : glook row.2.2.2.2 pc = some (.lastore, len, ax, w)) (hh : S.2.2 r = .inl (.long, n, .inr (.inl f))) (hr : Nat.blt r 1000000000 = true) (hin : ¬ (x < 0 ∨ n ≤ x.toNatClampNeg)) (h : gX d k (pc + 1) L st (S.1, S.2.1, gset S.2.2 r (.inl (.long, n, .inr (.inl (vp_updL f x.toNatClampNeg y))))) Q) : gX d k pc L (.long y :: .int x :: .ref r :: st) S Q :=
  r_step hk hq rfl (by simp only [gstep, glast, hh]; rw [if_pos ⟨trivial, hin, Nat.ble_eq.mp hr⟩]) h
theorem r_aast (hk : gMT[k]? = some row) {len r n v ci : Nat} {ax : List Nat} {w : Value} {x : Int32} {C : String} {fs : List Value} {f : Nat → Option Nat} (hq : glook row.2.2.2.2 pc = some (.aastore, len, ax, w)) (hh : S.2.2 r = .inl (.object C, n, .inr (.inr (.inr (.inr f))))) (hv : S.2.2 v = .inr (ci, fs)) (hC : (gcl[ci]?.map (fun q => q.1)) = some C) (hr : Nat.blt r 1000000000 = true) (hin : ¬ (x < 0 ∨ n ≤ x.toNatClampNeg)) (h : gX d k (pc + 1) L st (S.1, S.2.1, gset S.2.2 r (.inl (.object C, n, .inr (.inr (.inr (.inr (va_up f x.toNatClampNeg (some v)))))))) Q) : gX d k pc L (.ref v :: .int x :: .ref r :: st) S Q :=
  r_step hk hq rfl (by simp only [gstep, gaast, hh, hv]; rw [if_pos ⟨hC, hin, Nat.ble_eq.mp hr⟩]) h
theorem r_div (hk : gMT[k]? = some row) {len : Nat} {ax : List Nat} {w : Value} {x y : Int32} (hq : glook row.2.2.2.2 pc = some (.idiv, len, ax, w)) (hy : ¬ y = 0) (h : gX d k (pc + 1) L (.int (x / y) :: st) S Q) : gX d k pc L (.int y :: .int x :: st) S Q :=
  r_step hk hq rfl (by simp only [gstep, if_neg hy]) h
theorem r_rem (hk : gMT[k]? = some row) {len : Nat} {ax : List Nat} {w : Value} {x y : Int32} (hq : glook row.2.2.2.2 pc = some (.irem, len, ax, w)) (hy : ¬ y = 0) (h : gX d k (pc + 1) L (.int (x - x / y * y) :: st) S Q) : gX d k pc L (.int y :: .int x :: st) S Q :=
  r_step hk hq rfl (by simp only [gstep, if_neg hy]) h
theorem r_ldiv (hk : gMT[k]? = some row) {len : Nat} {ax : List Nat} {w : Value} {x y : Int64} (hq : glook row.2.2.2.2 pc = some (.ldiv, len, ax, w)) (hy : ¬ y = 0) (h : gX d k (pc + 1) L (.long (x / y) :: st) S Q) : gX d k pc L (.long y :: .long x :: st) S Q :=
  r_step hk hq rfl (by simp only [gstep, if_neg hy]) h
theorem r_new (hk : gMT[k]? = some row) {idx len ci ps : Nat} {w : Value} {q : vw_C} (hq : glook row.2.2.2.2 pc = some (.new idx, len, [ci, ps], w)) (hc : gcl[ci]? = some q) (hn : S.1 < 1000000) (h : gX d k (pc + 3) L (.ref S.1 :: st) (S.1 + 1, S.2.1 + q.2.2, gset S.2.2 S.1 (.inr (ci, gdv ci q.2.2))) Q) : gX d k pc L st S Q :=
  r_step hk hq rfl (by simp only [gstep, gnew, hc, if_pos hn]) h
end GRL
theorem gset_same (h : gH) (k : Nat) (c : gC) : gset h k c k = c := by simp [gset]
theorem gset_ne (h : gH) {k j : Nat} (c : gC) (hj : j ≠ k) : gset h k c j = h j := by simp [gset, hj]
theorem gset_set (h : gH) (k : Nat) (c c' : gC) : gset (gset h k c) k c' = gset h k c' := by
  funext j
  by_cases e : j = k <;> simp [gset, e]
theorem gset_self (h : gH) (k : Nat) : gset h k (h k) = h := by
  funext j
  by_cases e : j = k <;> simp [gset, e]
theorem gset_swap (h : gH) {k j : Nat} (c c' : gC) (hj : j ≠ k) : gset (gset h k c) j c' = gset (gset h j c') k c := by
  funext i
  simp only [gset]
  by_cases e : i = j
  · have e2 : i ≠ k := fun z => hj (e ▸ z)
    simp [e, hj]
  · by_cases e2 : i = k
    · have e3 : k ≠ j := fun z => hj z.symm
      simp [e2, e3]
    · simp [e, e2]
/-- an index that is a number -/
theorem g_ix {j n : Nat} (h : j < n) (hn : n < 2 ^ 31) : ¬ ((nI j) < 0 ∨ n ≤ (nI j).toNatClampNeg) := nI_in h hn
end
section
/-! ===== the claim's heap: the cells that the two constructors make have their places for good ===== -/
abbrev gD : Type := (FieldType × Nat × Nat) ⊕ (Nat × List (Nat × Nat))
def gfld (wj : Nat → Int32) (rj : Nat → Nat) : List (Nat × Nat) → List Value
  | [] => []
  | (0, s) :: t => .int (wj s) :: gfld wj rj t
  | (1, s) :: t => .ref (rj s) :: gfld wj rj t
  | (_, c) :: t => .ref c :: gfld wj rj t
def gshops : Nat → Option Nat := va_up (va_up (va_up (va_up (va_up (fun _ => none) 0 (some 4)) 1 (some 7)) 2 (some 10)) 3 (some 13)) 4 (some 16)
def gcell (wj aj : Nat → Int32) (bj : Nat → Int64) (rj : Nat → Nat) (qj : Nat → Option Nat) : gD → gC
  | .inl (ty, n, 0) => .inl (ty, n, .inl aj)
  | .inl (ty, n, 1) => .inl (ty, n, .inr (.inl bj))
  | .inl (ty, n, 2) => .inl (ty, n, .inr (.inr (.inr (.inr qj))))
  | .inl (ty, n, _) => .inl (ty, n, .inr (.inr (.inr (.inr gshops))))
  | .inr (ci, fs) => .inr (ci, gfld wj rj fs)
def gtab : List gD := [.inr (9, [(2, 1), (0, 1), (2, 2), (0, 3), (2, 3), (2, 19), (2, 20), (2, 32), (1, 8), (1, 9), (2, 34), (2, 35), (2, 36), (2, 37), (2, 38), (2, 41), (0, 16), (0, 17)]),
  .inl (.object "GiftShops$Thing", 100, 2),
  .inl (.object "GiftShops$Sale", 200, 2),
  .inl (.object "GiftShops$Shop", 5, 3),
  .inr (5, [(0, 0), (0, 1), (0, 2), (2, 5), (2, 6)]),
  .inl (.int, 8, 0),
  .inl (.int, 8, 0),
  .inr (5, [(0, 0), (0, 1), (0, 2), (2, 8), (2, 9)]),
  .inl (.int, 8, 0),
  .inl (.int, 8, 0),
  .inr (5, [(0, 0), (0, 1), (0, 2), (2, 11), (2, 12)]),
  .inl (.int, 8, 0),
  .inl (.int, 8, 0),
  .inr (5, [(0, 0), (0, 1), (0, 2), (2, 14), (2, 15)]),
  .inl (.int, 8, 0),
  .inl (.int, 8, 0),
  .inr (5, [(0, 0), (0, 1), (0, 2), (2, 17), (2, 18)]),
  .inl (.int, 8, 0),
  .inl (.int, 8, 0),
  .inl (.int, 8, 0),
  .inr (6, [(2, 21), (0, 1)]),
  .inl (.char, 600, 0),
  .inr (2, [(2, 23), (2, 24), (2, 25), (2, 26), (0, 4), (0, 5)]),
  .inl (.int, 600, 0),
  .inl (.int, 16, 0),
  .inl (.int, 16, 0),
  .inl (.int, 16, 0),
  .inr (2, [(2, 28), (2, 29), (2, 30), (2, 31), (0, 4), (0, 5)]),
  .inl (.int, 600, 0),
  .inl (.int, 16, 0),
  .inl (.int, 16, 0),
  .inl (.int, 16, 0),
  .inr (0, [(2, 33), (1, 1), (0, 2)]),
  .inr (4, [(2, 20), (0, 1), (0, 2), (0, 3), (0, 4)]),
  .inl (.int, 6, 0),
  .inl (.int, 10, 0),
  .inl (.int, 10, 0),
  .inl (.int, 10, 0),
  .inr (1, [(2, 39), (2, 40)]),
  .inl (.int, 36, 0),
  .inl (.int, 160, 0),
  .inr (8, [(2, 42), (2, 43), (0, 2), (0, 3), (0, 4)]),
  .inl (.int, 10, 0),
  .inl (.int, 10, 0),
  .inr (10, [(0, 0), (2, 45), (0, 2), (0, 3), (2, 46), (2, 47), (2, 48), (0, 7), (0, 8), (2, 49), (2, 50), (2, 51), (2, 52), (2, 53), (2, 54), (0, 15), (0, 16), (0, 17), (0, 18), (2, 55), (2, 56), (2, 57), (2, 58), (2, 59), (0, 24), (0, 25), (2, 60), (2, 61), (2, 62), (2, 63), (2, 64), (2, 65), (2, 66), (2, 67), (2, 68), (2, 69), (2, 70), (2, 71), (2, 72), (0, 39), (2, 73), (0, 41), (2, 74), (2, 75), (2, 76), (2, 77), (2, 78), (0, 47), (2, 79), (0, 49), (2, 80), (2, 81), (2, 82), (0, 53)]),
  .inl (.int, 600, 0),
  .inl (.int, 602, 0),
  .inl (.int, 602, 0),
  .inl (.long, 602, 1),
  .inl (.long, 12, 1),
  .inl (.int, 2, 0),
  .inl (.int, 32, 0),
  .inl (.int, 32, 0),
  .inl (.int, 1320, 0),
  .inl (.int, 1320, 0),
  .inl (.int, 7, 0),
  .inl (.int, 7, 0),
  .inl (.int, 7, 0),
  .inl (.int, 6, 0),
  .inl (.int, 660, 0),
  .inl (.int, 100, 0),
  .inl (.int, 100, 0),
  .inl (.int, 100, 0),
  .inl (.int, 100, 0),
  .inl (.int, 100, 0),
  .inl (.int, 100, 0),
  .inl (.int, 100, 0),
  .inl (.int, 100, 0),
  .inl (.int, 8, 0),
  .inl (.int, 5, 0),
  .inl (.int, 40, 0),
  .inl (.int, 10, 0),
  .inl (.int, 10, 0),
  .inl (.int, 11, 0),
  .inl (.int, 200, 0),
  .inl (.int, 200, 0),
  .inl (.int, 200, 0),
  .inl (.int, 200, 0),
  .inl (.boolean, 200, 0),
  .inl (.int, 36, 0),
  .inl (.int, 10, 0),
  .inl (.boolean, 120, 0),
  .inl (.boolean, 10, 0),
  .inl (.long, 1, 1)]
def HP (w a : Nat → Nat → Int32) (b : Nat → Nat → Int64) (r : Nat → Nat → Nat) (q : Nat → Nat → Option Nat) (y : gH) : gH := fun j => match gtab[j]? with
  | some ds => gcell (w j) (a j) (b j) (r j) (q j) ds
  | none => y j
def upd2 {α : Type} (f : Nat → Nat → α) (j s : Nat) (x : α) : Nat → Nat → α := fun i => if i = j then (fun t => if t = s then x else f j t) else f i
theorem upd2_same {α : Type} (f : Nat → Nat → α) (j s : Nat) (x : α) : upd2 f j s x j s = x := by simp [upd2]
theorem upd2_row {α : Type} (f : Nat → Nat → α) (j s : Nat) (x : α) {i : Nat} (h : i ≠ j) : upd2 f j s x i = f i := by simp [upd2, h]
theorem upd2_col {α : Type} (f : Nat → Nat → α) (j s : Nat) (x : α) {t : Nat} (h : t ≠ s) : upd2 f j s x j t = f j t := by simp [upd2, h]
theorem upd2_at {α : Type} (f : Nat → Nat → α) (j s : Nat) (x : α) (t : Nat) : upd2 f j s x j t = if t = s then x else f j t := by simp [upd2]
section GHP
variable {w a : Nat → Nat → Int32} {b : Nat → Nat → Int64} {r : Nat → Nat → Nat} {q : Nat → Nat → Option Nat} {y : gH}
theorem HP_dyn {j : Nat} (h : 84 ≤ j) : HP w a b r q y j = y j := by
  have : gtab[j]? = none := List.getElem?_eq_none (by show gtab.length ≤ j; exact h)
  simp [HP, this]
theorem HP_w {j s : Nat} {x : Int32} {c : gC} (hc : c = HP (upd2 w j s x) a b r q y j) : gset (HP w a b r q y) j c = HP (upd2 w j s x) a b r q y := by
  funext i
  by_cases e : i = j
  · subst e; rw [gset_same]; exact hc
  · rw [gset_ne _ _ e]
    simp only [HP, upd2_row _ _ _ _ e]
theorem HP_a {j s : Nat} {x : Int32} {c : gC} (hc : c = HP w (upd2 a j s x) b r q y j) : gset (HP w a b r q y) j c = HP w (upd2 a j s x) b r q y := by
  funext i
  by_cases e : i = j
  · subst e; rw [gset_same]; exact hc
  · rw [gset_ne _ _ e]
    simp only [HP, upd2_row _ _ _ _ e]
theorem HP_b {j s : Nat} {x : Int64} {c : gC} (hc : c = HP w a (upd2 b j s x) r q y j) : gset (HP w a b r q y) j c = HP w a (upd2 b j s x) r q y := by
  funext i
  by_cases e : i = j
  · subst e; rw [gset_same]; exact hc
  · rw [gset_ne _ _ e]
    simp only [HP, upd2_row _ _ _ _ e]
theorem HP_r {j s : Nat} {x : Nat} {c : gC} (hc : c = HP w a b (upd2 r j s x) q y j) : gset (HP w a b r q y) j c = HP w a b (upd2 r j s x) q y := by
  funext i
  by_cases e : i = j
  · subst e; rw [gset_same]; exact hc
  · rw [gset_ne _ _ e]
    simp only [HP, upd2_row _ _ _ _ e]
theorem HP_q {j s : Nat} {x : Option Nat} {c : gC} (hc : c = HP w a b r (upd2 q j s x) y j) : gset (HP w a b r q y) j c = HP w a b r (upd2 q j s x) y := by
  funext i
  by_cases e : i = j
  · subst e; rw [gset_same]; exact hc
  · rw [gset_ne _ _ e]
    simp only [HP, upd2_row _ _ _ _ e]
theorem HP_y {j : Nat} {c : gC} (h : 84 ≤ j) : gset (HP w a b r q y) j c = HP w a b r q (gset y j c) := by
  funext i
  by_cases e : i = j
  · subst e; rw [gset_same, HP_dyn h, gset_same]
  · rw [gset_ne _ _ e]
    simp only [HP, gset_ne _ _ e]
theorem upd_row {f : Nat → Nat → Int32} {j s : Nat} {x : Int32} : upd (f j) s x = upd2 f j s x j := by
  funext t
  simp [upd, upd2]
theorem updL_row {f : Nat → Nat → Int64} {j s : Nat} {x : Int64} : vp_updL (f j) s x = upd2 f j s x j := by
  funext t
  simp [vp_updL, upd2]
theorem va_up_row {f : Nat → Nat → Option Nat} {j s : Nat} {x : Option Nat} : va_up (f j) s x = upd2 f j s x j := by
  funext t
  simp [va_up, upd2]
variable {d k pc : Nat} {L : gL} {st : List Value} {n u : Nat} {Q : Option Value → gS → Prop} {row : gR}
theorem r_putI (hk : gMT[k]? = some row) {idx len ci sl e1 e2 j : Nat} {w0 : Value} {x : Int32} {fs : List Value} (hq : glook row.2.2.2.2 pc = some (.putfield idx, len, [ci, sl, e1, e2], w0)) (hh : HP w a b r q y j = .inr (ci, fs)) (hf : (Nat.blt sl fs.length && gfit (gty ci sl) (.int x)) = true) (hc : .inr (ci, fs.set sl (.int x)) = HP (upd2 w j sl x) a b r q y j) (h : gX d k (pc + 3) L st (n, u, HP (upd2 w j sl x) a b r q y) Q) : gX d k pc L (.int x :: .ref j :: st) (n, u, HP w a b r q y) Q :=
  r_put hk hq hh hf (by rw [← HP_w hc] at h; exact h)
theorem r_putR (hk : gMT[k]? = some row) {idx len ci sl e1 e2 j : Nat} {w0 : Value} {x : Nat} {fs : List Value} (hq : glook row.2.2.2.2 pc = some (.putfield idx, len, [ci, sl, e1, e2], w0)) (hh : HP w a b r q y j = .inr (ci, fs)) (hf : (Nat.blt sl fs.length && gfit (gty ci sl) (.ref x)) = true) (hc : .inr (ci, fs.set sl (.ref x)) = HP w a b (upd2 r j sl x) q y j) (h : gX d k (pc + 3) L st (n, u, HP w a b (upd2 r j sl x) q y) Q) : gX d k pc L (.ref x :: .ref j :: st) (n, u, HP w a b r q y) Q :=
  r_put hk hq hh hf (by rw [← HP_r hc] at h; exact h)
theorem r_ia (hk : gMT[k]? = some row) {len j N : Nat} {ax : List Nat} {w0 : Value} (i : Nat) {x : Int32} (hq : glook row.2.2.2.2 pc = some (.iaload, len, ax, w0)) (hh : HP w a b r q y j = .inl (.int, N, .inl (a j))) (hx : x = nI i) (hi : i < N) (hN : Nat.ble N 2000 = true) (h : gX d k (pc + 1) L (.int (a j i) :: st) (n, u, HP w a b r q y) Q) : gX d k pc L (.int x :: .ref j :: st) (n, u, HP w a b r q y) Q := by
  have hN2 := Nat.ble_eq.mp hN
  subst hx
  refine r_ald hk hq (Or.inl ⟨rfl, rfl⟩) hh (g_ix hi (by omega)) ?_
  rw [nI_clamp (by omega)]
  exact h
theorem r_ca (hk : gMT[k]? = some row) {len j N : Nat} {ax : List Nat} {w0 : Value} (i : Nat) {x : Int32} (hq : glook row.2.2.2.2 pc = some (.caload, len, ax, w0)) (hh : HP w a b r q y j = .inl (.char, N, .inl (a j))) (hx : x = nI i) (hi : i < N) (hN : Nat.ble N 2000 = true) (h : gX d k (pc + 1) L (.int (a j i) :: st) (n, u, HP w a b r q y) Q) : gX d k pc L (.int x :: .ref j :: st) (n, u, HP w a b r q y) Q := by
  have hN2 := Nat.ble_eq.mp hN
  subst hx
  refine r_ald hk hq (Or.inr (Or.inl ⟨rfl, rfl⟩)) hh (g_ix hi (by omega)) ?_
  rw [nI_clamp (by omega)]
  exact h
theorem r_za (hk : gMT[k]? = some row) {len j N : Nat} {ax : List Nat} {w0 : Value} (i : Nat) {x : Int32} (hq : glook row.2.2.2.2 pc = some (.baload, len, ax, w0)) (hh : HP w a b r q y j = .inl (.boolean, N, .inl (a j))) (hx : x = nI i) (hi : i < N) (hN : Nat.ble N 2000 = true) (h : gX d k (pc + 1) L (.int (a j i) :: st) (n, u, HP w a b r q y) Q) : gX d k pc L (.int x :: .ref j :: st) (n, u, HP w a b r q y) Q := by
  have hN2 := Nat.ble_eq.mp hN
  subst hx
  refine r_ald hk hq (Or.inr (Or.inr ⟨rfl, Or.inl rfl⟩)) hh (g_ix hi (by omega)) ?_
  rw [nI_clamp (by omega)]
  exact h
theorem r_la (hk : gMT[k]? = some row) {len j N : Nat} {ax : List Nat} {w0 : Value} (i : Nat) {x : Int32} (hq : glook row.2.2.2.2 pc = some (.laload, len, ax, w0)) (hh : HP w a b r q y j = .inl (.long, N, .inr (.inl (b j)))) (hx : x = nI i) (hi : i < N) (hN : Nat.ble N 2000 = true) (h : gX d k (pc + 1) L (.long (b j i) :: st) (n, u, HP w a b r q y) Q) : gX d k pc L (.int x :: .ref j :: st) (n, u, HP w a b r q y) Q := by
  have hN2 := Nat.ble_eq.mp hN
  subst hx
  refine r_lald hk hq hh (g_ix hi (by omega)) ?_
  rw [nI_clamp (by omega)]
  exact h
theorem r_qa (hk : gMT[k]? = some row) {len j N : Nat} {ax : List Nat} {w0 : Value} {C : String} {f : Nat → Option Nat} (i : Nat) (o : Nat) {x : Int32} (hq : glook row.2.2.2.2 pc = some (.aaload, len, ax, w0)) (hh : HP w a b r q y j = .inl (.object C, N, .inr (.inr (.inr (.inr f))))) (hx : x = nI i) (hi : i < N) (hN : Nat.ble N 2000 = true) (ho : f i = some o) (h : gX d k (pc + 1) L (.ref o :: st) (n, u, HP w a b r q y) Q) : gX d k pc L (.int x :: .ref j :: st) (n, u, HP w a b r q y) Q := by
  have hN2 := Nat.ble_eq.mp hN
  subst hx
  refine r_aald hk hq hh (g_ix hi (by omega)) ?_
  rw [nI_clamp (by omega), ho]
  exact h
theorem r_is (hk : gMT[k]? = some row) {len j N : Nat} {ax : List Nat} {w0 : Value} (i : Nat) {x z : Int32} (hq : glook row.2.2.2.2 pc = some (.iastore, len, ax, w0)) (hh : HP w a b r q y j = .inl (.int, N, .inl (a j))) (hc : .inl (.int, N, .inl (upd2 a j i z j)) = HP w (upd2 a j i z) b r q y j) (hx : x = nI i) (hi : i < N) (hN : Nat.ble N 2000 = true) (hj : Nat.blt j 1000000000 = true) (h : gX d k (pc + 1) L st (n, u, HP w (upd2 a j i z) b r q y) Q) : gX d k pc L (.int z :: .int x :: .ref j :: st) (n, u, HP w a b r q y) Q := by
  have hN2 := Nat.ble_eq.mp hN
  subst hx
  refine r_ast hk hq hh hj (g_ix hi (by omega)) ?_
  rw [nI_clamp (by omega)]
  dsimp only
  rw [upd_row, HP_a hc]
  exact h
theorem r_cs (hk : gMT[k]? = some row) {len j N : Nat} {ax : List Nat} {w0 : Value} (i : Nat) {x z : Int32} (hq : glook row.2.2.2.2 pc = some (.castore, len, ax, w0)) (hh : HP w a b r q y j = .inl (.char, N, .inl (a j))) (hc : .inl (.char, N, .inl (upd2 a j i z j)) = HP w (upd2 a j i z) b r q y j) (hx : x = nI i) (hi : i < N) (hN : Nat.ble N 2000 = true) (hj : Nat.blt j 1000000000 = true) (hz : vp_nar .char z = z) (h : gX d k (pc + 1) L st (n, u, HP w (upd2 a j i z) b r q y) Q) : gX d k pc L (.int z :: .int x :: .ref j :: st) (n, u, HP w a b r q y) Q := by
  have hN2 := Nat.ble_eq.mp hN
  subst hx
  refine r_cst hk hq hh hj (g_ix hi (by omega)) hz ?_
  rw [nI_clamp (by omega)]
  dsimp only
  rw [upd_row, HP_a hc]
  exact h
theorem r_zs (hk : gMT[k]? = some row) {len j N : Nat} {ax : List Nat} {w0 : Value} (i : Nat) {x z : Int32} (hq : glook row.2.2.2.2 pc = some (.bastore, len, ax, w0)) (hh : HP w a b r q y j = .inl (.boolean, N, .inl (a j))) (hc : .inl (.boolean, N, .inl (upd2 a j i z j)) = HP w (upd2 a j i z) b r q y j) (hx : x = nI i) (hi : i < N) (hN : Nat.ble N 2000 = true) (hj : Nat.blt j 1000000000 = true) (hz : z = 0 ∨ z = 1) (h : gX d k (pc + 1) L st (n, u, HP w (upd2 a j i z) b r q y) Q) : gX d k pc L (.int z :: .int x :: .ref j :: st) (n, u, HP w a b r q y) Q := by
  have hN2 := Nat.ble_eq.mp hN
  subst hx
  refine r_zst hk hq hh hj (g_ix hi (by omega)) hz ?_
  rw [nI_clamp (by omega)]
  dsimp only
  rw [upd_row, HP_a hc]
  exact h
theorem r_ls (hk : gMT[k]? = some row) {len j N : Nat} {ax : List Nat} {w0 : Value} (i : Nat) {x : Int32} {z : Int64} (hq : glook row.2.2.2.2 pc = some (.lastore, len, ax, w0)) (hh : HP w a b r q y j = .inl (.long, N, .inr (.inl (b j)))) (hc : .inl (.long, N, .inr (.inl (upd2 b j i z j))) = HP w a (upd2 b j i z) r q y j) (hx : x = nI i) (hi : i < N) (hN : Nat.ble N 2000 = true) (hj : Nat.blt j 1000000000 = true) (h : gX d k (pc + 1) L st (n, u, HP w a (upd2 b j i z) r q y) Q) : gX d k pc L (.long z :: .int x :: .ref j :: st) (n, u, HP w a b r q y) Q := by
  have hN2 := Nat.ble_eq.mp hN
  subst hx
  refine r_lst hk hq hh hj (g_ix hi (by omega)) ?_
  rw [nI_clamp (by omega)]
  dsimp only
  rw [updL_row, HP_b hc]
  exact h
end GHP
section GCA
variable {d k pc : Nat} {L : gL} {st : List Value} {S : gS} {Q : Option Value → gS → Prop} {row : gR}
theorem r_callV (hk : gMT[k]? = some row) {idx len j na : Nat} {ax : List Nat} {w : Value} {cr : gR} (as rest : List Value) {P : Option Value → gS → Prop} (hq : glook row.2.2.2.2 pc = some (.invokevirtual idx, len, j :: na :: ax, w)) (hj : Nat.blt j 1000 = true) (hst : st = as.reverse ++ rest) (hna : as.length = na) (hcat : Nat.ble (gcat rest) 8 = true) (hcr : gMT[j]? = some cr) (hrc : grcv S cr.1.cls as) (hd : 1 ≤ d) (hE : gE (d - 1) j as S P)
    (h : ∀ v1 S1, P v1 S1 → gX d k (pc + 3) L (v1.toList ++ rest) S1 Q) : gX d k pc L st S Q :=
  r_call hk as rest hq rfl hj hst hna (Nat.ble_eq.mp hcat) hd hE (fun cr2 h2 => by cases hcr.symm.trans h2; exact hrc) h
theorem r_callS (hk : gMT[k]? = some row) {idx len j na : Nat} {ax : List Nat} {w : Value} (as rest : List Value) {P : Option Value → gS → Prop} (hq : glook row.2.2.2.2 pc = some (.invokestatic idx, len, j :: na :: ax, w)) (hj : Nat.blt j 1000 = true) (hst : st = as.reverse ++ rest) (hna : as.length = na) (hcat : Nat.ble (gcat rest) 8 = true) (hd : 1 ≤ d) (hE : gE (d - 1) j as S P)
    (h : ∀ v1 S1, P v1 S1 → gX d k (pc + 3) L (v1.toList ++ rest) S1 Q) : gX d k pc L st S Q :=
  r_call hk as rest hq rfl hj hst hna (Nat.ble_eq.mp hcat) hd hE (fun _ _ => trivial) h
theorem r_callI (hk : gMT[k]? = some row) {idx len j na : Nat} {ax : List Nat} {w : Value} (o : Nat) (as rest : List Value) {P : Option Value → gS → Prop} (hq : glook row.2.2.2.2 pc = some (.invokespecial idx, len, j :: na :: ax, w)) (hj : Nat.blt j 1000 = true) (hst : st = (.ref o :: as).reverse ++ rest) (hna : as.length + 1 = na) (hcat : Nat.ble (gcat rest) 8 = true) (hd : 1 ≤ d) (hE : gE (d - 1) j (.ref o :: as) S P)
    (h : ∀ v1 S1, P v1 S1 → gX d k (pc + 3) L (v1.toList ++ rest) S1 Q) : gX d k pc L st S Q :=
  r_call hk (.ref o :: as) rest hq rfl hj hst hna (Nat.ble_eq.mp hcat) hd hE (fun _ _ => ⟨o, as, rfl⟩) h
end GCA
end
section
/-! ===== numbers in a range, counts, loops ===== -/
def gin (x : Int32) (N : Nat) : Prop := ∃ j, j < N ∧ x = nI j
theorem gin_lt {x : Int32} {N : Nat} (h : x < 0) (hN : N < 2 ^ 31) : ¬ gin x N := by
  rintro ⟨j, hj, rfl⟩
  exact nI_pos (by omega) h
theorem gin_ge {x : Int32} {N : Nat} (h : nI N ≤ x) (hN : N < 2 ^ 31) : ¬ gin x N := by
  rintro ⟨j, hj, rfl⟩
  exact nI_ge hj hN h
theorem gin_gt {x : Int32} {M : Nat} (h : nI M < x) (hN : M < 2 ^ 31) : ¬ gin x (M + 1) := by
  rintro ⟨j, hj, rfl⟩
  have := (nI_ltI (by omega) (by omega)).mp h
  omega
theorem gin_of {x : Int32} {N : Nat} (h0 : ¬ x < 0) (h : ¬ nI N ≤ x) (hN : N < 2 ^ 31) : gin x N := by
  obtain ⟨j, hj, hx⟩ := nI_of h0
  refine ⟨j, ?_, hx⟩
  rw [hx] at h
  have := mt (nI_leI (by omega) (by omega)).mpr h
  omega
theorem gin_of' {x : Int32} {M : Nat} (h0 : ¬ x < 0) (h : ¬ nI M < x) (hN : M < 2 ^ 31) : gin x (M + 1) := by
  obtain ⟨j, hj, hx⟩ := nI_of h0
  refine ⟨j, ?_, hx⟩
  rw [hx] at h
  have := mt (nI_ltI (by omega) (by omega)).mpr h
  omega
theorem nI_inj {i j : Nat} (h : nI i = nI j) (hi : i < 2 ^ 31) (hj : j < 2 ^ 31) : i = j := (nI_eq hi hj).mp h
theorem gin_iff {j N : Nat} (hj : j < 2 ^ 31) (hN : N < 2 ^ 31) : gin (nI j) N ↔ j < N := by
  constructor
  · rintro ⟨i, hi, e⟩
    rw [nI_inj e hj (by omega)]; exact hi
  · exact fun h => ⟨j, h, rfl⟩
def gcnt (p : Nat → Prop) [DecidablePred p] : Nat → Nat
  | 0 => 0
  | n + 1 => gcnt p n + (if p n then 1 else 0)
theorem gcnt_le (p : Nat → Prop) [DecidablePred p] : ∀ n, gcnt p n ≤ n := by
  intro n
  induction n with
  | zero => exact Nat.le_refl _
  | succ n ih => simp only [gcnt]; split <;> omega
theorem gcnt_congr {p p' : Nat → Prop} [DecidablePred p] [DecidablePred p'] : ∀ n, (∀ i, i < n → (p i ↔ p' i)) → gcnt p n = gcnt p' n := by
  intro n
  induction n with
  | zero => intro _; rfl
  | succ n ih =>
    intro h
    simp only [gcnt]
    rw [ih (fun i hi => h i (by omega))]
    have := h n (by omega)
    by_cases e : p n
    · simp [e, this.mp e]
    · simp [e, mt this.mpr e]
theorem g_down {P : Nat → Prop} {N : Nat} (hN : P N) (hs : ∀ i, i < N → P (i + 1) → P i) : ∀ i, i ≤ N → P i := by
  intro i hi
  induction hk : N - i generalizing i with
  | zero =>
    have : i = N := by omega
    rw [this]; exact hN
  | succ k ih => exact hs i (by omega) (ih (i + 1) (by omega) (by omega))
/-- an answer of 0 or 1 -/
def gbo (c : Prop) (S : gS) : Option Value → gS → Prop := fun v S' => ((c ∧ v = some (.int 1)) ∨ (¬ c ∧ v = some (.int 0))) ∧ S' = S
/-- one answer, in that state -/
def gre (x : Int32) (S : gS) : Option Value → gS → Prop := fun v S' => v = some (.int x) ∧ S' = S
theorem gbo_t {c : Prop} {S : gS} (h : c) : gbo c S (some (.int 1)) S := ⟨Or.inl ⟨h, rfl⟩, rfl⟩
theorem gbo_f {c : Prop} {S : gS} (h : ¬ c) : gbo c S (some (.int 0)) S := ⟨Or.inr ⟨h, rfl⟩, rfl⟩
end
section
/-! ===== the reference: methods without loops ===== -/
section GM1
variable {w a : Nat → Nat → Int32} {b : Nat → Nat → Int64} {r : Nat → Nat → Nat} {q : Nat → Nat → Option Nat} {y : gH} {n u : Nat} {d : Nat}
abbrev gTh (w : Nat → Nat → Int32) : Nat → Nat → Int32 := upd2 w 44 0 0
theorem m_within (d : Nat) (S : gS) (x : Int32) (M : Nat) (hM : M < 2 ^ 30) : gE d 116 [.int x, .int 0, .int (nI M)] S (gbo (gin x (M + 1)) S) := by
  have hk : gMT[116]? = some gro_116 := rfl
  refine r_in hk [some (.int x), some (.int 0), some (.int (nI M))] (Nat.le_of_ble_eq_true rfl) rfl ?_
  iterate 3 refine r_step hk rfl rfl rfl ?_
  refine r_lt (fun h2 => ?_) (fun h2 => ?_)
  · refine r_step hk rfl rfl rfl ?_
    refine r_iret hk rfl (Or.inl rfl) ?_
    first | exact gbo_t (gin_of' (by assumption) (by assumption) (by omega)) | exact gbo_f (gin_lt (by assumption) (by omega)) | exact gbo_f (gin_gt (by assumption) (by omega))
  · iterate 3 refine r_step hk rfl rfl rfl ?_
    refine r_gt (fun h7 => ?_) (fun h7 => ?_)
    · refine r_step hk rfl rfl rfl ?_
      refine r_iret hk rfl (Or.inl rfl) ?_
      first | exact gbo_t (gin_of' (by assumption) (by assumption) (by omega)) | exact gbo_f (gin_lt (by assumption) (by omega)) | exact gbo_f (gin_gt (by assumption) (by omega))
    · iterate 2 refine r_step hk rfl rfl rfl ?_
      refine r_iret hk rfl (Or.inr rfl) ?_
      first | exact gbo_t (gin_of' (by assumption) (by assumption) (by omega)) | exact gbo_f (gin_lt (by assumption) (by omega)) | exact gbo_f (gin_gt (by assumption) (by omega))
theorem m_within1 (d : Nat) (S : gS) (x : Int32) : gE d 116 [.int x, .int 1, .int 10000] S (gbo (∃ j, 1 ≤ j ∧ j < 10001 ∧ x = nI j) S) := by
  have hk : gMT[116]? = some gro_116 := rfl
  refine r_in hk [some (.int x), some (.int 1), some (.int 10000)] (Nat.le_of_ble_eq_true rfl) rfl ?_
  have key1 : x < 1 → ¬ ∃ j, 1 ≤ j ∧ j < 10001 ∧ x = nI j := by
    rintro h ⟨j, h1, h2, rfl⟩
    have := (nI_ltI (a := j) (b := 1) (by omega) (by omega)).mp h
    omega
  have key2 : (10000 : Int32) < x → ¬ ∃ j, 1 ≤ j ∧ j < 10001 ∧ x = nI j := by
    rintro h ⟨j, h1, h2, rfl⟩
    have := (nI_ltI (a := 10000) (b := j) (by omega) (by omega)).mp h
    omega
  have key3 : ¬ x < 1 → ¬ (10000 : Int32) < x → ∃ j, 1 ≤ j ∧ j < 10001 ∧ x = nI j := by
    intro h1 h2
    have h0 : ¬ x < 0 := fun h => h1 (by
      have e1 : x.toInt < (0 : Int32).toInt := Int32.lt_iff_toInt_lt.mp h
      refine Int32.lt_iff_toInt_lt.mpr ?_
      have e2 : (0 : Int32).toInt = 0 := by decide
      have e3 : (1 : Int32).toInt = 1 := by decide
      omega)
    obtain ⟨j, hj, rfl⟩ := gin_of' (M := 10000) h0 h2 (by decide)
    refine ⟨j, ?_, hj, rfl⟩
    rcases Nat.lt_or_ge j 1 with h | h
    · exact absurd ((nI_ltI (a := j) (b := 1) (by omega) (by omega)).mpr h) h1
    · exact h
  iterate 3 refine r_step hk rfl rfl rfl ?_
  refine r_lt (fun h2 => ?_) (fun h2 => ?_)
  · refine r_step hk rfl rfl rfl ?_
    refine r_iret hk rfl (Or.inl rfl) ?_
    first | exact gbo_t (key3 (by assumption) (by assumption)) | exact gbo_f (key1 (by assumption)) | exact gbo_f (key2 (by assumption))
  · iterate 3 refine r_step hk rfl rfl rfl ?_
    refine r_gt (fun h7 => ?_) (fun h7 => ?_)
    · refine r_step hk rfl rfl rfl ?_
      refine r_iret hk rfl (Or.inl rfl) ?_
      first | exact gbo_t (key3 (by assumption) (by assumption)) | exact gbo_f (key1 (by assumption)) | exact gbo_f (key2 (by assumption))
    · iterate 2 refine r_step hk rfl rfl rfl ?_
      refine r_iret hk rfl (Or.inr rfl) ?_
      first | exact gbo_t (key3 (by assumption) (by assumption)) | exact gbo_f (key1 (by assumption)) | exact gbo_f (key2 (by assumption))
theorem m_isShop (d : Nat) (S : gS) (x : Int32) : gE d 118 [.int x] S (gbo (gin x 5) S) := by
  have hk : gMT[118]? = some gro_118 := rfl
  refine r_in hk [some (.int x)] (Nat.le_of_ble_eq_true rfl) rfl ?_
  iterate 2 refine r_step hk rfl rfl rfl ?_
  refine r_lt (fun h1 => ?_) (fun h1 => ?_)
  · refine r_step hk rfl rfl rfl ?_
    refine r_iret hk rfl (Or.inl rfl) ?_
    first | exact gbo_t (gin_of (N := 5) (by assumption) (by assumption) (by decide)) | exact gbo_f (gin_lt (by assumption) (by decide)) | exact gbo_f (gin_ge (N := 5) (by assumption) (by decide))
  · iterate 3 refine r_step hk rfl rfl rfl ?_
    refine r_ge (fun h6 => ?_) (fun h6 => ?_)
    · refine r_step hk rfl rfl rfl ?_
      refine r_iret hk rfl (Or.inl rfl) ?_
      first | exact gbo_t (gin_of (N := 5) (by assumption) (by assumption) (by decide)) | exact gbo_f (gin_lt (by assumption) (by decide)) | exact gbo_f (gin_ge (N := 5) (by assumption) (by decide))
    · iterate 2 refine r_step hk rfl rfl rfl ?_
      refine r_iret hk rfl (Or.inr rfl) ?_
      first | exact gbo_t (gin_of (N := 5) (by assumption) (by assumption) (by decide)) | exact gbo_f (gin_lt (by assumption) (by decide)) | exact gbo_f (gin_ge (N := 5) (by assumption) (by decide))
theorem m_isThing {N : Nat} (hN : w 44 25 = nI N) (hN1 : N ≤ 100) (x : Int32) : gE d 121 [.ref 44, .int x] (n, u, HP w a b r q y) (gbo (gin x N) (n, u, HP w a b r q y)) := by
  have hk : gMT[121]? = some gro_121 := rfl
  refine r_in hk [some (.ref 44), some (.int x)] (Nat.le_of_ble_eq_true rfl) rfl ?_
  iterate 2 refine r_step hk rfl rfl rfl ?_
  refine r_lt (fun h1 => ?_) (fun h1 => ?_)
  · refine r_step hk rfl rfl rfl ?_
    refine r_iret hk rfl (Or.inl rfl) ?_
    first | exact gbo_t (gin_of (by assumption) (by rw [← hN]; assumption) (by omega)) | exact gbo_f (gin_lt (by assumption) (by omega)) | exact gbo_f (gin_ge (by rw [← hN]; assumption) (by omega))
  · iterate 4 refine r_step hk rfl rfl rfl ?_
    refine r_ge (fun h9 => ?_) (fun h9 => ?_)
    · refine r_step hk rfl rfl rfl ?_
      refine r_iret hk rfl (Or.inl rfl) ?_
      first | exact gbo_t (gin_of (by assumption) (by rw [← hN]; assumption) (by omega)) | exact gbo_f (gin_lt (by assumption) (by omega)) | exact gbo_f (gin_ge (by rw [← hN]; assumption) (by omega))
    · iterate 2 refine r_step hk rfl rfl rfl ?_
      refine r_iret hk rfl (Or.inr rfl) ?_
      first | exact gbo_t (gin_of (by assumption) (by rw [← hN]; assumption) (by omega)) | exact gbo_f (gin_lt (by assumption) (by omega)) | exact gbo_f (gin_ge (by rw [← hN]; assumption) (by omega))
theorem m_isOn (hd : 1 ≤ d) {N : Nat} (hN : w 44 25 = nI N) (hN1 : N ≤ 100) (x : Int32) : gE d 135 [.ref 44, .int x] (n, u, HP w a b r q y) (gbo (∃ t, t < N ∧ x = nI t ∧ a 64 t = 1) (n, u, HP w a b r q y)) := by
  have hk : gMT[135]? = some gro_135 := rfl
  refine r_in hk [some (.ref 44), some (.int x)] (Nat.le_of_ble_eq_true rfl) rfl ?_
  iterate 2 refine r_step hk rfl rfl rfl ?_
  refine r_callV hk [.ref 44, .int x] [] rfl rfl rfl rfl rfl rfl rfl hd (m_isThing hN hN1 x) ?_
  rintro _ _ ⟨⟨⟨t, ht, rfl⟩, rfl⟩ | ⟨hs, rfl⟩, rfl⟩
  · refine r_step hk rfl rfl rfl ?_
    refine r_eq (fun h => absurd h (by decide)) (fun _ => ?_)
    iterate 3 refine r_step hk rfl rfl rfl ?_
    refine r_ia hk (t) rfl rfl rfl (by omega) rfl ?_
    iterate 2 refine r_step hk rfl rfl rfl ?_
    refine r_ne (fun h15 => ?_) (fun h15 => ?_)
    · refine r_step hk rfl rfl rfl ?_
      refine r_iret hk rfl (Or.inl rfl) ?_
      first | exact gbo_t ⟨t, ht, rfl, by assumption⟩ | exact gbo_f (fun ⟨t2, h2, e2, h3⟩ => h15 (by rw [nI_inj e2 (by omega) (by omega)]; exact h3)) | exact gbo_f (fun ⟨t, ht, e, _⟩ => hs ⟨t, ht, e⟩)
    · iterate 2 refine r_step hk rfl rfl rfl ?_
      refine r_iret hk rfl (Or.inr rfl) ?_
      first | exact gbo_t ⟨t, ht, rfl, by assumption⟩ | exact gbo_f (fun ⟨t2, h2, e2, h3⟩ => h15 (by rw [nI_inj e2 (by omega) (by omega)]; exact h3)) | exact gbo_f (fun ⟨t, ht, e, _⟩ => hs ⟨t, ht, e⟩)
  · refine r_step hk rfl rfl rfl ?_
    refine r_eq (fun _ => ?_) (fun h => absurd (by decide) h)
    refine r_step hk rfl rfl rfl ?_
    refine r_iret hk rfl (Or.inl rfl) ?_
    first | exact gbo_t ⟨t, ht, rfl, by assumption⟩ | exact gbo_f (fun ⟨t2, h2, e2, h3⟩ => h15 (by rw [nI_inj e2 (by omega) (by omega)]; exact h3)) | exact gbo_f (fun ⟨t, ht, e, _⟩ => hs ⟨t, ht, e⟩)
theorem m_thrown : gE d 92 [.ref 44] (n, u, HP w a b r q y) (gre (w 44 0) (n, u, HP w a b r q y)) := by
  have hk : gMT[92]? = some gro_92 := rfl
  refine r_in hk [some (.ref 44)] (Nat.le_of_ble_eq_true rfl) rfl ?_
  iterate 2 refine r_step hk rfl rfl rfl ?_
  refine r_iret hk rfl trivial ?_
  exact ⟨rfl, rfl⟩
theorem m_shelf (hd : 1 ≤ d) (x z : Int32) : gE d 117 [.ref 44, .int x, .int z] (n, u, HP w a b r q y) (fun v S' => (∃ s j, s < 5 ∧ j < 41 ∧ x = nI s ∧ z = nI j ∧ v = some (.int 1) ∧ S' = (n, u, HP (gTh w) (upd2 a 69 s z) b r q y)) ∨ (¬ (gin x 5 ∧ gin z 41) ∧ v = some (.int 0) ∧ S' = (n, u, HP (gTh w) a b r q y))) := by
  have hk : gMT[117]? = some gro_117 := rfl
  refine r_in hk [some (.ref 44), some (.int x), some (.int z)] (Nat.le_of_ble_eq_true rfl) rfl ?_
  iterate 2 refine r_step hk rfl rfl rfl ?_
  refine r_putI hk rfl rfl rfl rfl ?_
  refine r_step hk rfl rfl rfl ?_
  refine r_callS hk [.int x] [] rfl rfl rfl rfl rfl hd (m_isShop _ _ _) ?_
  rintro _ _ ⟨⟨⟨s, hs, rfl⟩, rfl⟩ | ⟨hs, rfl⟩, rfl⟩
  · refine r_step hk rfl rfl rfl ?_
    refine r_eq (fun h => absurd h (by decide)) (fun _ => ?_)
    iterate 3 refine r_step hk rfl rfl rfl ?_
    refine r_callS hk [.int z, .int 0, .int 40] [] rfl rfl rfl rfl rfl hd (m_within _ _ _ 40 (by decide)) ?_
    rintro _ _ ⟨⟨⟨j, hj, rfl⟩, rfl⟩ | ⟨hz, rfl⟩, rfl⟩
    · refine r_step hk rfl rfl rfl ?_
      refine r_ne (fun _ => ?_) (fun h => absurd h (by decide))
      iterate 4 refine r_step hk rfl rfl rfl ?_
      refine r_is hk (s) rfl rfl rfl rfl hs rfl rfl ?_
      refine r_step hk rfl rfl rfl ?_
      refine r_iret hk rfl (Or.inr rfl) ?_
      first | exact Or.inl ⟨s, j, hs, hj, rfl, rfl, rfl, rfl⟩ | exact Or.inr ⟨fun h => hz h.2, rfl, rfl⟩ | exact Or.inr ⟨fun h => hs h.1, rfl, rfl⟩
    · refine r_step hk rfl rfl rfl ?_
      refine r_ne (fun h => absurd (by decide) h) (fun _ => ?_)
      refine r_step hk rfl rfl rfl ?_
      refine r_iret hk rfl (Or.inl rfl) ?_
      first | exact Or.inl ⟨s, j, hs, hj, rfl, rfl, rfl, rfl⟩ | exact Or.inr ⟨fun h => hz h.2, rfl, rfl⟩ | exact Or.inr ⟨fun h => hs h.1, rfl, rfl⟩
  · refine r_step hk rfl rfl rfl ?_
    refine r_eq (fun _ => ?_) (fun h => absurd (by decide) h)
    refine r_step hk rfl rfl rfl ?_
    refine r_iret hk rfl (Or.inl rfl) ?_
    first | exact Or.inl ⟨s, j, hs, hj, rfl, rfl, rfl, rfl⟩ | exact Or.inr ⟨fun h => hz h.2, rfl, rfl⟩ | exact Or.inr ⟨fun h => hs h.1, rfl, rfl⟩
theorem m_base (hd : 1 ≤ d) (x z : Int32) : gE d 119 [.ref 44, .int x, .int z] (n, u, HP w a b r q y) (fun v S' => (∃ s j, s < 8 ∧ 1 ≤ j ∧ j < 10001 ∧ x = nI s ∧ z = nI j ∧ v = some (.int 1) ∧ S' = (n, u, HP (gTh w) (upd2 a 68 s z) b r q y)) ∨ (¬ (gin x 8 ∧ ∃ j, 1 ≤ j ∧ j < 10001 ∧ z = nI j) ∧ v = some (.int 0) ∧ S' = (n, u, HP (gTh w) a b r q y))) := by
  have hk : gMT[119]? = some gro_119 := rfl
  refine r_in hk [some (.ref 44), some (.int x), some (.int z)] (Nat.le_of_ble_eq_true rfl) rfl ?_
  iterate 2 refine r_step hk rfl rfl rfl ?_
  refine r_putI hk rfl rfl rfl rfl ?_
  iterate 3 refine r_step hk rfl rfl rfl ?_
  refine r_callS hk [.int x, .int 0, .int 7] [] rfl rfl rfl rfl rfl hd (m_within _ _ _ 7 (by decide)) ?_
  rintro _ _ ⟨⟨⟨s, hs, rfl⟩, rfl⟩ | ⟨hs, rfl⟩, rfl⟩
  · refine r_step hk rfl rfl rfl ?_
    refine r_eq (fun h => absurd h (by decide)) (fun _ => ?_)
    iterate 3 refine r_step hk rfl rfl rfl ?_
    refine r_callS hk [.int z, .int 1, .int 10000] [] rfl rfl rfl rfl rfl hd (m_within1 _ _ _) ?_
    rintro _ _ ⟨⟨⟨j, h1, hj, rfl⟩, rfl⟩ | ⟨hz, rfl⟩, rfl⟩
    · refine r_step hk rfl rfl rfl ?_
      refine r_ne (fun _ => ?_) (fun h => absurd h (by decide))
      iterate 4 refine r_step hk rfl rfl rfl ?_
      refine r_is hk (s) rfl rfl rfl rfl hs rfl rfl ?_
      refine r_step hk rfl rfl rfl ?_
      refine r_iret hk rfl (Or.inr rfl) ?_
      first | exact Or.inl ⟨s, j, hs, h1, hj, rfl, rfl, rfl, rfl⟩ | exact Or.inr ⟨fun h => hz h.2, rfl, rfl⟩ | exact Or.inr ⟨fun h => hs h.1, rfl, rfl⟩
    · refine r_step hk rfl rfl rfl ?_
      refine r_ne (fun h => absurd (by decide) h) (fun _ => ?_)
      refine r_step hk rfl rfl rfl ?_
      refine r_iret hk rfl (Or.inl rfl) ?_
      first | exact Or.inl ⟨s, j, hs, h1, hj, rfl, rfl, rfl, rfl⟩ | exact Or.inr ⟨fun h => hz h.2, rfl, rfl⟩ | exact Or.inr ⟨fun h => hs h.1, rfl, rfl⟩
  · refine r_step hk rfl rfl rfl ?_
    refine r_eq (fun _ => ?_) (fun h => absurd (by decide) h)
    refine r_step hk rfl rfl rfl ?_
    refine r_iret hk rfl (Or.inl rfl) ?_
    first | exact Or.inl ⟨s, j, hs, h1, hj, rfl, rfl, rfl, rfl⟩ | exact Or.inr ⟨fun h => hz h.2, rfl, rfl⟩ | exact Or.inr ⟨fun h => hs h.1, rfl, rfl⟩
theorem m_van (hd : 1 ≤ d) (x : Int32) : gE d 146 [.ref 44, .int x] (n, u, HP w a b r q y) (fun v S' => (gin x 1001 ∧ v = some (.int 1) ∧ S' = (n, u, HP (upd2 (gTh w) 44 47 x) a b r q y)) ∨ (¬ gin x 1001 ∧ v = some (.int 0) ∧ S' = (n, u, HP (gTh w) a b r q y))) := by
  have hk : gMT[146]? = some gro_146 := rfl
  refine r_in hk [some (.ref 44), some (.int x)] (Nat.le_of_ble_eq_true rfl) rfl ?_
  iterate 2 refine r_step hk rfl rfl rfl ?_
  refine r_putI hk rfl rfl rfl rfl ?_
  iterate 3 refine r_step hk rfl rfl rfl ?_
  refine r_callS hk [.int x, .int 0, .int 1000] [] rfl rfl rfl rfl rfl hd (m_within _ _ _ 1000 (by decide)) ?_
  rintro _ _ ⟨⟨hs, rfl⟩ | ⟨hs, rfl⟩, rfl⟩
  · refine r_step hk rfl rfl rfl ?_
    refine r_ne (fun _ => ?_) (fun h => absurd h (by decide))
    iterate 2 refine r_step hk rfl rfl rfl ?_
    refine r_putI hk rfl rfl rfl rfl ?_
    refine r_step hk rfl rfl rfl ?_
    refine r_iret hk rfl (Or.inr rfl) ?_
    first | exact Or.inl ⟨hs, rfl, rfl⟩ | exact Or.inr ⟨hs, rfl, rfl⟩
  · refine r_step hk rfl rfl rfl ?_
    refine r_ne (fun h => absurd (by decide) h) (fun _ => ?_)
    refine r_step hk rfl rfl rfl ?_
    refine r_iret hk rfl (Or.inl rfl) ?_
    first | exact Or.inl ⟨hs, rfl, rfl⟩ | exact Or.inr ⟨hs, rfl, rfl⟩
theorem m_rate (hd : 1 ≤ d) (x : Int32) : gE d 156 [.ref 44, .int x] (n, u, HP w a b r q y) (fun v S' => (gin x 101 ∧ v = some (.int 1) ∧ S' = (n, u, HP (upd2 (gTh w) 44 39 x) a b r q y)) ∨ (¬ gin x 101 ∧ v = some (.int 0) ∧ S' = (n, u, HP (gTh w) a b r q y))) := by
  have hk : gMT[156]? = some gro_156 := rfl
  refine r_in hk [some (.ref 44), some (.int x)] (Nat.le_of_ble_eq_true rfl) rfl ?_
  iterate 2 refine r_step hk rfl rfl rfl ?_
  refine r_putI hk rfl rfl rfl rfl ?_
  iterate 3 refine r_step hk rfl rfl rfl ?_
  refine r_callS hk [.int x, .int 0, .int 100] [] rfl rfl rfl rfl rfl hd (m_within _ _ _ 100 (by decide)) ?_
  rintro _ _ ⟨⟨hs, rfl⟩ | ⟨hs, rfl⟩, rfl⟩
  · refine r_step hk rfl rfl rfl ?_
    refine r_ne (fun _ => ?_) (fun h => absurd h (by decide))
    iterate 2 refine r_step hk rfl rfl rfl ?_
    refine r_putI hk rfl rfl rfl rfl ?_
    refine r_step hk rfl rfl rfl ?_
    refine r_iret hk rfl (Or.inr rfl) ?_
    first | exact Or.inl ⟨hs, rfl, rfl⟩ | exact Or.inr ⟨hs, rfl, rfl⟩
  · refine r_step hk rfl rfl rfl ?_
    refine r_ne (fun h => absurd (by decide) h) (fun _ => ?_)
    refine r_step hk rfl rfl rfl ?_
    refine r_iret hk rfl (Or.inl rfl) ?_
    first | exact Or.inl ⟨hs, rfl, rfl⟩ | exact Or.inr ⟨hs, rfl, rfl⟩
end GM1
end
section
/-! ===== the reference: give, sales and the like ===== -/
section GM2
variable {w a : Nat → Nat → Int32} {b : Nat → Nat → Int64} {r : Nat → Nat → Nat} {q : Nat → Nat → Option Nat} {y : gH} {n u : Nat} {d : Nat}
theorem m_give (hd : 1 ≤ d) {N : Nat} (hN : w 44 25 = nI N) (hN1 : N ≤ 100) (x1 x2 x3 x4 : Int32) : gE d 115 [.ref 44, .int x1, .int x2, .int x3, .int x4] (n, u, HP w a b r q y) (fun v S' =>
    (∃ j1 j2 j3 j4, j1 < 20 ∧ j2 < 8 ∧ j3 < 10 ∧ j4 < 5 ∧ N < 100 ∧ x1 = nI j1 ∧ x2 = nI j2 ∧ x3 = nI j3 ∧ x4 = nI j4 ∧ v = some (.int (nI N)) ∧ S' = (n, u, HP (upd2 (gTh w) 44 25 (nI (N + 1))) (upd2 (upd2 (upd2 (upd2 (upd2 a 60 N x1) 61 N x2) 62 N x3) 63 N x4) 64 N 0) b r q y))
    ∨ (¬ (gin x1 20 ∧ gin x2 8 ∧ gin x3 10 ∧ gin x4 5 ∧ N < 100) ∧ v = some (.int (-1)) ∧ S' = (n, u, HP (gTh w) a b r q y))) := by
  have hk : gMT[115]? = some gro_115 := rfl
  refine r_in hk [some (.ref 44), some (.int x1), some (.int x2), some (.int x3), some (.int x4)] (Nat.le_of_ble_eq_true rfl) rfl ?_
  have e100 : w 44 25 = 100 ↔ N = 100 := by rw [hN]; exact nI_eq (a := N) (b := 100) (by omega) (by omega)
  have e1 : w 44 25 + 1 = nI (N + 1) := by rw [hN]; exact nI_1 N
  have e2 : w 44 25 + 1 - 1 = nI N := by rw [e1]; exact nI_pred N
  iterate 2 refine r_step hk rfl rfl rfl ?_
  refine r_putI hk rfl rfl rfl rfl ?_
  iterate 3 refine r_step hk rfl rfl rfl ?_
  refine r_callS hk [.int x1, .int 0, .int 19] [] rfl rfl rfl rfl rfl hd (m_within _ _ _ 19 (by decide)) ?_
  rintro _ _ ⟨⟨⟨j1, hj1, rfl⟩, rfl⟩ | ⟨hs, rfl⟩, rfl⟩
  · refine r_step hk rfl rfl rfl ?_
    refine r_eq (fun hq9 => absurd hq9 (by decide)) (fun _ => ?_)
    iterate 3 refine r_step hk rfl rfl rfl ?_
    refine r_callS hk [.int x2, .int 0, .int 7] [] rfl rfl rfl rfl rfl hd (m_within _ _ _ 7 (by decide)) ?_
    rintro _ _ ⟨⟨⟨j2, hj2, rfl⟩, rfl⟩ | ⟨hs, rfl⟩, rfl⟩
    · refine r_step hk rfl rfl rfl ?_
      refine r_eq (fun hq9 => absurd hq9 (by decide)) (fun _ => ?_)
      iterate 3 refine r_step hk rfl rfl rfl ?_
      refine r_callS hk [.int x3, .int 0, .int 9] [] rfl rfl rfl rfl rfl hd (m_within _ _ _ 9 (by decide)) ?_
      rintro _ _ ⟨⟨⟨j3, hj3, rfl⟩, rfl⟩ | ⟨hs, rfl⟩, rfl⟩
      · refine r_step hk rfl rfl rfl ?_
        refine r_eq (fun hq9 => absurd hq9 (by decide)) (fun _ => ?_)
        iterate 3 refine r_step hk rfl rfl rfl ?_
        refine r_callS hk [.int x4, .int 0, .int 4] [] rfl rfl rfl rfl rfl hd (m_within _ _ _ 4 (by decide)) ?_
        rintro _ _ ⟨⟨⟨j4, hj4, rfl⟩, rfl⟩ | ⟨hs, rfl⟩, rfl⟩
        · refine r_step hk rfl rfl rfl ?_
          refine r_eq (fun hq9 => absurd hq9 (by decide)) (fun _ => ?_)
          iterate 4 refine r_step hk rfl rfl rfl ?_
          refine r_ne (fun h51 => ?_) (fun h51 => ?_)
          · iterate 5 refine r_step hk rfl rfl rfl ?_
            refine r_is hk (N) rfl rfl rfl hN (by have := mt e100.mpr h51; omega) rfl rfl ?_
            iterate 5 refine r_step hk rfl rfl rfl ?_
            refine r_is hk (N) rfl rfl rfl hN (by have := mt e100.mpr h51; omega) rfl rfl ?_
            iterate 5 refine r_step hk rfl rfl rfl ?_
            refine r_is hk (N) rfl rfl rfl hN (by have := mt e100.mpr h51; omega) rfl rfl ?_
            iterate 5 refine r_step hk rfl rfl rfl ?_
            refine r_is hk (N) rfl rfl rfl hN (by have := mt e100.mpr h51; omega) rfl rfl ?_
            iterate 5 refine r_step hk rfl rfl rfl ?_
            refine r_is hk (N) rfl rfl rfl hN (by have := mt e100.mpr h51; omega) rfl rfl ?_
            iterate 5 refine r_step hk rfl rfl rfl ?_
            refine r_putI hk rfl rfl rfl rfl ?_
            iterate 4 refine r_step hk rfl rfl rfl ?_
            refine r_iret hk rfl trivial ?_
            exact Or.inl ⟨j1, j2, j3, j4, hj1, hj2, hj3, hj4, by have := mt e100.mpr h51; omega, rfl, rfl, rfl, rfl, congrArg (fun z => some (Value.int z)) e2, by rw [← e1]; rfl⟩
          · refine r_step hk rfl rfl rfl ?_
            refine r_iret hk rfl trivial ?_
            first | exact Or.inr ⟨fun h => absurd h.2.2.2.2 (by have := e100.mp h51; omega), rfl, rfl⟩ | exact Or.inr ⟨fun h => hs h.2.2.2.1, rfl, rfl⟩ | exact Or.inr ⟨fun h => hs h.2.2.1, rfl, rfl⟩ | exact Or.inr ⟨fun h => hs h.2.1, rfl, rfl⟩ | exact Or.inr ⟨fun h => hs h.1, rfl, rfl⟩
        · refine r_step hk rfl rfl rfl ?_
          refine r_eq (fun _ => ?_) (fun hq9 => absurd (by decide) hq9)
          refine r_step hk rfl rfl rfl ?_
          refine r_iret hk rfl trivial ?_
          first | exact Or.inr ⟨fun h => absurd h.2.2.2.2 (by have := e100.mp h51; omega), rfl, rfl⟩ | exact Or.inr ⟨fun h => hs h.2.2.2.1, rfl, rfl⟩ | exact Or.inr ⟨fun h => hs h.2.2.1, rfl, rfl⟩ | exact Or.inr ⟨fun h => hs h.2.1, rfl, rfl⟩ | exact Or.inr ⟨fun h => hs h.1, rfl, rfl⟩
      · refine r_step hk rfl rfl rfl ?_
        refine r_eq (fun _ => ?_) (fun hq9 => absurd (by decide) hq9)
        refine r_step hk rfl rfl rfl ?_
        refine r_iret hk rfl trivial ?_
        first | exact Or.inr ⟨fun h => absurd h.2.2.2.2 (by have := e100.mp h51; omega), rfl, rfl⟩ | exact Or.inr ⟨fun h => hs h.2.2.2.1, rfl, rfl⟩ | exact Or.inr ⟨fun h => hs h.2.2.1, rfl, rfl⟩ | exact Or.inr ⟨fun h => hs h.2.1, rfl, rfl⟩ | exact Or.inr ⟨fun h => hs h.1, rfl, rfl⟩
    · refine r_step hk rfl rfl rfl ?_
      refine r_eq (fun _ => ?_) (fun hq9 => absurd (by decide) hq9)
      refine r_step hk rfl rfl rfl ?_
      refine r_iret hk rfl trivial ?_
      first | exact Or.inr ⟨fun h => absurd h.2.2.2.2 (by have := e100.mp h51; omega), rfl, rfl⟩ | exact Or.inr ⟨fun h => hs h.2.2.2.1, rfl, rfl⟩ | exact Or.inr ⟨fun h => hs h.2.2.1, rfl, rfl⟩ | exact Or.inr ⟨fun h => hs h.2.1, rfl, rfl⟩ | exact Or.inr ⟨fun h => hs h.1, rfl, rfl⟩
  · refine r_step hk rfl rfl rfl ?_
    refine r_eq (fun _ => ?_) (fun hq9 => absurd (by decide) hq9)
    refine r_step hk rfl rfl rfl ?_
    refine r_iret hk rfl trivial ?_
    first | exact Or.inr ⟨fun h => absurd h.2.2.2.2 (by have := e100.mp h51; omega), rfl, rfl⟩ | exact Or.inr ⟨fun h => hs h.2.2.2.1, rfl, rfl⟩ | exact Or.inr ⟨fun h => hs h.2.2.1, rfl, rfl⟩ | exact Or.inr ⟨fun h => hs h.2.1, rfl, rfl⟩ | exact Or.inr ⟨fun h => hs h.1, rfl, rfl⟩
theorem m_helper {N : Nat} (hN : w 44 49 = nI N) (hN1 : N ≤ 10) (x : Int32) : gE d 150 [.ref 44, .int x] (n, u, HP w a b r q y) (fun v S' =>
    (∃ j, j < 4096 ∧ N < 10 ∧ x = nI j ∧ v = some (.int (nI N)) ∧ S' = (n, u, HP (upd2 (gTh w) 44 49 (nI (N + 1))) (upd2 a 80 N x) b r q y))
    ∨ (¬ (gin x 4096 ∧ N < 10) ∧ v = some (.int (-1)) ∧ S' = (n, u, HP (gTh w) a b r q y))) := by
  have hk : gMT[150]? = some gro_150 := rfl
  refine r_in hk [some (.ref 44), some (.int x)] (Nat.le_of_ble_eq_true rfl) rfl ?_
  have e100 : w 44 49 = 10 ↔ N = 10 := by rw [hN]; exact nI_eq (a := N) (b := 10) (by omega) (by omega)
  have e1 : w 44 49 + 1 = nI (N + 1) := by rw [hN]; exact nI_1 N
  have e2 : w 44 49 + 1 - 1 = nI N := by rw [e1]; exact nI_pred N
  iterate 2 refine r_step hk rfl rfl rfl ?_
  refine r_putI hk rfl rfl rfl rfl ?_
  iterate 2 refine r_step hk rfl rfl rfl ?_
  refine r_lt (fun h6 => ?_) (fun h6 => ?_)
  · refine r_step hk rfl rfl rfl ?_
    refine r_iret hk rfl trivial ?_
    first | exact Or.inr ⟨fun h => absurd h.2 (by have := e100.mp h22; omega), rfl, rfl⟩ | exact Or.inr ⟨fun h => gin_gt (M := 4095) h13 (by decide) h.1, rfl, rfl⟩ | exact Or.inr ⟨fun h => gin_lt h6 (by decide) h.1, rfl, rfl⟩
  · iterate 3 refine r_step hk rfl rfl rfl ?_
    refine r_gt (fun h13 => ?_) (fun h13 => ?_)
    · refine r_step hk rfl rfl rfl ?_
      refine r_iret hk rfl trivial ?_
      first | exact Or.inr ⟨fun h => absurd h.2 (by have := e100.mp h22; omega), rfl, rfl⟩ | exact Or.inr ⟨fun h => gin_gt (M := 4095) h13 (by decide) h.1, rfl, rfl⟩ | exact Or.inr ⟨fun h => gin_lt h6 (by decide) h.1, rfl, rfl⟩
    · iterate 4 refine r_step hk rfl rfl rfl ?_
      refine r_ne (fun h22 => ?_) (fun h22 => ?_)
      · iterate 5 refine r_step hk rfl rfl rfl ?_
        refine r_is hk (N) rfl rfl rfl hN (by have := mt e100.mpr h22; omega) rfl rfl ?_
        iterate 5 refine r_step hk rfl rfl rfl ?_
        refine r_putI hk rfl rfl rfl rfl ?_
        iterate 4 refine r_step hk rfl rfl rfl ?_
        refine r_iret hk rfl trivial ?_
        obtain ⟨j, hj, hx⟩ := gin_of' (M := 4095) h6 h13 (by decide)
        exact Or.inl ⟨j, hj, by have := mt e100.mpr h22; omega, hx, congrArg (fun z => some (Value.int z)) e2, by rw [← e1]; rfl⟩
      · refine r_step hk rfl rfl rfl ?_
        refine r_iret hk rfl trivial ?_
        first | exact Or.inr ⟨fun h => absurd h.2 (by have := e100.mp h22; omega), rfl, rfl⟩ | exact Or.inr ⟨fun h => gin_gt (M := 4095) h13 (by decide) h.1, rfl, rfl⟩ | exact Or.inr ⟨fun h => gin_lt h6 (by decide) h.1, rfl, rfl⟩
theorem nI_6 (i j : Nat) : 6 * nI i + nI j = nI (6 * i + j) := by
  rw [show (6 : Int32) = nI 6 from rfl, pk_mul, nI_add]
theorem m_way (hd : 1 ≤ d) (x1 x2 x3 : Int32) : gE d 147 [.ref 44, .int x1, .int x2, .int x3] (n, u, HP w a b r q y) (fun v S' =>
    (∃ i j k, i < 6 ∧ j < 6 ∧ i ≠ j ∧ k < 100 ∧ x1 = nI i ∧ x2 = nI j ∧ x3 = nI k ∧ v = some (.int 1) ∧ S' = (n, u, HP (gTh w) (upd2 (upd2 a 79 (6 * i + j) x3) 79 (6 * j + i) x3) b r q y))
    ∨ (¬ (gin x1 6 ∧ gin x2 6 ∧ x1 ≠ x2 ∧ gin x3 100) ∧ v = some (.int 0) ∧ S' = (n, u, HP (gTh w) a b r q y))) := by
  have hk : gMT[147]? = some gro_147 := rfl
  refine r_in hk [some (.ref 44), some (.int x1), some (.int x2), some (.int x3)] (Nat.le_of_ble_eq_true rfl) rfl ?_
  iterate 2 refine r_step hk rfl rfl rfl ?_
  refine r_putI hk rfl rfl rfl rfl ?_
  iterate 3 refine r_step hk rfl rfl rfl ?_
  refine r_callS hk [.int x1, .int 0, .int 5] [] rfl rfl rfl rfl rfl hd (m_within _ _ _ 5 (by decide)) ?_
  rintro _ _ ⟨⟨⟨i, hi, rfl⟩, rfl⟩ | ⟨hs, rfl⟩, rfl⟩
  · refine r_step hk rfl rfl rfl ?_
    refine r_eq (fun hq9 => absurd hq9 (by decide)) (fun _ => ?_)
    iterate 3 refine r_step hk rfl rfl rfl ?_
    refine r_callS hk [.int x2, .int 0, .int 5] [] rfl rfl rfl rfl rfl hd (m_within _ _ _ 5 (by decide)) ?_
    rintro _ _ ⟨⟨⟨j, hj, rfl⟩, rfl⟩ | ⟨hs, rfl⟩, rfl⟩
    · refine r_step hk rfl rfl rfl ?_
      refine r_eq (fun hq9 => absurd hq9 (by decide)) (fun _ => ?_)
      iterate 3 refine r_step hk rfl rfl rfl ?_
      refine r_eq (fun h25 => ?_) (fun h25 => ?_)
      · refine r_step hk rfl rfl rfl ?_
        refine r_iret hk rfl (Or.inl rfl) ?_
        first | exact Or.inr ⟨fun h => hs h.2.2.2, rfl, rfl⟩ | exact Or.inr ⟨fun h => h.2.2.1 h25, rfl, rfl⟩ | exact Or.inr ⟨fun h => hs h.2.1, rfl, rfl⟩ | exact Or.inr ⟨fun h => hs h.1, rfl, rfl⟩
      · iterate 3 refine r_step hk rfl rfl rfl ?_
        refine r_callS hk [.int x3, .int 0, .int 99] [] rfl rfl rfl rfl rfl hd (m_within _ _ _ 99 (by decide)) ?_
        rintro _ _ ⟨⟨⟨k, hk3, rfl⟩, rfl⟩ | ⟨hs, rfl⟩, rfl⟩
        · refine r_step hk rfl rfl rfl ?_
          refine r_ne (fun _ => ?_) (fun hq9 => absurd hq9 (by decide))
          iterate 8 refine r_step hk rfl rfl rfl ?_
          refine r_is hk (6 * i + j) rfl rfl rfl (nI_6 i j) (by omega) rfl rfl ?_
          iterate 8 refine r_step hk rfl rfl rfl ?_
          refine r_is hk (6 * j + i) rfl rfl rfl (nI_6 j i) (by omega) rfl rfl ?_
          refine r_step hk rfl rfl rfl ?_
          refine r_iret hk rfl (Or.inr rfl) ?_
          exact Or.inl ⟨i, j, k, hi, hj, fun e => h25 (by rw [e]), hk3, rfl, rfl, rfl, rfl, rfl⟩
        · refine r_step hk rfl rfl rfl ?_
          refine r_ne (fun hq9 => absurd (by decide) hq9) (fun _ => ?_)
          refine r_step hk rfl rfl rfl ?_
          refine r_iret hk rfl (Or.inl rfl) ?_
          first | exact Or.inr ⟨fun h => hs h.2.2.2, rfl, rfl⟩ | exact Or.inr ⟨fun h => h.2.2.1 h25, rfl, rfl⟩ | exact Or.inr ⟨fun h => hs h.2.1, rfl, rfl⟩ | exact Or.inr ⟨fun h => hs h.1, rfl, rfl⟩
    · refine r_step hk rfl rfl rfl ?_
      refine r_eq (fun _ => ?_) (fun hq9 => absurd (by decide) hq9)
      refine r_step hk rfl rfl rfl ?_
      refine r_iret hk rfl (Or.inl rfl) ?_
      first | exact Or.inr ⟨fun h => hs h.2.2.2, rfl, rfl⟩ | exact Or.inr ⟨fun h => h.2.2.1 h25, rfl, rfl⟩ | exact Or.inr ⟨fun h => hs h.2.1, rfl, rfl⟩ | exact Or.inr ⟨fun h => hs h.1, rfl, rfl⟩
  · refine r_step hk rfl rfl rfl ?_
    refine r_eq (fun _ => ?_) (fun hq9 => absurd (by decide) hq9)
    refine r_step hk rfl rfl rfl ?_
    refine r_iret hk rfl (Or.inl rfl) ?_
    first | exact Or.inr ⟨fun h => hs h.2.2.2, rfl, rfl⟩ | exact Or.inr ⟨fun h => h.2.2.1 h25, rfl, rfl⟩ | exact Or.inr ⟨fun h => hs h.2.1, rfl, rfl⟩ | exact Or.inr ⟨fun h => hs h.1, rfl, rfl⟩
theorem m_seasonNow {T : Nat} (hT : w 44 24 = nI T) (hT1 : T < 1000) : gE d 124 [.ref 44] (n, u, HP w a b r q y) (gre (nI (T / 13 % 4)) (n, u, HP w a b r q y)) := by
  have hk : gMT[124]? = some gro_124 := rfl
  refine r_in hk [some (.ref 44)] (Nat.le_of_ble_eq_true rfl) rfl ?_
  have e1 : w 44 24 / 13 = nI (T / 13) := by rw [hT]; exact pk_div (d := 13) (by omega) (by decide) (by decide)
  iterate 3 refine r_step hk rfl rfl rfl ?_
  refine r_div hk rfl (by decide) ?_
  refine r_step hk rfl rfl rfl ?_
  refine r_rem hk rfl (by decide) ?_
  refine r_iret hk rfl trivial ?_
  refine ⟨congrArg (fun z => some (Value.int z)) ?_, rfl⟩
  show w 44 24 / 13 - w 44 24 / 13 / 4 * 4 = _
  rw [e1]
  exact pk_rem (d := 4) (by omega) (by decide) (by decide)
/-- a price, as both write it -/
def gpr (base now since : Int32) : Int32 := if 1 ≤ base * (10 - 2 * (now - since)) / 10 then base * (10 - 2 * (now - since)) / 10 else 1
theorem m_priceOf {t k : Nat} (ht : t < 100) (hk8 : k < 8) (hkd : a 61 t = nI k) : gE d 136 [.ref 44, .int (nI t)] (n, u, HP w a b r q y) (gre (gpr (a 68 k) (w 44 24) (a 66 t)) (n, u, HP w a b r q y)) := by
  have hk : gMT[136]? = some gro_136 := rfl
  refine r_in hk [some (.ref 44), some (.int (nI t)), none] (Nat.le_of_ble_eq_true rfl) rfl ?_
  iterate 5 refine r_step hk rfl rfl rfl ?_
  refine r_ia hk (t) rfl rfl rfl ht rfl ?_
  refine r_ia hk (k) rfl rfl hkd hk8 rfl ?_
  iterate 7 refine r_step hk rfl rfl rfl ?_
  refine r_ia hk (t) rfl rfl rfl ht rfl ?_
  iterate 5 refine r_step hk rfl rfl rfl ?_
  refine r_div hk rfl (by decide) ?_
  iterate 4 refine r_step hk rfl rfl rfl ?_
  refine r_ge (fun h34 => ?_) (fun h34 => ?_)
  · refine r_step hk rfl rfl rfl ?_
    refine r_iret hk rfl trivial ?_
    refine ⟨congrArg (fun z => some (Value.int z)) ?_, rfl⟩
    unfold gpr
    first | exact (if_pos (by assumption)).symm | exact (if_neg (by assumption)).symm
  · iterate 2 refine r_step hk rfl rfl rfl ?_
    refine r_iret hk rfl trivial ?_
    refine ⟨congrArg (fun z => some (Value.int z)) ?_, rfl⟩
    unfold gpr
    first | exact (if_pos (by assumption)).symm | exact (if_neg (by assumption)).symm
theorem m_price (hd : 2 ≤ d) {N : Nat} (hN : w 44 25 = nI N) (hN1 : N ≤ 100) (hkd : ∀ t, t < N → gin (a 61 t) 8) (x : Int32) : gE d 134 [.ref 44, .int x] (n, u, HP w a b r q y) (fun v S' => S' = (n, u, HP (gTh w) a b r q y) ∧
    ((∃ t k, t < N ∧ k < 8 ∧ x = nI t ∧ a 64 t = 1 ∧ a 61 t = nI k ∧ v = some (.int (gpr (a 68 k) (w 44 24) (a 66 t)))) ∨ ((¬ ∃ t, t < N ∧ x = nI t ∧ a 64 t = 1) ∧ v = some (.int (-1))))) := by
  have hk : gMT[134]? = some gro_134 := rfl
  refine r_in hk [some (.ref 44), some (.int x)] (Nat.le_of_ble_eq_true rfl) rfl ?_
  iterate 2 refine r_step hk rfl rfl rfl ?_
  refine r_putI hk rfl rfl rfl rfl ?_
  iterate 2 refine r_step hk rfl rfl rfl ?_
  refine r_callV hk [.ref 44, .int x] [] rfl rfl rfl rfl rfl rfl rfl (by omega) (m_isOn (w := gTh w) (by omega) hN hN1 x) ?_
  rintro _ _ ⟨⟨⟨t, ht, rfl, hon⟩, rfl⟩ | ⟨hs, rfl⟩, rfl⟩
  · obtain ⟨k, hk8, hk1⟩ := hkd t ht
    refine r_step hk rfl rfl rfl ?_
    refine r_eq (fun hq9 => absurd hq9 (by decide)) (fun _ => ?_)
    iterate 2 refine r_step hk rfl rfl rfl ?_
    refine r_callV hk [.ref 44, .int (nI t)] [] rfl rfl rfl rfl rfl rfl rfl (by omega) (m_priceOf (by omega) hk8 hk1) ?_
    rintro _ _ ⟨rfl, rfl⟩
    refine r_step hk rfl rfl rfl ?_
    refine r_iret hk rfl trivial ?_
    first | exact ⟨rfl, Or.inl ⟨t, k, ht, hk8, rfl, hon, hk1, rfl⟩⟩ | exact ⟨rfl, Or.inr ⟨hs, rfl⟩⟩
  · refine r_step hk rfl rfl rfl ?_
    refine r_eq (fun _ => ?_) (fun hq9 => absurd (by decide) hq9)
    refine r_step hk rfl rfl rfl ?_
    refine r_iret hk rfl trivial ?_
    first | exact ⟨rfl, Or.inl ⟨t, k, ht, hk8, rfl, hon, hk1, rfl⟩⟩ | exact ⟨rfl, Or.inr ⟨hs, rfl⟩⟩
theorem m_lose (hd : 2 ≤ d) {N : Nat} (hN : w 44 25 = nI N) (hN1 : N ≤ 100) (x : Int32) : gE d 139 [.ref 44, .int x] (n, u, HP w a b r q y) (fun v S' =>
    (∃ t, t < N ∧ x = nI t ∧ a 64 t = 1 ∧ v = some (.int 1) ∧ S' = (n, u, HP (gTh w) (upd2 a 64 t 6) b r q y)) ∨ ((¬ ∃ t, t < N ∧ x = nI t ∧ a 64 t = 1) ∧ v = some (.int 0) ∧ S' = (n, u, HP (gTh w) a b r q y))) := by
  have hk : gMT[139]? = some gro_139 := rfl
  refine r_in hk [some (.ref 44), some (.int x)] (Nat.le_of_ble_eq_true rfl) rfl ?_
  iterate 2 refine r_step hk rfl rfl rfl ?_
  refine r_putI hk rfl rfl rfl rfl ?_
  iterate 2 refine r_step hk rfl rfl rfl ?_
  refine r_callV hk [.ref 44, .int x] [] rfl rfl rfl rfl rfl rfl rfl (by omega) (m_isOn (w := gTh w) (by omega) hN hN1 x) ?_
  rintro _ _ ⟨⟨⟨t, ht, rfl, hon⟩, rfl⟩ | ⟨hs, rfl⟩, rfl⟩
  · refine r_step hk rfl rfl rfl ?_
    refine r_ne (fun _ => ?_) (fun hq9 => absurd hq9 (by decide))
    iterate 4 refine r_step hk rfl rfl rfl ?_
    refine r_is hk (t) rfl rfl rfl rfl (by omega) rfl rfl ?_
    refine r_step hk rfl rfl rfl ?_
    refine r_iret hk rfl (Or.inr rfl) ?_
    first | exact Or.inl ⟨t, ht, rfl, hon, rfl, rfl⟩ | exact Or.inr ⟨hs, rfl, rfl⟩
  · refine r_step hk rfl rfl rfl ?_
    refine r_ne (fun hq9 => absurd (by decide) hq9) (fun _ => ?_)
    refine r_step hk rfl rfl rfl ?_
    refine r_iret hk rfl (Or.inl rfl) ?_
    first | exact Or.inl ⟨t, ht, rfl, hon, rfl, rfl⟩ | exact Or.inr ⟨hs, rfl, rfl⟩
theorem m_comesOn {t : Nat} (ht : t < 100) (x : Int32) : gE d 128 [.ref 44, .int (nI t), .int x] (n, u, HP w a b r q y) (fun v S' => v = none ∧ S' = (n, u, HP w (upd2 (upd2 (upd2 a 64 t 1) 65 t x) 66 t (w 44 24)) b r q y)) := by
  have hk : gMT[128]? = some gro_128 := rfl
  refine r_in hk [some (.ref 44), some (.int (nI t)), some (.int x)] (Nat.le_of_ble_eq_true rfl) rfl ?_
  iterate 4 refine r_step hk rfl rfl rfl ?_
  refine r_is hk (t) rfl rfl rfl rfl ht rfl rfl ?_
  iterate 4 refine r_step hk rfl rfl rfl ?_
  refine r_is hk (t) rfl rfl rfl rfl ht rfl rfl ?_
  iterate 5 refine r_step hk rfl rfl rfl ?_
  refine r_is hk (t) rfl rfl rfl rfl ht rfl rfl ?_
  refine r_ret hk rfl rfl ?_
  exact ⟨rfl, rfl⟩
theorem m_sell (hd : 2 ≤ d) {N M : Nat} (hN : w 44 25 = nI N) (hN1 : N ≤ 100) (hM : w 44 41 = nI M) (hM1 : M ≤ 200) (hkd : ∀ t, t < N → gin (a 61 t) 8) (x : Int32) : gE d 137 [.ref 44, .int x] (n, u, HP w a b r q y) (fun v S' =>
    (∃ t k, t < N ∧ k < 8 ∧ x = nI t ∧ a 64 t = 1 ∧ a 61 t = nI k ∧ M < 200 ∧ v = some (.int (nI M)) ∧ S' = (n, u, HP (upd2 (gTh w) 44 41 (nI (M + 1))) (upd2 (upd2 (upd2 (upd2 (upd2 a 74 M x) 75 M (gpr (a 68 k) (w 44 24) (a 66 t))) 76 M (a 65 t)) 77 M (w 44 24)) 64 t 5) b r q y))
    ∨ (¬ ((∃ t, t < N ∧ x = nI t ∧ a 64 t = 1) ∧ M < 200) ∧ v = some (.int (-1)) ∧ S' = (n, u, HP (gTh w) a b r q y))) := by
  have hk : gMT[137]? = some gro_137 := rfl
  refine r_in hk [some (.ref 44), some (.int x)] (Nat.le_of_ble_eq_true rfl) rfl ?_
  have e100 : w 44 41 = 200 ↔ M = 200 := by rw [hM]; exact nI_eq (a := M) (b := 200) (by omega) (by omega)
  have e1 : w 44 41 + 1 = nI (M + 1) := by rw [hM]; exact nI_1 M
  have e2 : w 44 41 + 1 - 1 = nI M := by rw [e1]; exact nI_pred M
  iterate 2 refine r_step hk rfl rfl rfl ?_
  refine r_putI hk rfl rfl rfl rfl ?_
  iterate 2 refine r_step hk rfl rfl rfl ?_
  refine r_callV hk [.ref 44, .int x] [] rfl rfl rfl rfl rfl rfl rfl (by omega) (m_isOn (w := gTh w) (by omega) hN hN1 x) ?_
  rintro _ _ ⟨⟨⟨t, ht, rfl, hon⟩, rfl⟩ | ⟨hs, rfl⟩, rfl⟩
  · obtain ⟨k, hk8, hk1⟩ := hkd t ht
    refine r_step hk rfl rfl rfl ?_
    refine r_eq (fun hq9 => absurd hq9 (by decide)) (fun _ => ?_)
    iterate 4 refine r_step hk rfl rfl rfl ?_
    refine r_ne (fun h20 => ?_) (fun h20 => ?_)
    · iterate 5 refine r_step hk rfl rfl rfl ?_
      refine r_is hk (M) rfl rfl rfl hM (by have := mt e100.mpr h20; omega) rfl rfl ?_
      iterate 6 refine r_step hk rfl rfl rfl ?_
      refine r_callV hk [.ref 44, .int (nI t)] [.int (w 44 41), .ref 75] rfl rfl rfl rfl rfl rfl rfl (by omega) (m_priceOf (by omega) hk8 hk1) ?_
      rintro _ _ ⟨rfl, rfl⟩
      refine r_is hk (M) rfl rfl rfl hM (by have := mt e100.mpr h20; omega) rfl rfl ?_
      iterate 7 refine r_step hk rfl rfl rfl ?_
      refine r_ia hk (t) rfl rfl rfl (by omega) rfl ?_
      refine r_is hk (M) rfl rfl rfl hM (by have := mt e100.mpr h20; omega) rfl rfl ?_
      iterate 6 refine r_step hk rfl rfl rfl ?_
      refine r_is hk (M) rfl rfl rfl hM (by have := mt e100.mpr h20; omega) rfl rfl ?_
      iterate 4 refine r_step hk rfl rfl rfl ?_
      refine r_is hk (t) rfl rfl rfl rfl (by omega) rfl rfl ?_
      iterate 5 refine r_step hk rfl rfl rfl ?_
      refine r_putI hk rfl rfl rfl rfl ?_
      iterate 4 refine r_step hk rfl rfl rfl ?_
      refine r_iret hk rfl trivial ?_
      exact Or.inl ⟨t, k, ht, hk8, rfl, hon, hk1, by have := mt e100.mpr h20; omega, congrArg (fun z => some (Value.int z)) e2, by rw [← e1]; rfl⟩
    · refine r_step hk rfl rfl rfl ?_
      refine r_iret hk rfl trivial ?_
      first | exact Or.inr ⟨fun h => absurd h.2 (by have := e100.mp h20; omega), rfl, rfl⟩ | exact Or.inr ⟨fun h => hs h.1, rfl, rfl⟩
  · refine r_step hk rfl rfl rfl ?_
    refine r_eq (fun _ => ?_) (fun hq9 => absurd (by decide) hq9)
    refine r_step hk rfl rfl rfl ?_
    refine r_iret hk rfl trivial ?_
    first | exact Or.inr ⟨fun h => absurd h.2 (by have := e100.mp h20; omega), rfl, rfl⟩ | exact Or.inr ⟨fun h => hs h.1, rfl, rfl⟩
theorem m_undo17 (hk : gMT[138]? = some gro_138) {N M j t : Nat} (hj : j < M) (ht : t < N) (ht1 : a 74 j = nI t) (hM1 : M ≤ 200) (hN1 : N ≤ 100) : gX d 138 17 [some (.ref 44), some (.int (nI j))] [] (n, u, HP (gTh w) a b r q y) (fun v S' =>
    (∃ j' t, j' < M ∧ t < N ∧ nI j = nI j' ∧ a 74 j' = nI t ∧ a 78 j' = 0 ∧ v = some (.int 1) ∧ S' = (n, u, HP (gTh w) (upd2 (upd2 a 78 j' 1) 64 t 1) b r q y))
    ∨ ((¬ ∃ j', j' < M ∧ nI j = nI j' ∧ a 78 j' = 0) ∧ v = some (.int 0) ∧ S' = (n, u, HP (gTh w) a b r q y))) := by
  iterate 3 refine r_step hk rfl rfl rfl ?_
  refine r_za hk (j) rfl rfl rfl (by omega) rfl ?_
  refine r_step hk rfl rfl rfl ?_
  refine r_eq (fun h23 => ?_) (fun h23 => ?_)
  · iterate 4 refine r_step hk rfl rfl rfl ?_
    refine r_zs hk (j) rfl rfl rfl rfl (by omega) rfl rfl (Or.inr rfl) ?_
    iterate 5 refine r_step hk rfl rfl rfl ?_
    refine r_ia hk (j) rfl rfl rfl (by omega) rfl ?_
    refine r_step hk rfl rfl rfl ?_
    refine r_is hk (t) rfl rfl rfl ht1 (by omega) rfl rfl ?_
    refine r_step hk rfl rfl rfl ?_
    refine r_iret hk rfl (Or.inr rfl) ?_
    first | exact Or.inl ⟨j, t, hj, ht, rfl, ht1, h23, rfl, rfl⟩ | exact Or.inr ⟨fun ⟨j2, hj2, e, h0⟩ => h23 (by rw [nI_inj e (by omega) (by omega)]; exact h0), rfl, rfl⟩
  · refine r_step hk rfl rfl rfl ?_
    refine r_iret hk rfl (Or.inl rfl) ?_
    first | exact Or.inl ⟨j, t, hj, ht, rfl, ht1, h23, rfl, rfl⟩ | exact Or.inr ⟨fun ⟨j2, hj2, e, h0⟩ => h23 (by rw [nI_inj e (by omega) (by omega)]; exact h0), rfl, rfl⟩
theorem m_undo {N M : Nat} (hN1 : N ≤ 100) (hM : w 44 41 = nI M) (hM1 : M ≤ 200) (hst : ∀ j, j < M → gin (a 74 j) N) (x : Int32) : gE d 138 [.ref 44, .int x] (n, u, HP w a b r q y) (fun v S' =>
    (∃ j t, j < M ∧ t < N ∧ x = nI j ∧ a 74 j = nI t ∧ a 78 j = 0 ∧ v = some (.int 1) ∧ S' = (n, u, HP (gTh w) (upd2 (upd2 a 78 j 1) 64 t 1) b r q y))
    ∨ ((¬ ∃ j, j < M ∧ x = nI j ∧ a 78 j = 0) ∧ v = some (.int 0) ∧ S' = (n, u, HP (gTh w) a b r q y))) := by
  have hk : gMT[138]? = some gro_138 := rfl
  refine r_in hk [some (.ref 44), some (.int x)] (Nat.le_of_ble_eq_true rfl) rfl ?_
  iterate 2 refine r_step hk rfl rfl rfl ?_
  refine r_putI hk rfl rfl rfl rfl ?_
  iterate 2 refine r_step hk rfl rfl rfl ?_
  refine r_lt (fun h6 => ?_) (fun h6 => ?_)
  · refine r_step hk rfl rfl rfl ?_
    refine r_iret hk rfl (Or.inl rfl) ?_
    first | exact Or.inr ⟨fun ⟨j, hj, e, _⟩ => gin_ge (N := M) (by rw [← hM]; exact h14) (by omega) ⟨j, hj, e⟩, rfl, rfl⟩ | exact Or.inr ⟨fun ⟨j, hj, e, _⟩ => gin_lt h6 (by omega) ⟨j, hj, e⟩, rfl, rfl⟩
  · iterate 4 refine r_step hk rfl rfl rfl ?_
    refine r_ge (fun h14 => ?_) (fun h14 => ?_)
    · refine r_step hk rfl rfl rfl ?_
      refine r_iret hk rfl (Or.inl rfl) ?_
      first | exact Or.inr ⟨fun ⟨j, hj, e, _⟩ => gin_ge (N := M) (by rw [← hM]; exact h14) (by omega) ⟨j, hj, e⟩, rfl, rfl⟩ | exact Or.inr ⟨fun ⟨j, hj, e, _⟩ => gin_lt h6 (by omega) ⟨j, hj, e⟩, rfl, rfl⟩
    · obtain ⟨j, hj, rfl⟩ := gin_of (N := M) h6 (by rw [← hM]; exact h14) (by omega)
      obtain ⟨t, ht, ht1⟩ := hst j hj
      exact m_undo17 hk hj ht ht1 hM1 hN1
end GM2
end
section
/-! ===== the reference: counts ===== -/
theorem gcnt_t {p : Nat → Prop} [DecidablePred p] {t : Nat} {x : Int32} (hx : x = nI (gcnt p t)) (h : p t) : x + 1 = nI (gcnt p (t + 1)) := by
  simp only [gcnt, if_pos h]
  rw [hx]; exact nI_1 _
theorem gcnt_f {p : Nat → Prop} [DecidablePred p] {t : Nat} {x : Int32} (hx : x = nI (gcnt p t)) (h : ¬ p t) : x + 0 = nI (gcnt p (t + 1)) := by
  simp only [gcnt, if_neg h, Nat.add_zero]
  rw [hx]; exact Int32.add_zero _
theorem nI_s {t : Nat} {z : Int32} (hz : z = nI t) : z + 1 = nI (t + 1) := by rw [hz]; exact nI_1 t
/-- a sum of what is chosen -/
def gsum (p : Nat → Prop) [DecidablePred p] (f : Nat → Int32) : Nat → Int32
  | 0 => 0
  | n + 1 => gsum p f n + (if p n then f n else 0)
section GM3
variable {w a : Nat → Nat → Int32} {b : Nat → Nat → Int64} {r : Nat → Nat → Nat} {q : Nat → Nat → Option Nat} {y : gH} {n u : Nat} {d : Nat}
abbrev gOn (a : Nat → Nat → Int32) (st s : Int32) : Nat → Prop := fun t => a 64 t = st ∧ a 65 t = s
theorem m_onShelf {N : Nat} (hN : w 44 25 = nI N) (hN1 : N ≤ 100) (s : Int32) : gE d 127 [.ref 44, .int s] (n, u, HP w a b r q y) (gre (nI (gcnt (gOn a 1 s) N)) (n, u, HP w a b r q y)) := by
  have hk : gMT[127]? = some gro_127 := rfl
  refine r_in hk [some (.ref 44), some (.int s), none, none] (Nat.le_of_ble_eq_true rfl) rfl ?_
  have loop : ∀ t, t ≤ N → ∀ x z : Int32, x = nI (gcnt (gOn a 1 s) t) → z = nI t → gX d 127 4 [some (.ref 44), some (.int s), some (.int x), some (.int z)] [] (n, u, HP w a b r q y) (gre (nI (gcnt (gOn a 1 s) N)) (n, u, HP w a b r q y)) := by
    refine g_down ?_ ?_
    · intro x z hx hz
      iterate 4 refine r_step hk rfl rfl rfl ?_
      refine r_ge (fun _ => ?_) (fun h => absurd (show w 44 25 ≤ z by rw [hz, hN]; exact nI_le (Nat.le_refl _) (by omega)) h)
      refine r_step hk rfl rfl rfl ?_
      refine r_iret hk rfl trivial ?_
      exact ⟨congrArg (fun z => some (Value.int z)) hx, rfl⟩
    · intro t ht ih x z hx hz
      iterate 4 refine r_step hk rfl rfl rfl ?_
      refine r_ge (fun h => absurd h (show ¬ w 44 25 ≤ z by rw [hz, hN]; exact nI_ge ht (by omega))) (fun _ => ?_)
      iterate 4 refine r_step hk rfl rfl rfl ?_
      refine r_ia hk (t) rfl rfl hz (by omega) rfl ?_
      iterate 2 refine r_step hk rfl rfl rfl ?_
      refine r_ne (fun h20 => ?_) (fun h20 => ?_)
      · iterate 5 refine r_step hk rfl rfl rfl ?_
        exact ih _ _ (by first | exact gcnt_t hx ⟨h20, h30⟩ | exact gcnt_f hx (fun h => h30 h.2) | exact gcnt_f hx (fun h => h20 h.1)) (nI_s hz)
      · iterate 3 refine r_step hk rfl rfl rfl ?_
        refine r_ia hk (t) rfl rfl hz (by omega) rfl ?_
        iterate 2 refine r_step hk rfl rfl rfl ?_
        refine r_ne (fun h30 => ?_) (fun h30 => ?_)
        · iterate 5 refine r_step hk rfl rfl rfl ?_
          exact ih _ _ (by first | exact gcnt_t hx ⟨h20, h30⟩ | exact gcnt_f hx (fun h => h30 h.2) | exact gcnt_f hx (fun h => h20 h.1)) (nI_s hz)
        · iterate 6 refine r_step hk rfl rfl rfl ?_
          exact ih _ _ (by first | exact gcnt_t hx ⟨h20, h30⟩ | exact gcnt_f hx (fun h => h30 h.2) | exact gcnt_f hx (fun h => h20 h.1)) (nI_s hz)
  iterate 4 refine r_step hk rfl rfl rfl ?_
  exact loop 0 (Nat.zero_le _) _ _ rfl rfl
theorem m_hasRoom (hd : 1 ≤ d) {N : Nat} (hN : w 44 25 = nI N) (hN1 : N ≤ 100) {s : Nat} (hs : s < 5) : gE d 126 [.ref 44, .int (nI s)] (n, u, HP w a b r q y) (gbo (nI (gcnt (gOn a 1 (nI s)) N) < a 69 s) (n, u, HP w a b r q y)) := by
  have hk : gMT[126]? = some gro_126 := rfl
  refine r_in hk [some (.ref 44), some (.int (nI s))] (Nat.le_of_ble_eq_true rfl) rfl ?_
  iterate 2 refine r_step hk rfl rfl rfl ?_
  refine r_callV hk [.ref 44, .int (nI s)] [] rfl rfl rfl rfl rfl rfl rfl hd (m_onShelf hN hN1 _) ?_
  rintro _ _ ⟨rfl, rfl⟩
  iterate 3 refine r_step hk rfl rfl rfl ?_
  refine r_ia hk (s) rfl rfl rfl hs rfl ?_
  refine r_step hk rfl rfl rfl ?_
  refine r_ge (fun h11 => ?_) (fun h11 => ?_)
  · refine r_step hk rfl rfl rfl ?_
    refine r_iret hk rfl (Or.inl rfl) ?_
    first | exact gbo_t (Int32.not_le.mp h11) | exact gbo_f (Int32.not_lt.mpr h11)
  · iterate 2 refine r_step hk rfl rfl rfl ?_
    refine r_iret hk rfl (Or.inr rfl) ?_
    first | exact gbo_t (Int32.not_le.mp h11) | exact gbo_f (Int32.not_lt.mpr h11)
theorem m_firstWithRoom (hd : 2 ≤ d) {N : Nat} (hN : w 44 25 = nI N) (hN1 : N ≤ 100) : gE d 133 [.ref 44] (n, u, HP w a b r q y) (fun v S' => S' = (n, u, HP w a b r q y) ∧
    ((∃ s, s < 5 ∧ v = some (.int (nI s)) ∧ nI (gcnt (gOn a 1 (nI s)) N) < a 69 s ∧ ∀ s', s' < s → ¬ nI (gcnt (gOn a 1 (nI s')) N) < a 69 s') ∨ ((∀ s', s' < 5 → ¬ nI (gcnt (gOn a 1 (nI s')) N) < a 69 s') ∧ v = some (.int 0)))) := by
  have hk : gMT[133]? = some gro_133 := rfl
  refine r_in hk [some (.ref 44), none] (Nat.le_of_ble_eq_true rfl) rfl ?_
  have loop : ∀ s, s ≤ 5 → ∀ z : Int32, z = nI s → (∀ s', s' < s → ¬ nI (gcnt (gOn a 1 (nI s')) N) < a 69 s') → gX d 133 2 [some (.ref 44), some (.int z)] [] (n, u, HP w a b r q y) (fun v S' => S' = (n, u, HP w a b r q y) ∧
    ((∃ s, s < 5 ∧ v = some (.int (nI s)) ∧ nI (gcnt (gOn a 1 (nI s)) N) < a 69 s ∧ ∀ s', s' < s → ¬ nI (gcnt (gOn a 1 (nI s')) N) < a 69 s') ∨ ((∀ s', s' < 5 → ¬ nI (gcnt (gOn a 1 (nI s')) N) < a 69 s') ∧ v = some (.int 0)))) := by
    refine g_down ?_ ?_
    · intro z hz hall
      iterate 3 refine r_step hk rfl rfl rfl ?_
      refine r_ge (fun _ => ?_) (fun h => absurd (show (5 : Int32) ≤ z by rw [hz]; decide) h)
      refine r_step hk rfl rfl rfl ?_
      refine r_iret hk rfl trivial ?_
      exact ⟨rfl, Or.inr ⟨hall, rfl⟩⟩
    · intro s hs ih z hz hall
      subst hz
      iterate 3 refine r_step hk rfl rfl rfl ?_
      refine r_ge (fun h => absurd h (show ¬ (5 : Int32) ≤ nI s by exact nI_ge (b := 5) hs (by decide))) (fun _ => ?_)
      iterate 2 refine r_step hk rfl rfl rfl ?_
      refine r_callV hk [.ref 44, .int (nI s)] [] rfl rfl rfl rfl rfl rfl rfl (by omega) (m_hasRoom (by omega) hN hN1 hs) ?_
      rintro _ _ ⟨⟨hr, rfl⟩ | ⟨hr, rfl⟩, rfl⟩
      · refine r_step hk rfl rfl rfl ?_
        refine r_eq (fun h => absurd h (by decide)) (fun _ => ?_)
        refine r_step hk rfl rfl rfl ?_
        refine r_iret hk rfl trivial ?_
        exact ⟨rfl, Or.inl ⟨s, hs, rfl, hr, hall⟩⟩
      · refine r_step hk rfl rfl rfl ?_
        refine r_eq (fun _ => ?_) (fun h => absurd (by decide) h)
        iterate 2 refine r_step hk rfl rfl rfl ?_
        exact ih _ (nI_1 s) (fun s' h' => if e : s' = s then by rw [e]; exact hr else hall s' (by omega))
  iterate 2 refine r_step hk rfl rfl rfl ?_
  exact loop 0 (by omega) _ rfl (fun _ h => absurd h (by omega))
theorem m_thefts (hd : 1 ≤ d) {N : Nat} (hN : w 44 25 = nI N) (hN1 : N ≤ 100) (s le : Int32) : gE d 140 [.ref 44, .int s, .int le] (n, u, HP w a b r q y) (fun v S' => S' = (n, u, HP (gTh w) a b r q y) ∧
    ((gin s 5 ∧ gin le 101 ∧ v = some (.int (if le < nI (gcnt (gOn a 6 s) N) then nI (gcnt (gOn a 6 s) N) - le else 0))) ∨ (¬ (gin s 5 ∧ gin le 101) ∧ v = some (.int (-1))))) := by
  have hk : gMT[140]? = some gro_140 := rfl
  refine r_in hk [some (.ref 44), some (.int s), some (.int le), none, none] (Nat.le_of_ble_eq_true rfl) rfl ?_
  have loop : gin s 5 → gin le 101 → ∀ t, t ≤ N → ∀ x z : Int32, x = nI (gcnt (gOn a 6 s) t) → z = nI t → gX d 140 29 [some (.ref 44), some (.int s), some (.int le), some (.int x), some (.int z)] [] (n, u, HP (gTh w) a b r q y) (fun v S' => S' = (n, u, HP (gTh w) a b r q y) ∧
    ((gin s 5 ∧ gin le 101 ∧ v = some (.int (if le < nI (gcnt (gOn a 6 s) N) then nI (gcnt (gOn a 6 s) N) - le else 0))) ∨ (¬ (gin s 5 ∧ gin le 101) ∧ v = some (.int (-1))))) := by
    intro hs hle
    refine g_down ?_ ?_
    · intro x z hx hz
      subst hx
      iterate 4 refine r_step hk rfl rfl rfl ?_
      refine r_ge (fun _ => ?_) (fun h => absurd (show w 44 25 ≤ z by rw [hz, hN]; exact nI_le (Nat.le_refl _) (by omega)) h)
      iterate 3 refine r_step hk rfl rfl rfl ?_
      refine r_le (fun h77 => ?_) (fun h77 => ?_)
      · refine r_step hk rfl rfl rfl ?_
        refine r_iret hk rfl trivial ?_
        first | exact ⟨rfl, Or.inl ⟨hs, hle, by rw [if_pos (Int32.not_le.mp h77)]⟩⟩ | exact ⟨rfl, Or.inl ⟨hs, hle, by rw [if_neg (Int32.not_lt.mpr h77)]⟩⟩
      · iterate 4 refine r_step hk rfl rfl rfl ?_
        refine r_iret hk rfl trivial ?_
        first | exact ⟨rfl, Or.inl ⟨hs, hle, by rw [if_pos (Int32.not_le.mp h77)]⟩⟩ | exact ⟨rfl, Or.inl ⟨hs, hle, by rw [if_neg (Int32.not_lt.mpr h77)]⟩⟩
    · intro t ht ih x z hx hz
      iterate 4 refine r_step hk rfl rfl rfl ?_
      refine r_ge (fun h => absurd h (show ¬ w 44 25 ≤ z by rw [hz, hN]; exact nI_ge ht (by omega))) (fun _ => ?_)
      iterate 4 refine r_step hk rfl rfl rfl ?_
      refine r_ia hk (t) rfl rfl hz (by omega) rfl ?_
      iterate 2 refine r_step hk rfl rfl rfl ?_
      refine r_ne (fun h48 => ?_) (fun h48 => ?_)
      · iterate 5 refine r_step hk rfl rfl rfl ?_
        exact ih _ _ (by first | exact gcnt_t hx ⟨h48, h59⟩ | exact gcnt_f hx (fun h => h59 h.2) | exact gcnt_f hx (fun h => h48 h.1)) (nI_s hz)
      · iterate 3 refine r_step hk rfl rfl rfl ?_
        refine r_ia hk (t) rfl rfl hz (by omega) rfl ?_
        iterate 2 refine r_step hk rfl rfl rfl ?_
        refine r_ne (fun h59 => ?_) (fun h59 => ?_)
        · iterate 5 refine r_step hk rfl rfl rfl ?_
          exact ih _ _ (by first | exact gcnt_t hx ⟨h48, h59⟩ | exact gcnt_f hx (fun h => h59 h.2) | exact gcnt_f hx (fun h => h48 h.1)) (nI_s hz)
        · iterate 6 refine r_step hk rfl rfl rfl ?_
          exact ih _ _ (by first | exact gcnt_t hx ⟨h48, h59⟩ | exact gcnt_f hx (fun h => h59 h.2) | exact gcnt_f hx (fun h => h48 h.1)) (nI_s hz)
  iterate 2 refine r_step hk rfl rfl rfl ?_
  refine r_putI hk rfl rfl rfl rfl ?_
  refine r_step hk rfl rfl rfl ?_
  refine r_callS hk [.int s] [] rfl rfl rfl rfl rfl hd (m_isShop _ _ _) ?_
  rintro _ _ ⟨⟨hs, rfl⟩ | ⟨hs, rfl⟩, rfl⟩
  · refine r_step hk rfl rfl rfl ?_
    refine r_eq (fun h => absurd h (by decide)) (fun _ => ?_)
    iterate 3 refine r_step hk rfl rfl rfl ?_
    refine r_callS hk [.int le, .int 0, .int 100] [] rfl rfl rfl rfl rfl hd (m_within _ _ _ 100 (by decide)) ?_
    rintro _ _ ⟨⟨hl, rfl⟩ | ⟨hl, rfl⟩, rfl⟩
    · refine r_step hk rfl rfl rfl ?_
      refine r_ne (fun _ => ?_) (fun h => absurd h (by decide))
      iterate 4 refine r_step hk rfl rfl rfl ?_
      exact loop hs hl 0 (Nat.zero_le _) _ _ rfl rfl
    · refine r_step hk rfl rfl rfl ?_
      refine r_ne (fun h => absurd (by decide) h) (fun _ => ?_)
      refine r_step hk rfl rfl rfl ?_
      refine r_iret hk rfl trivial ?_
      first | exact ⟨rfl, Or.inr ⟨fun h => hl h.2, rfl⟩⟩ | exact ⟨rfl, Or.inr ⟨fun h => hs h.1, rfl⟩⟩
  · refine r_step hk rfl rfl rfl ?_
    refine r_eq (fun _ => ?_) (fun h => absurd (by decide) h)
    refine r_step hk rfl rfl rfl ?_
    refine r_iret hk rfl trivial ?_
    first | exact ⟨rfl, Or.inr ⟨fun h => hl h.2, rfl⟩⟩ | exact ⟨rfl, Or.inr ⟨fun h => hs h.1, rfl⟩⟩
/-- the sales that hold, of a kind in a shop -/
abbrev gSo (a : Nat → Nat → Int32) (k s : Int32) : Nat → Prop := fun j => a 78 j = 0 ∧ a 76 j = s ∧ a 61 (a 74 j).toNatClampNeg = k
theorem nI_8 (s k : Nat) : 8 * nI s + nI k = nI (8 * s + k) := by
  rw [show (8 : Int32) = nI 8 from rfl, pk_mul, nI_add]
theorem m_weighs {N M : Nat} (hN1 : N ≤ 100) (hM : w 44 41 = nI M) (hM1 : M ≤ 200) (hst : ∀ j, j < M → gin (a 74 j) N) {k s : Nat} (hk8 : k < 8) (hs5 : s < 5) {la : Nat} (hla : a 70 (8 * s + k) = nI la) (hla1 : la < 100000) (p : Int32) : gE d 142 [.ref 44, .int p, .int (nI k), .int (nI s)] (n, u, HP w a b r q y) (gre ((p.toInt64 * (nI (gcnt (gSo a (nI k) (nI s)) M) + 1).toInt64 / (nI (gcnt (gSo a (nI k) (nI s)) M) + nI la + 2).toInt64).toInt32) (n, u, HP w a b r q y)) := by
  have hk : gMT[142]? = some gro_142 := rfl
  refine r_in hk [some (.ref 44), some (.int p), some (.int (nI k)), some (.int (nI s)), none, none] (Nat.le_of_ble_eq_true rfl) rfl ?_
  have hg := gcnt_le (gSo a (nI k) (nI s)) M
  have loop : ∀ t, t ≤ M → ∀ x z : Int32, x = nI (gcnt (gSo a (nI k) (nI s)) t) → z = nI t → gX d 142 6 [some (.ref 44), some (.int p), some (.int (nI k)), some (.int (nI s)), some (.int x), some (.int z)] [] (n, u, HP w a b r q y) (gre ((p.toInt64 * (nI (gcnt (gSo a (nI k) (nI s)) M) + 1).toInt64 / (nI (gcnt (gSo a (nI k) (nI s)) M) + nI la + 2).toInt64).toInt32) (n, u, HP w a b r q y)) := by
    refine g_down ?_ ?_
    · intro x z hx hz
      subst hx
      have hne : ¬ (nI (gcnt (gSo a (nI k) (nI s)) M) + a 70 (8 * s + k) + 2).toInt64 = 0 := by
        rw [hla, nI_add, show (2 : Int32) = nI 2 from rfl, nI_add, nI_l (by omega)]
        intro h
        have := (lN_eq (a := gcnt (gSo a (nI k) (nI s)) M + la + 2) (b := 0) (by omega) (by omega)).mp h
        omega
      iterate 4 refine r_step hk rfl rfl rfl ?_
      refine r_ge (fun _ => ?_) (fun h => absurd (show w 44 41 ≤ z by rw [hz, hM]; exact nI_le (Nat.le_refl _) (by omega)) h)
      iterate 15 refine r_step hk rfl rfl rfl ?_
      refine r_ia hk (8 * s + k) rfl rfl (nI_8 s k) (by omega) rfl ?_
      iterate 4 refine r_step hk rfl rfl rfl ?_
      refine r_ldiv hk rfl hne ?_
      refine r_step hk rfl rfl rfl ?_
      refine r_iret hk rfl trivial ?_
      exact ⟨by rw [hla], rfl⟩
    · intro t ht ih x z hx hz
      obtain ⟨t2, ht2, e2⟩ := hst t ht
      have e3 : (a 74 t).toNatClampNeg = t2 := by rw [e2]; exact nI_clamp (by omega)
      iterate 4 refine r_step hk rfl rfl rfl ?_
      refine r_ge (fun h => absurd h (show ¬ w 44 41 ≤ z by rw [hz, hM]; exact nI_ge ht (by omega))) (fun _ => ?_)
      iterate 4 refine r_step hk rfl rfl rfl ?_
      refine r_za hk (t) rfl rfl hz (by omega) rfl ?_
      refine r_step hk rfl rfl rfl ?_
      refine r_ne (fun h24 => ?_) (fun h24 => ?_)
      · iterate 5 refine r_step hk rfl rfl rfl ?_
        exact ih _ _ (by first | exact gcnt_t hx ⟨h24, h35, by rw [e3]; exact h51⟩ | exact gcnt_f hx (fun h => h51 (by rw [← e3]; exact h.2.2)) | exact gcnt_f hx (fun h => h35 h.2.1) | exact gcnt_f hx (fun h => h24 h.1)) (nI_s hz)
      · iterate 3 refine r_step hk rfl rfl rfl ?_
        refine r_ia hk (t) rfl rfl hz (by omega) rfl ?_
        iterate 2 refine r_step hk rfl rfl rfl ?_
        refine r_ne (fun h35 => ?_) (fun h35 => ?_)
        · iterate 5 refine r_step hk rfl rfl rfl ?_
          exact ih _ _ (by first | exact gcnt_t hx ⟨h24, h35, by rw [e3]; exact h51⟩ | exact gcnt_f hx (fun h => h51 (by rw [← e3]; exact h.2.2)) | exact gcnt_f hx (fun h => h35 h.2.1) | exact gcnt_f hx (fun h => h24 h.1)) (nI_s hz)
        · iterate 5 refine r_step hk rfl rfl rfl ?_
          refine r_ia hk (t) rfl rfl hz (by omega) rfl ?_
          refine r_ia hk (t2) rfl rfl e2 (by omega) rfl ?_
          iterate 2 refine r_step hk rfl rfl rfl ?_
          refine r_ne (fun h51 => ?_) (fun h51 => ?_)
          · iterate 5 refine r_step hk rfl rfl rfl ?_
            exact ih _ _ (by first | exact gcnt_t hx ⟨h24, h35, by rw [e3]; exact h51⟩ | exact gcnt_f hx (fun h => h51 (by rw [← e3]; exact h.2.2)) | exact gcnt_f hx (fun h => h35 h.2.1) | exact gcnt_f hx (fun h => h24 h.1)) (nI_s hz)
          · iterate 6 refine r_step hk rfl rfl rfl ?_
            exact ih _ _ (by first | exact gcnt_t hx ⟨h24, h35, by rw [e3]; exact h51⟩ | exact gcnt_f hx (fun h => h51 (by rw [← e3]; exact h.2.2)) | exact gcnt_f hx (fun h => h35 h.2.1) | exact gcnt_f hx (fun h => h24 h.1)) (nI_s hz)
  iterate 4 refine r_step hk rfl rfl rfl ?_
  exact loop 0 (Nat.zero_le _) _ _ rfl rfl
theorem m_thingsThat {N : Nat} (hN : w 44 25 = nI N) (hN1 : N ≤ 100) (s : Int32) : gE d 160 [.ref 44, .int s] (n, u, HP w a b r q y) (gre (nI (gcnt (fun t => a 64 t = s) N)) (n, u, HP w a b r q y)) := by
  have hk : gMT[160]? = some gro_160 := rfl
  refine r_in hk [some (.ref 44), some (.int s), none, none] (Nat.le_of_ble_eq_true rfl) rfl ?_
  have loop : ∀ t, t ≤ N → ∀ x z : Int32, x = nI (gcnt (fun t => a 64 t = s) t) → z = nI t → gX d 160 4 [some (.ref 44), some (.int s), some (.int x), some (.int z)] [] (n, u, HP w a b r q y) (gre (nI (gcnt (fun t => a 64 t = s) N)) (n, u, HP w a b r q y)) := by
    refine g_down ?_ ?_
    · intro x z hx hz
      iterate 4 refine r_step hk rfl rfl rfl ?_
      refine r_ge (fun _ => ?_) (fun h => absurd (show w 44 25 ≤ z by rw [hz, hN]; exact nI_le (Nat.le_refl _) (by omega)) h)
      refine r_step hk rfl rfl rfl ?_
      refine r_iret hk rfl trivial ?_
      exact ⟨congrArg (fun z => some (Value.int z)) hx, rfl⟩
    · intro t ht ih x z hx hz
      iterate 4 refine r_step hk rfl rfl rfl ?_
      refine r_ge (fun h => absurd h (show ¬ w 44 25 ≤ z by rw [hz, hN]; exact nI_ge ht (by omega))) (fun _ => ?_)
      iterate 4 refine r_step hk rfl rfl rfl ?_
      refine r_ia hk (t) rfl rfl hz (by omega) rfl ?_
      iterate 2 refine r_step hk rfl rfl rfl ?_
      refine r_ne (fun h20 => ?_) (fun h20 => ?_)
      · iterate 5 refine r_step hk rfl rfl rfl ?_
        exact ih _ _ (by first | exact gcnt_t hx h20 | exact gcnt_f hx h20) (nI_s hz)
      · iterate 6 refine r_step hk rfl rfl rfl ?_
        exact ih _ _ (by first | exact gcnt_t hx h20 | exact gcnt_f hx h20) (nI_s hz)
  iterate 4 refine r_step hk rfl rfl rfl ?_
  exact loop 0 (Nat.zero_le _) _ _ rfl rfl
end GM3
end
section
/-! ===== lines of a text as programs for a stack ===== -/
def gval (f : Nat → Int32) (e : Nat) : Int32 := if e < 10000 then nI e else f (e - 10000)
def gopv (o : Nat) (x y : Int32) : Int32 := match o with
  | 0 => x + y
  | 1 => x - y
  | 2 => if x < y then 1 else 0
  | 3 => if x = y then 1 else 0
  | _ => if ¬ x = 0 ∧ ¬ y = 0 then 1 else 0
def gev (f : Nat → Int32) : List Int32 → List Nat → List Int32
  | st, [] => st
  | st, e :: p => if e < 10006 then gev f (gval f e :: st) p else match st with
    | z :: x :: r => gev f (gopv (e - 10010) x z :: r) p
    | r => gev f r p
def gwf : Nat → List Nat → Prop
  | n, [] => n = 1
  | n, e :: p => (e < 10006 ∧ n < 16 ∧ gwf (n + 1) p) ∨ (10010 ≤ e ∧ e < 10015 ∧ 2 ≤ n ∧ gwf (n - 1) p)
def gevv (f : Nat → Int32) (p : List Nat) : Int32 := (gev f [] p).headD 0
/-- a stack in an array -/
def gstk (f : Nat → Int32) : List Int32 → Prop
  | [] => True
  | x :: r => f r.length = x ∧ gstk f r
theorem gstk_congr {f g : Nat → Int32} : ∀ (st : List Int32), (∀ j, j < st.length → g j = f j) → gstk f st → gstk g st := by
  intro st
  induction st with
  | nil => intro _ _; trivial
  | cons x r ih =>
    intro h hs
    exact ⟨(h r.length (by simp)).trans hs.1, ih (fun j hj => h j (by simp; omega)) hs.2⟩
theorem gev_congr {f g : Nat → Int32} (h : ∀ k, k < 6 → f k = g k) : ∀ (p : List Nat) (st : List Int32), gev f st p = gev g st p := by
  intro p
  induction p with
  | nil => intro st; rfl
  | cons e p ih =>
    intro st
    simp only [gev]
    by_cases he : e < 10006
    · have : gval f e = gval g e := by
        unfold gval
        by_cases h1 : e < 10000
        · simp [h1]
        · simp only [h1, if_false]; exact h _ (by omega)
      simp only [he, if_true, this]; exact ih _
    · simp only [he, if_false]
      split <;> exact ih _
theorem gevv_congr {f g : Nat → Int32} (h : ∀ k, k < 6 → f k = g k) (p : List Nat) : gevv f p = gevv g p := by
  unfold gevv; rw [gev_congr h]
def gway (f : Nat → Int32) : List (Nat × List Nat) → Nat
  | [] => 3
  | (z, p) :: t => if gevv f p = 0 then gway f t else z
theorem gway_congr {f g : Nat → Int32} (h : ∀ k, k < 6 → f k = g k) : ∀ ls, gway f ls = gway g ls := by
  intro ls
  induction ls with
  | nil => rfl
  | cons a t ih =>
    obtain ⟨z, p⟩ := a
    simp only [gway, gevv_congr h p, ih]
/-- the reference's codes -/
def gmo (e : Nat) : Int32 := if e < 10000 then 1 else if e < 10006 then 2 else nI (e - 10007)
def gme (e : Nat) : Int32 := if e < 10000 then nI e else if e < 10006 then nI (e - 10000) else 0
def gmP (op one : Nat → Int32) : Nat → List Nat → Prop
  | i, [] => op i = 0
  | i, e :: p => op i = gmo e ∧ (e < 10006 → one i = gme e) ∧ gmP op one (i + 1) p
def gag (X : List Nat) (a a' : Nat → Nat → Int32) : Prop := ∀ j, j ∉ X → a' j = a j
theorem gag_rf {X : List Nat} {a : Nat → Nat → Int32} : gag X a a := fun _ _ => rfl
theorem gag_tr {X : List Nat} {a a1 a2 : Nat → Nat → Int32} (h1 : gag X a a1) (h2 : gag X a1 a2) : gag X a a2 := fun j hj => (h2 j hj).trans (h1 j hj)
theorem gag_up {X : List Nat} {a a1 : Nat → Nat → Int32} (h1 : gag X a a1) {j s : Nat} {x : Int32} (hj : j ∈ X) : gag X a (upd2 a1 j s x) := fun i hi => by
  have : i ≠ j := fun e => hi (e ▸ hj)
  rw [upd2_row _ _ _ _ this]; exact h1 i hi
theorem gag_sub {X Y : List Nat} {a a1 : Nat → Nat → Int32} (h1 : gag X a a1) (h : ∀ j, j ∈ X → j ∈ Y) : gag Y a a1 := fun j hj => h1 j (fun z => hj (h j z))
theorem gstk_push {a : Nat → Nat → Int32} {j : Nat} {st : List Int32} {x : Int32} (h : gstk (a j) st) : gstk (upd2 a j st.length x j) (x :: st) :=
  ⟨upd2_same _ _ _ _, gstk_congr st (fun i hi => upd2_col _ _ _ _ (by omega)) h⟩
theorem gmo_op {e : Nat} (o : Nat) (h10 : 10010 ≤ e) (h15 : e < 10015) (ho : o < 5) : nI (e - 10007) = nI (o + 3) ↔ e - 10010 = o := by
  rw [nI_eq (by omega) (by omega)]
  omega
theorem gmo_ne {e : Nat} (o : Nat) (h10 : 10010 ≤ e) (h15 : e < 10015) (ho : o < 3) : ¬ nI (e - 10007) = nI o := by
  rw [nI_eq (by omega) (by omega)]
  omega
theorem gmo_last {e : Nat} (h10 : 10010 ≤ e) (h15 : e < 10015) (k3 : ¬ e - 10010 = 0) (k4 : ¬ e - 10010 = 1) (k5 : ¬ e - 10010 = 2) (k6 : ¬ e - 10010 = 3) : e - 10010 = 4 := by omega
section GM4
variable {w a : Nat → Nat → Int32} {b : Nat → Nat → Int64} {r : Nat → Nat → Nat} {q : Nat → Nat → Option Nat} {y : gH} {n u : Nat} {d : Nat}
theorem m_valueOf {i0 : Nat} {p : List Nat} (hp : gmP (a 53) (a 54) i0 p) (hb : i0 + p.length < 1320) (hw : gwf 0 p) : gE d 125 [.ref 44, .int (nI i0)] (n, u, HP w a b r q y) (fun v S' => ∃ a', gag [59] a a' ∧ v = some (.int (gevv (a 58) p)) ∧ S' = (n, u, HP w a' b r q y)) := by
  have hk : gMT[125]? = some gro_125 := rfl
  refine r_in hk [some (.ref 44), some (.int (nI i0)), none, none, none, none, none] (Nat.le_of_ble_eq_true rfl) rfl ?_
  have loop : ∀ (p2 : List Nat) (i : Nat) (st : List Int32) (a1 : Nat → Nat → Int32) (l4 l5 l6 : Option Value) (z t : Int32), gmP (a 53) (a 54) i p2 → i + p2.length < 1320 → gwf st.length p2 → st.length ≤ 16 → gag [59] a a1 → gstk (a1 59) st → gev (a 58) st p2 = gev (a 58) [] p → z = nI i → t = nI st.length →
      gX d 125 4 [some (.ref 44), some (.int (nI i0)), some (.int z), some (.int t), l4, l5, l6] [] (n, u, HP w a1 b r q y) (fun v S' => ∃ a', gag [59] a a' ∧ v = some (.int (gevv (a 58) p)) ∧ S' = (n, u, HP w a' b r q y)) := by
    intro p2
    induction p2 with
    | nil =>
      intro i st a1 l4 l5 l6 z t hp2 hb2 hw2 h16 hag hst hev hz ht
      have e53 : a1 53 = a 53 := hag 53 (by decide)
      cases st with
      | nil => cases hw2
      | cons x rs =>
        have hrs : rs.length = 0 := by simpa [gwf] using hw2
        have hx0 : a1 59 0 = x := by rw [← hrs]; exact hst.1
        have hop : a1 53 i = 0 := by rw [e53]; exact hp2
        iterate 3 refine r_step hk rfl rfl rfl ?_
        refine r_ia hk (i) rfl rfl hz (by simp at hb2; omega) rfl ?_
        refine r_step hk rfl rfl rfl ?_
        refine r_eq (fun _ => ?_) (fun h => absurd hop h)
        iterate 3 refine r_step hk rfl rfl rfl ?_
        refine r_ia hk (0) rfl rfl rfl (by decide) rfl ?_
        refine r_iret hk rfl trivial ?_
        exact ⟨a1, hag, by rw [hx0]; simp only [gevv, ← hev, gev, List.headD_cons], rfl⟩
    | cons e p2 ih =>
      intro i st a1 l4 l5 l6 z t hp2 hb2 hw2 h16 hag hst hev hz ht
      have e53 : a1 53 = a 53 := hag 53 (by decide)
      have e54 : a1 54 = a 54 := hag 54 (by decide)
      have e58 : a1 58 = a 58 := hag 58 (by decide)
      obtain ⟨ho, hone, hp3⟩ := hp2
      have hbi : i < 1320 := by simp at hb2; omega
      have hb3 : i + 1 + p2.length < 1320 := by simp at hb2; omega
      have hop : a1 53 i = gmo e := by rw [e53]; exact ho
      rcases hw2 with ⟨h6, hn, hw3⟩ | ⟨h10, h15, hn, hw3⟩
      · have hon : a1 54 i = gme e := by rw [e54]; exact hone h6
        have hev2 : gev (a 58) (gval (a 58) e :: st) p2 = gev (a 58) [] p := by rw [← hev]; simp only [gev, h6, if_true]
        by_cases h0 : e < 10000
        · have ho1 : a1 53 i = 1 := by rw [hop]; simp [gmo, h0]
          have ho2 : a1 54 i = gval (a 58) e := by rw [hon]; simp [gme, gval, h0]
          iterate 3 refine r_step hk rfl rfl rfl ?_
          refine r_ia hk (i) rfl rfl hz hbi rfl ?_
          refine r_step hk rfl rfl rfl ?_
          refine r_eq (fun h => absurd h (show ¬ a1 53 i = 0 by rw [ho1]; decide)) (fun _ => ?_)
          iterate 3 refine r_step hk rfl rfl rfl ?_
          refine r_ia hk (i) rfl rfl hz hbi rfl ?_
          iterate 4 refine r_step hk rfl rfl rfl ?_
          refine r_eq (fun _ => ?_) (fun h => absurd ho1 h)
          iterate 6 refine r_step hk rfl rfl rfl ?_
          refine r_ne (fun h => absurd ho1 h) (fun _ => ?_)
          iterate 3 refine r_step hk rfl rfl rfl ?_
          refine r_ia hk (i) rfl rfl hz hbi rfl ?_
          refine r_step hk rfl rfl rfl ?_
          refine r_is hk (st.length) rfl rfl rfl ht (by omega) rfl rfl ?_
          iterate 4 refine r_step hk rfl rfl rfl ?_
          exact ih (i + 1) (a1 54 i :: st) _ _ _ _ _ _ hp3 hb3 hw3 (by simp; omega) (gag_up hag (by decide)) (gstk_push hst) (by rw [ho2]; exact hev2) (nI_s hz) (by simp only [List.length_cons]; exact nI_s ht)
        · have ho1 : a1 53 i = 2 := by rw [hop]; simp [gmo, h0, h6]
          have hk6 : a1 54 i = nI (e - 10000) := by rw [hon]; simp [gme, h0, h6]
          have ho2 : a1 58 (e - 10000) = gval (a 58) e := by rw [e58]; simp [gval, h0]
          iterate 3 refine r_step hk rfl rfl rfl ?_
          refine r_ia hk (i) rfl rfl hz hbi rfl ?_
          refine r_step hk rfl rfl rfl ?_
          refine r_eq (fun h => absurd h (show ¬ a1 53 i = 0 by rw [ho1]; decide)) (fun _ => ?_)
          iterate 3 refine r_step hk rfl rfl rfl ?_
          refine r_ia hk (i) rfl rfl hz hbi rfl ?_
          iterate 4 refine r_step hk rfl rfl rfl ?_
          refine r_eq (fun h => absurd h (show ¬ a1 53 i = 1 by rw [ho1]; decide)) (fun _ => ?_)
          iterate 3 refine r_step hk rfl rfl rfl ?_
          refine r_ne (fun h => absurd ho1 h) (fun _ => ?_)
          iterate 6 refine r_step hk rfl rfl rfl ?_
          refine r_ne (fun _ => ?_) (fun h => absurd h (show ¬ a1 53 i = 1 by rw [ho1]; decide))
          iterate 5 refine r_step hk rfl rfl rfl ?_
          refine r_ia hk (i) rfl rfl hz hbi rfl ?_
          refine r_ia hk (e - 10000) rfl rfl hk6 (by omega) rfl ?_
          refine r_is hk (st.length) rfl rfl rfl ht (by omega) rfl rfl ?_
          iterate 4 refine r_step hk rfl rfl rfl ?_
          exact ih (i + 1) (a1 58 (e - 10000) :: st) _ _ _ _ _ _ hp3 hb3 hw3 (by simp; omega) (gag_up hag (by decide)) (gstk_push hst) (by rw [ho2]; exact hev2) (nI_s hz) (by simp only [List.length_cons]; exact nI_s ht)
      · match st, hn, hst, hev, hw3, ht, h16 with
        | [], hn, _, _, _, _, _ => simp at hn
        | [x], hn, _, _, _, _, _ => simp at hn
        | z1 :: x1 :: rs, hn, hst, hev, hw3, ht, h16 =>
          have hy : a1 59 (rs.length + 1) = z1 := hst.1
          have hx1 : a1 59 rs.length = x1 := hst.2.1
          have hrs : gstk (a1 59) rs := hst.2.2
          have hl16 : rs.length + 2 ≤ 16 := by simpa using h16
          have ht1 : t + -1 = nI (rs.length + 1) := by rw [ht]; exact pk_m1 (rs.length + 1)
          have ht2 : t + -1 - 1 = nI rs.length := by rw [ht1]; exact nI_pred _
          have hw4 : gwf (rs.length + 1) p2 := by simpa using hw3
          have hge : ¬ e < 10006 := by omega
          have hev2 : gev (a 58) (gopv (e - 10010) x1 z1 :: rs) p2 = gev (a 58) [] p := by rw [← hev]; simp only [gev, hge, if_false]
          have hopv : a1 53 i = nI (e - 10007) := by rw [hop]; simp [gmo, show ¬ e < 10000 by omega, hge]
          have n0 : ¬ a1 53 i = 0 := by rw [hopv]; exact gmo_ne 0 h10 h15 (by decide)
          have n1 : ¬ a1 53 i = 1 := by rw [hopv]; exact gmo_ne 1 h10 h15 (by decide)
          have n2 : ¬ a1 53 i = 2 := by rw [hopv]; exact gmo_ne 2 h10 h15 (by decide)
          have q3 : a1 53 i = 3 ↔ e - 10010 = 0 := by rw [hopv]; exact gmo_op 0 h10 h15 (by decide)
          have q4 : a1 53 i = 4 ↔ e - 10010 = 1 := by rw [hopv]; exact gmo_op 1 h10 h15 (by decide)
          have q5 : a1 53 i = 5 ↔ e - 10010 = 2 := by rw [hopv]; exact gmo_op 2 h10 h15 (by decide)
          have q6 : a1 53 i = 6 ↔ e - 10010 = 3 := by rw [hopv]; exact gmo_op 3 h10 h15 (by decide)
          have qA : ¬ a1 53 i = 3 → ¬ a1 53 i = 4 → ¬ a1 53 i = 5 → ¬ a1 53 i = 6 → e - 10010 = 4 := by
            intro k3 k4 k5 k6
            exact gmo_last h10 h15 (mt q3.mpr k3) (mt q4.mpr k4) (mt q5.mpr k5) (mt q6.mpr k6)
          have fin : ∀ (v : Int32) (c5 c6 : Option Value), v = gopv (e - 10010) x1 z1 → gX d 125 4 [some (.ref 44), some (.int (nI i0)), some (.int (z + 1)), some (.int (t + -1)), some (.int (a1 53 i)), c5, c6] [] (n, u, HP w (upd2 a1 59 rs.length v) b r q y) (fun v S' => ∃ a', gag [59] a a' ∧ v = some (.int (gevv (a 58) p)) ∧ S' = (n, u, HP w a' b r q y)) := by
            intro v c5 c6 hv
            exact ih (i + 1) (v :: rs) _ _ _ _ _ _ hp3 hb3 hw4 (by simp; omega) (gag_up hag (by decide)) (gstk_push hrs) (by rw [hv]; exact hev2) (nI_s hz) ht1
          iterate 3 refine r_step hk rfl rfl rfl ?_
          refine r_ia hk (i) rfl rfl hz hbi rfl ?_
          refine r_step hk rfl rfl rfl ?_
          refine r_eq (fun h => absurd h n0) (fun _ => ?_)
          iterate 3 refine r_step hk rfl rfl rfl ?_
          refine r_ia hk (i) rfl rfl hz hbi rfl ?_
          iterate 4 refine r_step hk rfl rfl rfl ?_
          refine r_eq (fun h => absurd h n1) (fun _ => ?_)
          iterate 3 refine r_step hk rfl rfl rfl ?_
          refine r_ne (fun _ => ?_) (fun h => absurd h n2)
          iterate 4 refine r_step hk rfl rfl rfl ?_
          refine r_ia hk (rs.length + 1) rfl rfl ht1 (by omega) rfl ?_
          iterate 6 refine r_step hk rfl rfl rfl ?_
          refine r_ia hk (rs.length) rfl rfl ht2 (by omega) rfl ?_
          iterate 9 refine r_step hk rfl rfl rfl ?_
          refine r_ne (fun h102 => ?_) (fun h102 => ?_)
          · iterate 3 refine r_step hk rfl rfl rfl ?_
            refine r_ne (fun h116 => ?_) (fun h116 => ?_)
            · iterate 3 refine r_step hk rfl rfl rfl ?_
              refine r_ne (fun h130 => ?_) (fun h130 => ?_)
              · iterate 3 refine r_step hk rfl rfl rfl ?_
                refine r_ne (fun h152 => ?_) (fun h152 => ?_)
                · iterate 2 refine r_step hk rfl rfl rfl ?_
                  refine r_eq (fun h172 => ?_) (fun h172 => ?_)
                  · refine r_step hk rfl rfl rfl ?_
                    refine r_is hk (rs.length) rfl rfl rfl ht2 (by omega) rfl rfl ?_
                    iterate 2 refine r_step hk rfl rfl rfl ?_
                    refine fin _ _ _ ?_
                    first | (rw [q3.mp h102, hx1, hy]; rfl) | (rw [q4.mp h116, hx1, hy]; rfl) | (rw [q5.mp h130]; exact (if_pos (by rw [← hx1, ← hy]; exact Int32.not_le.mp h137)).symm) | (rw [q5.mp h130]; exact (if_neg (by rw [← hx1, ← hy]; exact Int32.not_lt.mpr h137)).symm) | (rw [q6.mp h152]; exact (if_pos (by rw [← hx1, ← hy]; exact h159)).symm) | (rw [q6.mp h152]; exact (if_neg (by rw [← hx1, ← hy]; exact h159)).symm) | (rw [qA h102 h116 h130 h152]; exact (if_pos ⟨by rw [← hx1]; exact h172, by rw [← hy]; exact h177⟩).symm) | (rw [qA h102 h116 h130 h152]; exact (if_neg (fun h => h.2 (by rw [← hy]; exact h177))).symm) | (rw [qA h102 h116 h130 h152]; exact (if_neg (fun h => h.1 (by rw [← hx1]; exact h172))).symm)
                  · iterate 2 refine r_step hk rfl rfl rfl ?_
                    refine r_eq (fun h177 => ?_) (fun h177 => ?_)
                    · refine r_step hk rfl rfl rfl ?_
                      refine r_is hk (rs.length) rfl rfl rfl ht2 (by omega) rfl rfl ?_
                      iterate 2 refine r_step hk rfl rfl rfl ?_
                      refine fin _ _ _ ?_
                      first | (rw [q3.mp h102, hx1, hy]; rfl) | (rw [q4.mp h116, hx1, hy]; rfl) | (rw [q5.mp h130]; exact (if_pos (by rw [← hx1, ← hy]; exact Int32.not_le.mp h137)).symm) | (rw [q5.mp h130]; exact (if_neg (by rw [← hx1, ← hy]; exact Int32.not_lt.mpr h137)).symm) | (rw [q6.mp h152]; exact (if_pos (by rw [← hx1, ← hy]; exact h159)).symm) | (rw [q6.mp h152]; exact (if_neg (by rw [← hx1, ← hy]; exact h159)).symm) | (rw [qA h102 h116 h130 h152]; exact (if_pos ⟨by rw [← hx1]; exact h172, by rw [← hy]; exact h177⟩).symm) | (rw [qA h102 h116 h130 h152]; exact (if_neg (fun h => h.2 (by rw [← hy]; exact h177))).symm) | (rw [qA h102 h116 h130 h152]; exact (if_neg (fun h => h.1 (by rw [← hx1]; exact h172))).symm)
                    · iterate 2 refine r_step hk rfl rfl rfl ?_
                      refine r_is hk (rs.length) rfl rfl rfl ht2 (by omega) rfl rfl ?_
                      iterate 2 refine r_step hk rfl rfl rfl ?_
                      refine fin _ _ _ ?_
                      first | (rw [q3.mp h102, hx1, hy]; rfl) | (rw [q4.mp h116, hx1, hy]; rfl) | (rw [q5.mp h130]; exact (if_pos (by rw [← hx1, ← hy]; exact Int32.not_le.mp h137)).symm) | (rw [q5.mp h130]; exact (if_neg (by rw [← hx1, ← hy]; exact Int32.not_lt.mpr h137)).symm) | (rw [q6.mp h152]; exact (if_pos (by rw [← hx1, ← hy]; exact h159)).symm) | (rw [q6.mp h152]; exact (if_neg (by rw [← hx1, ← hy]; exact h159)).symm) | (rw [qA h102 h116 h130 h152]; exact (if_pos ⟨by rw [← hx1]; exact h172, by rw [← hy]; exact h177⟩).symm) | (rw [qA h102 h116 h130 h152]; exact (if_neg (fun h => h.2 (by rw [← hy]; exact h177))).symm) | (rw [qA h102 h116 h130 h152]; exact (if_neg (fun h => h.1 (by rw [← hx1]; exact h172))).symm)
                · iterate 3 refine r_step hk rfl rfl rfl ?_
                  refine r_ne (fun h159 => ?_) (fun h159 => ?_)
                  · iterate 2 refine r_step hk rfl rfl rfl ?_
                    refine r_is hk (rs.length) rfl rfl rfl ht2 (by omega) rfl rfl ?_
                    iterate 2 refine r_step hk rfl rfl rfl ?_
                    refine fin _ _ _ ?_
                    first | (rw [q3.mp h102, hx1, hy]; rfl) | (rw [q4.mp h116, hx1, hy]; rfl) | (rw [q5.mp h130]; exact (if_pos (by rw [← hx1, ← hy]; exact Int32.not_le.mp h137)).symm) | (rw [q5.mp h130]; exact (if_neg (by rw [← hx1, ← hy]; exact Int32.not_lt.mpr h137)).symm) | (rw [q6.mp h152]; exact (if_pos (by rw [← hx1, ← hy]; exact h159)).symm) | (rw [q6.mp h152]; exact (if_neg (by rw [← hx1, ← hy]; exact h159)).symm) | (rw [qA h102 h116 h130 h152]; exact (if_pos ⟨by rw [← hx1]; exact h172, by rw [← hy]; exact h177⟩).symm) | (rw [qA h102 h116 h130 h152]; exact (if_neg (fun h => h.2 (by rw [← hy]; exact h177))).symm) | (rw [qA h102 h116 h130 h152]; exact (if_neg (fun h => h.1 (by rw [← hx1]; exact h172))).symm)
                  · iterate 2 refine r_step hk rfl rfl rfl ?_
                    refine r_is hk (rs.length) rfl rfl rfl ht2 (by omega) rfl rfl ?_
                    iterate 2 refine r_step hk rfl rfl rfl ?_
                    refine fin _ _ _ ?_
                    first | (rw [q3.mp h102, hx1, hy]; rfl) | (rw [q4.mp h116, hx1, hy]; rfl) | (rw [q5.mp h130]; exact (if_pos (by rw [← hx1, ← hy]; exact Int32.not_le.mp h137)).symm) | (rw [q5.mp h130]; exact (if_neg (by rw [← hx1, ← hy]; exact Int32.not_lt.mpr h137)).symm) | (rw [q6.mp h152]; exact (if_pos (by rw [← hx1, ← hy]; exact h159)).symm) | (rw [q6.mp h152]; exact (if_neg (by rw [← hx1, ← hy]; exact h159)).symm) | (rw [qA h102 h116 h130 h152]; exact (if_pos ⟨by rw [← hx1]; exact h172, by rw [← hy]; exact h177⟩).symm) | (rw [qA h102 h116 h130 h152]; exact (if_neg (fun h => h.2 (by rw [← hy]; exact h177))).symm) | (rw [qA h102 h116 h130 h152]; exact (if_neg (fun h => h.1 (by rw [← hx1]; exact h172))).symm)
              · iterate 3 refine r_step hk rfl rfl rfl ?_
                refine r_ge (fun h137 => ?_) (fun h137 => ?_)
                · iterate 2 refine r_step hk rfl rfl rfl ?_
                  refine r_is hk (rs.length) rfl rfl rfl ht2 (by omega) rfl rfl ?_
                  iterate 2 refine r_step hk rfl rfl rfl ?_
                  refine fin _ _ _ ?_
                  first | (rw [q3.mp h102, hx1, hy]; rfl) | (rw [q4.mp h116, hx1, hy]; rfl) | (rw [q5.mp h130]; exact (if_pos (by rw [← hx1, ← hy]; exact Int32.not_le.mp h137)).symm) | (rw [q5.mp h130]; exact (if_neg (by rw [← hx1, ← hy]; exact Int32.not_lt.mpr h137)).symm) | (rw [q6.mp h152]; exact (if_pos (by rw [← hx1, ← hy]; exact h159)).symm) | (rw [q6.mp h152]; exact (if_neg (by rw [← hx1, ← hy]; exact h159)).symm) | (rw [qA h102 h116 h130 h152]; exact (if_pos ⟨by rw [← hx1]; exact h172, by rw [← hy]; exact h177⟩).symm) | (rw [qA h102 h116 h130 h152]; exact (if_neg (fun h => h.2 (by rw [← hy]; exact h177))).symm) | (rw [qA h102 h116 h130 h152]; exact (if_neg (fun h => h.1 (by rw [← hx1]; exact h172))).symm)
                · iterate 2 refine r_step hk rfl rfl rfl ?_
                  refine r_is hk (rs.length) rfl rfl rfl ht2 (by omega) rfl rfl ?_
                  iterate 2 refine r_step hk rfl rfl rfl ?_
                  refine fin _ _ _ ?_
                  first | (rw [q3.mp h102, hx1, hy]; rfl) | (rw [q4.mp h116, hx1, hy]; rfl) | (rw [q5.mp h130]; exact (if_pos (by rw [← hx1, ← hy]; exact Int32.not_le.mp h137)).symm) | (rw [q5.mp h130]; exact (if_neg (by rw [← hx1, ← hy]; exact Int32.not_lt.mpr h137)).symm) | (rw [q6.mp h152]; exact (if_pos (by rw [← hx1, ← hy]; exact h159)).symm) | (rw [q6.mp h152]; exact (if_neg (by rw [← hx1, ← hy]; exact h159)).symm) | (rw [qA h102 h116 h130 h152]; exact (if_pos ⟨by rw [← hx1]; exact h172, by rw [← hy]; exact h177⟩).symm) | (rw [qA h102 h116 h130 h152]; exact (if_neg (fun h => h.2 (by rw [← hy]; exact h177))).symm) | (rw [qA h102 h116 h130 h152]; exact (if_neg (fun h => h.1 (by rw [← hx1]; exact h172))).symm)
            · iterate 4 refine r_step hk rfl rfl rfl ?_
              refine r_is hk (rs.length) rfl rfl rfl ht2 (by omega) rfl rfl ?_
              iterate 2 refine r_step hk rfl rfl rfl ?_
              refine fin _ _ _ ?_
              first | (rw [q3.mp h102, hx1, hy]; rfl) | (rw [q4.mp h116, hx1, hy]; rfl) | (rw [q5.mp h130]; exact (if_pos (by rw [← hx1, ← hy]; exact Int32.not_le.mp h137)).symm) | (rw [q5.mp h130]; exact (if_neg (by rw [← hx1, ← hy]; exact Int32.not_lt.mpr h137)).symm) | (rw [q6.mp h152]; exact (if_pos (by rw [← hx1, ← hy]; exact h159)).symm) | (rw [q6.mp h152]; exact (if_neg (by rw [← hx1, ← hy]; exact h159)).symm) | (rw [qA h102 h116 h130 h152]; exact (if_pos ⟨by rw [← hx1]; exact h172, by rw [← hy]; exact h177⟩).symm) | (rw [qA h102 h116 h130 h152]; exact (if_neg (fun h => h.2 (by rw [← hy]; exact h177))).symm) | (rw [qA h102 h116 h130 h152]; exact (if_neg (fun h => h.1 (by rw [← hx1]; exact h172))).symm)
          · iterate 4 refine r_step hk rfl rfl rfl ?_
            refine r_is hk (rs.length) rfl rfl rfl ht2 (by omega) rfl rfl ?_
            iterate 2 refine r_step hk rfl rfl rfl ?_
            refine fin _ _ _ ?_
            first | (rw [q3.mp h102, hx1, hy]; rfl) | (rw [q4.mp h116, hx1, hy]; rfl) | (rw [q5.mp h130]; exact (if_pos (by rw [← hx1, ← hy]; exact Int32.not_le.mp h137)).symm) | (rw [q5.mp h130]; exact (if_neg (by rw [← hx1, ← hy]; exact Int32.not_lt.mpr h137)).symm) | (rw [q6.mp h152]; exact (if_pos (by rw [← hx1, ← hy]; exact h159)).symm) | (rw [q6.mp h152]; exact (if_neg (by rw [← hx1, ← hy]; exact h159)).symm) | (rw [qA h102 h116 h130 h152]; exact (if_pos ⟨by rw [← hx1]; exact h172, by rw [← hy]; exact h177⟩).symm) | (rw [qA h102 h116 h130 h152]; exact (if_neg (fun h => h.2 (by rw [← hy]; exact h177))).symm) | (rw [qA h102 h116 h130 h152]; exact (if_neg (fun h => h.1 (by rw [← hx1]; exact h172))).symm)
  iterate 4 refine r_step hk rfl rfl rfl ?_
  exact loop p i0 [] a _ _ _ _ _ hp hb hw (by decide) gag_rf trivial rfl rfl rfl
end GM4
end
section
/-! ===== the reference: ways, sorting, weeks ===== -/
def gmLine (a : Nat → Nat → Int32) (h i : Nat) (wp : Nat × List Nat) : Prop := ∃ s, a 51 (16 * h + i) = nI wp.1 ∧ a 52 (16 * h + i) = nI s ∧ s + wp.2.length < 1320 ∧ gmP (a 53) (a 54) s wp.2 ∧ gwf 0 wp.2 ∧ 1 ≤ wp.1 ∧ wp.1 ≤ 4
def gmLs (a : Nat → Nat → Int32) (h : Nat) : Nat → List (Nat × List Nat) → Prop
  | _, [] => True
  | i, wp :: t => gmLine a h i wp ∧ gmLs a h (i + 1) t
def gmText (a : Nat → Nat → Int32) (h : Nat) (ls : List (Nat × List Nat)) : Prop := a 50 h = nI ls.length ∧ ls.length ≤ 16 ∧ gmLs a h 0 ls
def gfa (a : Nat → Nat → Int32) (T t k : Nat) : Nat → Int32 := fun i => if i = 0 then a 61 t else if i = 1 then a 62 t else if i = 2 then a 63 t else if i = 3 then nI (T / 13 % 4) else if i = 4 then a 68 k else a 60 t
theorem gmLine_ag {a a' : Nat → Nat → Int32} {X : List Nat} (hag : gag X a a') (hX : 51 ∉ X ∧ 52 ∉ X ∧ 53 ∉ X ∧ 54 ∉ X) {h i : Nat} {wp : Nat × List Nat} (hl : gmLine a h i wp) : gmLine a' h i wp := by
  unfold gmLine
  rw [hag 51 hX.1, hag 52 hX.2.1, hag 53 hX.2.2.1, hag 54 hX.2.2.2]
  exact hl
theorem gmLs_ag {a a' : Nat → Nat → Int32} {X : List Nat} (hag : gag X a a') (hX : 51 ∉ X ∧ 52 ∉ X ∧ 53 ∉ X ∧ 54 ∉ X) {h : Nat} : ∀ (ls : List (Nat × List Nat)) (i : Nat), gmLs a h i ls → gmLs a' h i ls := by
  intro ls
  induction ls with
  | nil => intro i _; trivial
  | cons wp t ih => intro i hl; exact ⟨gmLine_ag hag hX hl.1, ih _ hl.2⟩
theorem gmText_ag {a a' : Nat → Nat → Int32} {X : List Nat} (hag : gag X a a') (hX : 50 ∉ X ∧ 51 ∉ X ∧ 52 ∉ X ∧ 53 ∉ X ∧ 54 ∉ X) {h : Nat} {ls : List (Nat × List Nat)} (hl : gmText a h ls) : gmText a' h ls := by
  refine ⟨?_, hl.2.1, gmLs_ag hag hX.2 ls 0 hl.2.2⟩
  rw [hag 50 hX.1]; exact hl.1
theorem gway_rng {a : Nat → Nat → Int32} {h : Nat} (f : Nat → Int32) : ∀ (ls : List (Nat × List Nat)) (i : Nat), gmLs a h i ls → 1 ≤ gway f ls ∧ gway f ls ≤ 4 := by
  intro ls
  induction ls with
  | nil => intro i _; simp [gway]
  | cons wp t ih =>
    intro i hl
    obtain ⟨z, p⟩ := wp
    simp only [gway]
    split
    · exact ih _ hl.2
    · obtain ⟨s, -, -, -, -, -, h1, h4⟩ := hl.1
      exact ⟨h1, h4⟩
theorem nI_16 (s k : Nat) : 16 * nI s + nI k = nI (16 * s + k) := by
  rw [show (16 : Int32) = nI 16 from rfl, pk_mul, nI_add]
section GM5
variable {w a : Nat → Nat → Int32} {b : Nat → Nat → Int64} {r : Nat → Nat → Nat} {q : Nat → Nat → Option Nat} {y : gH} {n u : Nat} {d : Nat}
theorem m_wayOf (hd : 1 ≤ d) {T t k h : Nat} (hT : w 44 24 = nI T) (hT1 : T < 1000) (ht : t < 100) (hk8 : k < 8) (hkd : a 61 t = nI k) (hh : w 44 15 = nI h) (hh1 : h < 2) {ls : List (Nat × List Nat)} (hls : gmText a h ls) : gE d 123 [.ref 44, .int (nI t)] (n, u, HP w a b r q y) (fun v S' => ∃ a', gag [58, 59] a a' ∧ v = some (.int (nI (gway (gfa a T t k) ls))) ∧ S' = (n, u, HP w a' b r q y)) := by
  have hk : gMT[123]? = some gro_123 := rfl
  refine r_in hk [some (.ref 44), some (.int (nI t)), none] (Nat.le_of_ble_eq_true rfl) rfl ?_
  obtain ⟨hln, h16, hlines⟩ := hls
  have loop : ∀ (rs : List (Nat × List Nat)) (i : Nat) (a1 : Nat → Nat → Int32) (z : Int32), gmLs a h i rs → i + rs.length = ls.length → gag [58, 59] a a1 → (∀ k', k' < 6 → a1 58 k' = gfa a T t k k') → gway (gfa a T t k) rs = gway (gfa a T t k) ls → z = nI (16 * h + i) →
      gX d 123 83 [some (.ref 44), some (.int (nI t)), some (.int z)] [] (n, u, HP w a1 b r q y) (fun v S' => ∃ a', gag [58, 59] a a' ∧ v = some (.int (nI (gway (gfa a T t k) ls))) ∧ S' = (n, u, HP w a' b r q y)) := by
    intro rs
    induction rs with
    | nil =>
      intro i a1 z hl hi hag hf hw hz
      have e50 : a1 50 = a 50 := hag 50 (by decide)
      iterate 9 refine r_step hk rfl rfl rfl ?_
      refine r_ia hk (h) rfl rfl hh (by omega) rfl ?_
      iterate 2 refine r_step hk rfl rfl rfl ?_
      refine r_ge (fun _ => ?_) (fun hq9 => absurd (show 16 * w 44 15 + a1 50 h ≤ z by rw [hz, hh, e50, hln, nI_16]; exact nI_le (by simp at hi; omega) (by omega)) hq9)
      refine r_step hk rfl rfl rfl ?_
      refine r_iret hk rfl trivial ?_
      exact ⟨a1, hag, by rw [← hw]; rfl, rfl⟩
    | cons wp rs ih =>
      intro i a1 z hl hi hag hf hw hz
      have e50 : a1 50 = a 50 := hag 50 (by decide)
      have e51 : a1 51 = a 51 := hag 51 (by decide)
      have e52 : a1 52 = a 52 := hag 52 (by decide)
      have e53 : a1 53 = a 53 := hag 53 (by decide)
      have e54 : a1 54 = a 54 := hag 54 (by decide)
      obtain ⟨s, hs1, hs2, hs3, hs4, hs5, hs6, hs7⟩ := hl.1
      obtain ⟨wy, p⟩ := wp
      have hi2 : i < ls.length := by simp at hi; omega
      have hev : gevv (a1 58) p = gevv (gfa a T t k) p := gevv_congr hf p
      iterate 9 refine r_step hk rfl rfl rfl ?_
      refine r_ia hk (h) rfl rfl hh (by omega) rfl ?_
      iterate 2 refine r_step hk rfl rfl rfl ?_
      refine r_ge (fun hq9 => absurd hq9 (show ¬ 16 * w 44 15 + a1 50 h ≤ z by rw [hz, hh, e50, hln, nI_16]; exact nI_ge (by omega) (by omega))) (fun _ => ?_)
      iterate 4 refine r_step hk rfl rfl rfl ?_
      refine r_ia hk (16 * h + i) rfl rfl hz (by omega) rfl ?_
      refine r_callV hk [.ref 44, .int (a1 52 (16 * h + i))] [] rfl rfl rfl rfl rfl rfl rfl (by omega) (by rw [e52, hs2]; exact m_valueOf (by rw [e53, e54]; exact hs4) hs3 hs5) ?_
      rintro _ _ ⟨a2, hag2, rfl, rfl⟩
      refine r_step hk rfl rfl rfl ?_
      refine r_eq (fun h114 => ?_) (fun h114 => ?_)
      · iterate 2 refine r_step hk rfl rfl rfl ?_
        exact ih (i + 1) a2 _ hl.2 (by simp at hi; omega) (gag_tr hag (gag_sub hag2 (by decide))) (fun k' hk' => by rw [hag2 58 (by decide)]; exact hf k' hk') (by rw [← hw]; simp only [gway, if_pos (hev ▸ h114)]) (by rw [hz]; exact nI_1 _)
      · iterate 3 refine r_step hk rfl rfl rfl ?_
        refine r_ia hk (16 * h + i) rfl rfl hz (by omega) rfl ?_
        refine r_iret hk rfl trivial ?_
        exact ⟨a2, gag_tr hag (gag_sub hag2 (by decide)), by rw [← hw]; simp only [gway, if_neg (hev ▸ h114)]; rw [hag2 51 (by decide), e51, hs1], rfl⟩
  iterate 6 refine r_step hk rfl rfl rfl ?_
  refine r_ia hk (t) rfl rfl rfl ht rfl ?_
  refine r_is hk (0) rfl rfl rfl rfl (by decide) rfl rfl ?_
  iterate 6 refine r_step hk rfl rfl rfl ?_
  refine r_ia hk (t) rfl rfl rfl ht rfl ?_
  refine r_is hk (1) rfl rfl rfl rfl (by decide) rfl rfl ?_
  iterate 6 refine r_step hk rfl rfl rfl ?_
  refine r_ia hk (t) rfl rfl rfl ht rfl ?_
  refine r_is hk (2) rfl rfl rfl rfl (by decide) rfl rfl ?_
  iterate 4 refine r_step hk rfl rfl rfl ?_
  refine r_callV hk [.ref 44] [.int 3, .ref 58] rfl rfl rfl rfl rfl rfl rfl (by omega) (m_seasonNow hT hT1) ?_
  rintro _ _ ⟨rfl, rfl⟩
  refine r_is hk (3) rfl rfl rfl rfl (by decide) rfl rfl ?_
  iterate 8 refine r_step hk rfl rfl rfl ?_
  refine r_ia hk (t) rfl rfl rfl ht rfl ?_
  refine r_ia hk (k) rfl rfl hkd hk8 rfl ?_
  refine r_is hk (4) rfl rfl rfl rfl (by decide) rfl rfl ?_
  iterate 6 refine r_step hk rfl rfl rfl ?_
  refine r_ia hk (t) rfl rfl rfl ht rfl ?_
  refine r_is hk (5) rfl rfl rfl rfl (by decide) rfl rfl ?_
  iterate 5 refine r_step hk rfl rfl rfl ?_
  exact loop ls 0 _ _ hlines (by omega) (gag_up (gag_up (gag_up (gag_up (gag_up (gag_up gag_rf (by decide)) (by decide)) (by decide)) (by decide)) (by decide)) (by decide)) (fun k' hk' => by match k', hk' with | 0, _ => rfl | 1, _ => rfl | 2, _ => rfl | 3, _ => rfl | 4, _ => rfl | 5, _ => rfl) rfl (by rw [show (16 : Int32) = nI 16 from rfl]; show nI 16 * w 44 15 = _; rw [hh, pk_mul]; rfl)
end GM5
end
section
/-! ===== what sorting and weeks do, as both do it ===== -/
/-- places, shops, weeks of the things -/
abbrev gP3 : Type := (Nat → Int32) × (Nat → Int32) × (Nat → Int32)
def gu (f : Nat → Int32) (t : Nat) (x : Int32) : Nat → Int32 := fun i => if i = t then x else f i
theorem gu_row (a : Nat → Nat → Int32) (j t : Nat) (x : Int32) : upd2 a j t x j = gu (a j) t x := by
  funext i; simp [upd2, gu]
abbrev gOnP (X : gP3) (st s : Int32) : Nat → Prop := fun t => X.1 t = st ∧ X.2.1 t = s
abbrev gRoom (N : Nat) (rm : Nat → Int32) (X : gP3) (s : Nat) : Prop := nI (gcnt (gOnP X 1 (nI s)) N) < rm s
def gsrt (N : Nat) (rm : Nat → Int32) (now : Int32) (wy : Nat) (X : gP3) (t s : Nat) : gP3 :=
  if wy = 1 ∧ gRoom N rm X s then (gu X.1 t 1, gu X.2.1 t (nI s), gu X.2.2 t now) else (gu X.1 t (if wy ≤ 2 then 2 else nI wy), X.2.1, X.2.2)
/-- the first shop with room, 0 without any -/
def gFirst (N : Nat) (rm : Nat → Int32) (X : gP3) (s : Nat) : Prop := (s < 5 ∧ gRoom N rm X s ∧ ∀ s', s' < s → ¬ gRoom N rm X s') ∨ ((∀ s', s' < 5 → ¬ gRoom N rm X s') ∧ s = 0)
theorem gsrt_no {N : Nat} {rm : Nat → Int32} {now x : Int32} {wy t s : Nat} {a a1 : Nat → Nat → Int32} (e64 : a1 64 = a 64) (e65 : a1 65 = a 65) (e66 : a1 66 = a 66) (hn : ¬ (wy = 1 ∧ gRoom N rm (a 64, a 65, a 66) s)) (hx : x = if wy ≤ 2 then 2 else nI wy) : ((upd2 a1 64 t x 64, upd2 a1 64 t x 65, upd2 a1 64 t x 66) : gP3) = gsrt N rm now wy (a 64, a 65, a 66) t s := by
  unfold gsrt
  rw [if_neg hn, gu_row, upd2_row _ _ _ _ (by decide), upd2_row _ _ _ _ (by decide), e64, e65, e66, hx]
theorem gsrt_yes {N : Nat} {rm : Nat → Int32} {now : Int32} {wy t s : Nat} {a a1 : Nat → Nat → Int32} (e64 : a1 64 = a 64) (e65 : a1 65 = a 65) (e66 : a1 66 = a 66) (hn : wy = 1 ∧ gRoom N rm (a 64, a 65, a 66) s) : ((upd2 (upd2 (upd2 a1 64 t 1) 65 t (nI s)) 66 t now 64, upd2 (upd2 (upd2 a1 64 t 1) 65 t (nI s)) 66 t now 65, upd2 (upd2 (upd2 a1 64 t 1) 65 t (nI s)) 66 t now 66) : gP3) = gsrt N rm now wy (a 64, a 65, a 66) t s := by
  unfold gsrt
  rw [if_pos hn, upd2_row _ 66 t _ (by decide : (64 : Nat) ≠ 66), upd2_row _ 65 t _ (by decide : (64 : Nat) ≠ 65), gu_row, upd2_row _ 66 t _ (by decide : (65 : Nat) ≠ 66), gu_row, gu_row, upd2_row _ 64 t _ (by decide : (65 : Nat) ≠ 64), upd2_row _ 65 t _ (by decide : (66 : Nat) ≠ 65), upd2_row _ 64 t _ (by decide : (66 : Nat) ≠ 64), e64, e65, e66]
theorem gon_cnt {a a1 : Nat → Nat → Int32} {N : Nat} {st s : Int32} (e64 : a1 64 = a 64) (e65 : a1 65 = a 65) : gcnt (gOn a1 st s) N = gcnt (gOnP (a 64, a 65, a 66) st s) N :=
  gcnt_congr N (fun i _ => by show (a1 64 i = st ∧ a1 65 i = s) ↔ (a 64 i = st ∧ a 65 i = s); rw [e64, e65])
theorem gsrt_x4 {wy : Nat} (h : 1 ≤ wy ∧ wy ≤ 4) (h1 : ¬ wy = 1) (h2 : ¬ wy = 2) (h3 : ¬ wy = 3) : (4 : Int32) = if wy ≤ 2 then 2 else nI wy := by
  have e : wy = 4 := by omega
  subst e; rfl
theorem gsrt_x3 {wy : Nat} (h : wy = 3) : (3 : Int32) = if wy ≤ 2 then 2 else nI wy := by subst h; rfl
theorem gsrt_x2 {wy : Nat} (h : wy = 2) : (2 : Int32) = if wy ≤ 2 then 2 else nI wy := by subst h; rfl
theorem gsrt_x1 {wy : Nat} (h : wy = 1) : (2 : Int32) = if wy ≤ 2 then 2 else nI wy := by subst h; rfl
section GM6
variable {w a : Nat → Nat → Int32} {b : Nat → Nat → Int64} {r : Nat → Nat → Nat} {q : Nat → Nat → Option Nat} {y : gH} {n u : Nat} {d : Nat}
abbrev gXo (a : Nat → Nat → Int32) : gP3 := (a 64, a 65, a 66)
/-- as sorts leaves it -/
theorem m_sorts (hd : 3 ≤ d) {N T t k h s : Nat} (hN : w 44 25 = nI N) (hN1 : N ≤ 100) (hT : w 44 24 = nI T) (hT1 : T < 1000) (ht : t < 100) (hk8 : k < 8) (hkd : a 61 t = nI k) (hh : w 44 15 = nI h) (hh1 : h < 2) (hs : s < 5) {ls : List (Nat × List Nat)} (hls : gmText a h ls) : gE d 122 [.ref 44, .int (nI t), .int (nI s)] (n, u, HP w a b r q y) (fun v S' => v = none ∧ ∃ a', gag [58, 59, 64, 65, 66] a a' ∧ gXo a' = gsrt N (a 69) (nI T) (gway (gfa a T t k) ls) (gXo a) t s ∧ S' = (n, u, HP w a' b r q y)) := by
  have hk : gMT[122]? = some gro_122 := rfl
  refine r_in hk [some (.ref 44), some (.int (nI t)), some (.int (nI s)), none] (Nat.le_of_ble_eq_true rfl) rfl ?_
  have hrng := gway_rng (gfa a T t k) ls 0 hls.2.2
  generalize hwy : gway (gfa a T t k) ls = wy at hrng ⊢
  have q1 : nI wy = 1 ↔ wy = 1 := nI_eq (b := 1) (by omega) (by omega)
  have q2 : nI wy = 2 ↔ wy = 2 := nI_eq (b := 2) (by omega) (by omega)
  have q3 : nI wy = 3 ↔ wy = 3 := nI_eq (b := 3) (by omega) (by omega)
  iterate 2 refine r_step hk rfl rfl rfl ?_
  refine r_callV hk [.ref 44, .int (nI t)] [] rfl rfl rfl rfl rfl rfl rfl (by omega) (m_wayOf (by omega) hT hT1 ht hk8 hkd hh hh1 hls) ?_
  rw [hwy]
  rintro _ _ ⟨a1, hag, rfl, rfl⟩
  have e64 := hag 64 (by decide)
  have e65 := hag 65 (by decide)
  have e66 := hag 66 (by decide)
  have e69 := hag 69 (by decide)
  have hrm : gRoom N (a 69) (a 64, a 65, a 66) s ↔ nI (gcnt (gOn a1 1 (nI s)) N) < a1 69 s := by rw [gon_cnt e64 e65, e69]
  iterate 4 refine r_step hk rfl rfl rfl ?_
  refine r_ne (fun h8 => ?_) (fun h8 => ?_)
  · iterate 6 refine r_step hk rfl rfl rfl ?_
    refine r_eq (fun h35 => ?_) (fun h35 => ?_)
    · iterate 2 refine r_step hk rfl rfl rfl ?_
      refine r_is hk (t) rfl rfl rfl rfl ht rfl rfl ?_
      refine r_ret hk rfl rfl ?_
      refine ⟨rfl, _, ?_, ?_, rfl⟩
      first | exact gag_up (gag_sub hag (by decide)) (by decide) | exact gag_up (gag_up (gag_up (gag_sub hag (by decide)) (by decide)) (by decide)) (by decide)
      first | exact absurd h35 h8 | exact gsrt_no e64 e65 e66 (fun hc => h8 (q1.mpr hc.1)) (gsrt_x4 hrng (mt q1.mpr h8) (mt q2.mpr h40) (mt q3.mpr h49)) | exact gsrt_no e64 e65 e66 (fun hc => h8 (q1.mpr hc.1)) (gsrt_x3 (q3.mp h49)) | exact gsrt_no e64 e65 e66 (fun hc => h8 (q1.mpr hc.1)) (gsrt_x2 (q2.mp h40)) | (rw [← hT]; exact gsrt_yes e64 e65 e66 ⟨q1.mp h8, hrm.mpr hr⟩) | exact gsrt_no e64 e65 e66 (fun hc => hr (hrm.mp hc.2)) (gsrt_x1 (q1.mp h35)) | exact absurd h8 h35
    · iterate 3 refine r_step hk rfl rfl rfl ?_
      refine r_ne (fun h40 => ?_) (fun h40 => ?_)
      · iterate 3 refine r_step hk rfl rfl rfl ?_
        refine r_ne (fun h49 => ?_) (fun h49 => ?_)
        · refine r_step hk rfl rfl rfl ?_
          refine r_is hk (t) rfl rfl rfl rfl ht rfl rfl ?_
          refine r_ret hk rfl rfl ?_
          refine ⟨rfl, _, ?_, ?_, rfl⟩
          first | exact gag_up (gag_sub hag (by decide)) (by decide) | exact gag_up (gag_up (gag_up (gag_sub hag (by decide)) (by decide)) (by decide)) (by decide)
          first | exact absurd h35 h8 | exact gsrt_no e64 e65 e66 (fun hc => h8 (q1.mpr hc.1)) (gsrt_x4 hrng (mt q1.mpr h8) (mt q2.mpr h40) (mt q3.mpr h49)) | exact gsrt_no e64 e65 e66 (fun hc => h8 (q1.mpr hc.1)) (gsrt_x3 (q3.mp h49)) | exact gsrt_no e64 e65 e66 (fun hc => h8 (q1.mpr hc.1)) (gsrt_x2 (q2.mp h40)) | (rw [← hT]; exact gsrt_yes e64 e65 e66 ⟨q1.mp h8, hrm.mpr hr⟩) | exact gsrt_no e64 e65 e66 (fun hc => hr (hrm.mp hc.2)) (gsrt_x1 (q1.mp h35)) | exact absurd h8 h35
        · iterate 2 refine r_step hk rfl rfl rfl ?_
          refine r_is hk (t) rfl rfl rfl rfl ht rfl rfl ?_
          refine r_ret hk rfl rfl ?_
          refine ⟨rfl, _, ?_, ?_, rfl⟩
          first | exact gag_up (gag_sub hag (by decide)) (by decide) | exact gag_up (gag_up (gag_up (gag_sub hag (by decide)) (by decide)) (by decide)) (by decide)
          first | exact absurd h35 h8 | exact gsrt_no e64 e65 e66 (fun hc => h8 (q1.mpr hc.1)) (gsrt_x4 hrng (mt q1.mpr h8) (mt q2.mpr h40) (mt q3.mpr h49)) | exact gsrt_no e64 e65 e66 (fun hc => h8 (q1.mpr hc.1)) (gsrt_x3 (q3.mp h49)) | exact gsrt_no e64 e65 e66 (fun hc => h8 (q1.mpr hc.1)) (gsrt_x2 (q2.mp h40)) | (rw [← hT]; exact gsrt_yes e64 e65 e66 ⟨q1.mp h8, hrm.mpr hr⟩) | exact gsrt_no e64 e65 e66 (fun hc => hr (hrm.mp hc.2)) (gsrt_x1 (q1.mp h35)) | exact absurd h8 h35
      · iterate 2 refine r_step hk rfl rfl rfl ?_
        refine r_is hk (t) rfl rfl rfl rfl ht rfl rfl ?_
        refine r_ret hk rfl rfl ?_
        refine ⟨rfl, _, ?_, ?_, rfl⟩
        first | exact gag_up (gag_sub hag (by decide)) (by decide) | exact gag_up (gag_up (gag_up (gag_sub hag (by decide)) (by decide)) (by decide)) (by decide)
        first | exact absurd h35 h8 | exact gsrt_no e64 e65 e66 (fun hc => h8 (q1.mpr hc.1)) (gsrt_x4 hrng (mt q1.mpr h8) (mt q2.mpr h40) (mt q3.mpr h49)) | exact gsrt_no e64 e65 e66 (fun hc => h8 (q1.mpr hc.1)) (gsrt_x3 (q3.mp h49)) | exact gsrt_no e64 e65 e66 (fun hc => h8 (q1.mpr hc.1)) (gsrt_x2 (q2.mp h40)) | (rw [← hT]; exact gsrt_yes e64 e65 e66 ⟨q1.mp h8, hrm.mpr hr⟩) | exact gsrt_no e64 e65 e66 (fun hc => hr (hrm.mp hc.2)) (gsrt_x1 (q1.mp h35)) | exact absurd h8 h35
  · iterate 2 refine r_step hk rfl rfl rfl ?_
    refine r_callV hk [.ref 44, .int (nI s)] [] rfl rfl rfl rfl rfl rfl rfl (by omega) (m_hasRoom (by omega) hN hN1 hs) ?_
    rintro _ _ ⟨⟨hr, rfl⟩ | ⟨hr, rfl⟩, rfl⟩
    · refine r_step hk rfl rfl rfl ?_
      refine r_eq (fun hq9 => absurd hq9 (by decide)) (fun _ => ?_)
      iterate 3 refine r_step hk rfl rfl rfl ?_
      refine r_callV hk [.ref 44, .int (nI t), .int (nI s)] [] rfl rfl rfl rfl rfl rfl rfl (by omega) (m_comesOn ht _) ?_
      rintro _ _ ⟨rfl, rfl⟩
      refine r_step hk rfl rfl rfl ?_
      refine r_ret hk rfl rfl ?_
      refine ⟨rfl, _, ?_, ?_, rfl⟩
      first | exact gag_up (gag_sub hag (by decide)) (by decide) | exact gag_up (gag_up (gag_up (gag_sub hag (by decide)) (by decide)) (by decide)) (by decide)
      first | exact absurd h35 h8 | exact gsrt_no e64 e65 e66 (fun hc => h8 (q1.mpr hc.1)) (gsrt_x4 hrng (mt q1.mpr h8) (mt q2.mpr h40) (mt q3.mpr h49)) | exact gsrt_no e64 e65 e66 (fun hc => h8 (q1.mpr hc.1)) (gsrt_x3 (q3.mp h49)) | exact gsrt_no e64 e65 e66 (fun hc => h8 (q1.mpr hc.1)) (gsrt_x2 (q2.mp h40)) | (rw [← hT]; exact gsrt_yes e64 e65 e66 ⟨q1.mp h8, hrm.mpr hr⟩) | exact gsrt_no e64 e65 e66 (fun hc => hr (hrm.mp hc.2)) (gsrt_x1 (q1.mp h35)) | exact absurd h8 h35
    · refine r_step hk rfl rfl rfl ?_
      refine r_eq (fun _ => ?_) (fun hq9 => absurd (by decide) hq9)
      iterate 6 refine r_step hk rfl rfl rfl ?_
      refine r_eq (fun h35 => ?_) (fun h35 => ?_)
      · iterate 2 refine r_step hk rfl rfl rfl ?_
        refine r_is hk (t) rfl rfl rfl rfl ht rfl rfl ?_
        refine r_ret hk rfl rfl ?_
        refine ⟨rfl, _, ?_, ?_, rfl⟩
        first | exact gag_up (gag_sub hag (by decide)) (by decide) | exact gag_up (gag_up (gag_up (gag_sub hag (by decide)) (by decide)) (by decide)) (by decide)
        first | exact absurd h35 h8 | exact gsrt_no e64 e65 e66 (fun hc => h8 (q1.mpr hc.1)) (gsrt_x4 hrng (mt q1.mpr h8) (mt q2.mpr h40) (mt q3.mpr h49)) | exact gsrt_no e64 e65 e66 (fun hc => h8 (q1.mpr hc.1)) (gsrt_x3 (q3.mp h49)) | exact gsrt_no e64 e65 e66 (fun hc => h8 (q1.mpr hc.1)) (gsrt_x2 (q2.mp h40)) | (rw [← hT]; exact gsrt_yes e64 e65 e66 ⟨q1.mp h8, hrm.mpr hr⟩) | exact gsrt_no e64 e65 e66 (fun hc => hr (hrm.mp hc.2)) (gsrt_x1 (q1.mp h35)) | exact absurd h8 h35
      · iterate 3 refine r_step hk rfl rfl rfl ?_
        refine r_ne (fun h40 => ?_) (fun h40 => ?_)
        · iterate 3 refine r_step hk rfl rfl rfl ?_
          refine r_ne (fun h49 => ?_) (fun h49 => ?_)
          · refine r_step hk rfl rfl rfl ?_
            refine r_is hk (t) rfl rfl rfl rfl ht rfl rfl ?_
            refine r_ret hk rfl rfl ?_
            refine ⟨rfl, _, ?_, ?_, rfl⟩
            first | exact gag_up (gag_sub hag (by decide)) (by decide) | exact gag_up (gag_up (gag_up (gag_sub hag (by decide)) (by decide)) (by decide)) (by decide)
            first | exact absurd h35 h8 | exact gsrt_no e64 e65 e66 (fun hc => h8 (q1.mpr hc.1)) (gsrt_x4 hrng (mt q1.mpr h8) (mt q2.mpr h40) (mt q3.mpr h49)) | exact gsrt_no e64 e65 e66 (fun hc => h8 (q1.mpr hc.1)) (gsrt_x3 (q3.mp h49)) | exact gsrt_no e64 e65 e66 (fun hc => h8 (q1.mpr hc.1)) (gsrt_x2 (q2.mp h40)) | (rw [← hT]; exact gsrt_yes e64 e65 e66 ⟨q1.mp h8, hrm.mpr hr⟩) | exact gsrt_no e64 e65 e66 (fun hc => hr (hrm.mp hc.2)) (gsrt_x1 (q1.mp h35)) | exact absurd h8 h35
          · iterate 2 refine r_step hk rfl rfl rfl ?_
            refine r_is hk (t) rfl rfl rfl rfl ht rfl rfl ?_
            refine r_ret hk rfl rfl ?_
            refine ⟨rfl, _, ?_, ?_, rfl⟩
            first | exact gag_up (gag_sub hag (by decide)) (by decide) | exact gag_up (gag_up (gag_up (gag_sub hag (by decide)) (by decide)) (by decide)) (by decide)
            first | exact absurd h35 h8 | exact gsrt_no e64 e65 e66 (fun hc => h8 (q1.mpr hc.1)) (gsrt_x4 hrng (mt q1.mpr h8) (mt q2.mpr h40) (mt q3.mpr h49)) | exact gsrt_no e64 e65 e66 (fun hc => h8 (q1.mpr hc.1)) (gsrt_x3 (q3.mp h49)) | exact gsrt_no e64 e65 e66 (fun hc => h8 (q1.mpr hc.1)) (gsrt_x2 (q2.mp h40)) | (rw [← hT]; exact gsrt_yes e64 e65 e66 ⟨q1.mp h8, hrm.mpr hr⟩) | exact gsrt_no e64 e65 e66 (fun hc => hr (hrm.mp hc.2)) (gsrt_x1 (q1.mp h35)) | exact absurd h8 h35
        · iterate 2 refine r_step hk rfl rfl rfl ?_
          refine r_is hk (t) rfl rfl rfl rfl ht rfl rfl ?_
          refine r_ret hk rfl rfl ?_
          refine ⟨rfl, _, ?_, ?_, rfl⟩
          first | exact gag_up (gag_sub hag (by decide)) (by decide) | exact gag_up (gag_up (gag_up (gag_sub hag (by decide)) (by decide)) (by decide)) (by decide)
          first | exact absurd h35 h8 | exact gsrt_no e64 e65 e66 (fun hc => h8 (q1.mpr hc.1)) (gsrt_x4 hrng (mt q1.mpr h8) (mt q2.mpr h40) (mt q3.mpr h49)) | exact gsrt_no e64 e65 e66 (fun hc => h8 (q1.mpr hc.1)) (gsrt_x3 (q3.mp h49)) | exact gsrt_no e64 e65 e66 (fun hc => h8 (q1.mpr hc.1)) (gsrt_x2 (q2.mp h40)) | (rw [← hT]; exact gsrt_yes e64 e65 e66 ⟨q1.mp h8, hrm.mpr hr⟩) | exact gsrt_no e64 e65 e66 (fun hc => hr (hrm.mp hc.2)) (gsrt_x1 (q1.mp h35)) | exact absurd h8 h35
end GM6
end
section
/-! ===== a week of the reference ===== -/
def gfst (N : Nat) (rm : Nat → Int32) (X : gP3) : Nat := if gRoom N rm X 0 then 0 else if gRoom N rm X 1 then 1 else if gRoom N rm X 2 then 2 else if gRoom N rm X 3 then 3 else if gRoom N rm X 4 then 4 else 0
theorem gfst_lt (N : Nat) (rm : Nat → Int32) (X : gP3) : gfst N rm X < 5 := by
  unfold gfst
  repeat (first | omega | split)
theorem gfst_of {N : Nat} {rm : Nat → Int32} {X : gP3} {s : Nat} (hs : s < 5) (h : gRoom N rm X s) (ha : ∀ s', s' < s → ¬ gRoom N rm X s') : s = gfst N rm X := by
  unfold gfst
  match s, hs, h, ha with
  | 0, _, h, _ => rw [if_pos h]
  | 1, _, h, ha => rw [if_neg (ha 0 (by omega)), if_pos h]
  | 2, _, h, ha => rw [if_neg (ha 0 (by omega)), if_neg (ha 1 (by omega)), if_pos h]
  | 3, _, h, ha => rw [if_neg (ha 0 (by omega)), if_neg (ha 1 (by omega)), if_neg (ha 2 (by omega)), if_pos h]
  | 4, _, h, ha => rw [if_neg (ha 0 (by omega)), if_neg (ha 1 (by omega)), if_neg (ha 2 (by omega)), if_neg (ha 3 (by omega)), if_pos h]
theorem gfst_no {N : Nat} {rm : Nat → Int32} {X : gP3} (ha : ∀ s', s' < 5 → ¬ gRoom N rm X s') : 0 = gfst N rm X := by
  unfold gfst
  rw [if_neg (ha 0 (by omega)), if_neg (ha 1 (by omega)), if_neg (ha 2 (by omega)), if_neg (ha 3 (by omega)), if_neg (ha 4 (by omega))]
def gsea (N : Nat) (rm : Nat → Int32) (now : Int32) (wy : Nat → Nat) (se : Nat → Int32) (ssn : Int32) : Nat → gP3 → gP3
  | 0, X => X
  | t + 1, X => if (gsea N rm now wy se ssn t X).1 t = 2 ∧ (se t = 4 ∨ se t = ssn) then gsrt N rm now (wy t) (gsea N rm now wy se ssn t X) t (gfst N rm (gsea N rm now wy se ssn t X)) else gsea N rm now wy se ssn t X
def glc (pl sh kd : Nat → Int32) (j N : Nat) : Nat := gcnt (fun t => pl t = 1 ∧ 8 * (sh t).toNatClampNeg + (kd t).toNatClampNeg = j) N
def grag (N : Nat) (now : Int32) (X : gP3) : gP3 := (fun t => if t < N ∧ X.1 t = 1 ∧ ¬ now - X.2.2 t < 5 then 3 else X.1 t, X.2.1, X.2.2)
theorem grag_s {N t : Nat} {now : Int32} {X : gP3} (h : X.1 t = 1) (h5 : ¬ now - X.2.2 t < 5) : gu (grag t now X).1 t 3 = (grag (t + 1) now X).1 := by
  funext i
  simp only [gu, grag]
  by_cases e : i = t
  · subst e; simp [h, h5]
  · simp only [e, if_false]
    by_cases hi : i < t
    · simp [hi, show i < t + 1 by omega]
    · simp [hi, show ¬ i < t + 1 by omega]
theorem grag_n {t : Nat} {now : Int32} {X : gP3} (h : ¬ (X.1 t = 1 ∧ ¬ now - X.2.2 t < 5)) : (grag t now X).1 = (grag (t + 1) now X).1 := by
  funext i
  simp only [grag]
  by_cases e : i = t
  · subst e
    rw [if_neg (by omega), if_neg (fun z => h z.2)]
  · by_cases hi : i < t
    · simp [hi, show i < t + 1 by omega]
    · simp [hi, show ¬ i < t + 1 by omega]
theorem grag_t {t : Nat} {now : Int32} {X : gP3} : (grag t now X).1 t = X.1 t := by simp [grag]
theorem glc_s {a a1 : Nat → Nat → Int32} {t ix : Nat} (h1 : a 64 t = 1) (hix : 8 * (a 65 t).toNatClampNeg + (a 61 t).toNatClampNeg = ix) (h : ∀ j, a1 70 j = a 70 j + nI (glc (a 64) (a 65) (a 61) j t)) (j : Nat) : upd2 a1 70 ix (a1 70 ix + 1) 70 j = a 70 j + nI (glc (a 64) (a 65) (a 61) j (t + 1)) := by
  rw [upd2_at]
  by_cases e : j = ix
  · subst e
    simp only [if_true]
    rw [h]
    show _ = _ + nI (glc (a 64) (a 65) (a 61) j t + if a 64 t = 1 ∧ 8 * (a 65 t).toNatClampNeg + (a 61 t).toNatClampNeg = j then 1 else 0)
    rw [if_pos ⟨h1, hix⟩, Int32.add_assoc, nI_1]
  · simp only [e, if_false]
    rw [h]
    show _ = _ + nI (glc (a 64) (a 65) (a 61) j t + if a 64 t = 1 ∧ 8 * (a 65 t).toNatClampNeg + (a 61 t).toNatClampNeg = j then 1 else 0)
    rw [if_neg (fun hc => e (hc.2.symm.trans hix)), Nat.add_zero]
theorem glc_n {a a1 : Nat → Nat → Int32} {t j : Nat} (h1 : ¬ a 64 t = 1) (h : a1 70 j = a 70 j + nI (glc (a 64) (a 65) (a 61) j t)) : a1 70 j = a 70 j + nI (glc (a 64) (a 65) (a 61) j (t + 1)) := by
  rw [h]
  show _ = _ + nI (glc (a 64) (a 65) (a 61) j t + if a 64 t = 1 ∧ 8 * (a 65 t).toNatClampNeg + (a 61 t).toNatClampNeg = j then 1 else 0)
  rw [if_neg (fun hc => h1 hc.1), Nat.add_zero]
section GM7
variable {w a : Nat → Nat → Int32} {b : Nat → Nat → Int64} {r : Nat → Nat → Nat} {q : Nat → Nat → Option Nat} {y : gH} {n u : Nat} {d : Nat}
theorem m_week (hd : 4 ≤ d) {N T h : Nat} (hN : w 44 25 = nI N) (hN1 : N ≤ 100) (hT : w 44 24 = nI T) (hT1 : T < 519) (hh : w 44 15 = nI h) (hh1 : h < 2) {ls : List (Nat × List Nat)} (hls : gmText a h ls) (hkd : ∀ t, t < N → gin (a 61 t) 8) (hsh : ∀ t, t < N → gin (a 65 t) 5) :
    gE d 132 [.ref 44] (n, u, HP w a b r q y) (fun v S' => v = none ∧ ∃ a', gag [58, 59, 64, 65, 66, 70, 73] a a' ∧ (∀ j, a' 70 j = a 70 j + nI (glc (a 64) (a 65) (a 61) j N)) ∧ a' 73 = gu (a 73) (T / 52) (w 44 39)
      ∧ gXo a' = (if (T + 1) % 13 = 0 then gsea N (a 69) (nI (T + 1)) (fun t => gway (gfa a (T + 1) t (a 61 t).toNatClampNeg) ls) (a 63) (nI ((T + 1) / 13 % 4)) N (grag N (nI (T + 1)) (gXo a)) else grag N (nI (T + 1)) (gXo a))
      ∧ S' = (n, u, HP (upd2 w 44 24 (nI (T + 1))) a' b r q y)) := by
  have hk : gMT[132]? = some gro_132 := rfl
  refine r_in hk [some (.ref 44), none] (Nat.le_of_ble_eq_true rfl) rfl ?_
  generalize hQ : (fun (v : Option Value) (S' : gS) => v = none ∧ ∃ a', gag [58, 59, 64, 65, 66, 70, 73] a a' ∧ (∀ j, a' 70 j = a 70 j + nI (glc (a 64) (a 65) (a 61) j N)) ∧ a' 73 = gu (a 73) (T / 52) (w 44 39)
      ∧ gXo a' = (if (T + 1) % 13 = 0 then gsea N (a 69) (nI (T + 1)) (fun t => gway (gfa a (T + 1) t (a 61 t).toNatClampNeg) ls) (a 63) (nI ((T + 1) / 13 % 4)) N (grag N (nI (T + 1)) (gXo a)) else grag N (nI (T + 1)) (gXo a))
      ∧ S' = (n, u, HP (upd2 w 44 24 (nI (T + 1))) a' b r q y)) = Q
  have eT : w 44 24 + 1 = nI (T + 1) := by rw [hT]; exact nI_1 T
  have erem : nI (T + 1) - nI (T + 1) / 13 * 13 = nI ((T + 1) % 13) := pk_rem (a := T + 1) (d := 13) (by omega) (by decide) (by decide)
  -- the third loop
  have loop3 : ∀ (t : Nat), t ≤ N → ∀ (a1 : Nat → Nat → Int32) (z : Int32), gag [58, 59, 64, 65, 66, 70, 73] a a1 → (∀ j, a1 70 j = a 70 j + nI (glc (a 64) (a 65) (a 61) j N)) → a1 73 = gu (a 73) (T / 52) (w 44 39) → (T + 1) % 13 = 0 → gXo a1 = gsea N (a 69) (nI (T + 1)) (fun t => gway (gfa a (T + 1) t (a 61 t).toNatClampNeg) ls) (a 63) (nI ((T + 1) / 13 % 4)) t (grag N (nI (T + 1)) (gXo a)) → z = nI t →
      gX d 132 127 [some (.ref 44), some (.int z)] [] (n, u, HP (upd2 w 44 24 (nI (T + 1))) a1 b r q y) Q := by
    refine g_down ?_ ?_
    · intro a1 z hag h70 h73 h13 hX hz
      iterate 4 refine r_step hk rfl rfl rfl ?_
      refine r_ge (fun _ => ?_) (fun hq9 => absurd (show w 44 25 ≤ z by rw [hz, hN]; exact nI_le (Nat.le_refl _) (by omega)) hq9)
      refine r_ret hk rfl rfl ?_
      rw [← hQ]
      exact ⟨rfl, a1, hag, h70, h73, by rw [if_pos h13]; exact hX, rfl⟩
    · intro t ht ih a1 z hag h70 h73 h13 hX hz
      obtain ⟨k, hk8, ek⟩ := hkd t ht
      have e61 : a1 61 = a 61 := hag 61 (by decide)
      have e63 : a1 63 = a 63 := hag 63 (by decide)
      have e69 : a1 69 = a 69 := hag 69 (by decide)
      have ekn : (a 61 t).toNatClampNeg = k := by rw [ek]; exact nI_clamp (by omega)
      have hX1 : a1 64 t = (gsea N (a 69) (nI (T + 1)) (fun t => gway (gfa a (T + 1) t (a 61 t).toNatClampNeg) ls) (a 63) (nI ((T + 1) / 13 % 4)) t (grag N (nI (T + 1)) (gXo a))).1 t := by rw [← hX]
      have stay : ¬ (a1 64 t = 2 ∧ (a1 63 t = 4 ∨ a1 63 t = nI ((T + 1) / 13 % 4))) → gX d 132 127 [some (.ref 44), some (.int (z + 1))] [] (n, u, HP (upd2 w 44 24 (nI (T + 1))) a1 b r q y) Q := by
        intro hno
        refine ih a1 _ hag h70 h73 h13 ?_ (nI_s hz)
        rw [hX]
        conv => rhs; unfold gsea
        rw [if_neg (by rw [← hX1, ← e63]; exact hno)]
      have hfa : gfa a1 (T + 1) t k = gfa a (T + 1) t k := by
        unfold gfa
        rw [e61, e63, hag 62 (by decide), hag 68 (by decide), hag 60 (by decide)]
      have srt : a1 64 t = 2 → (a1 63 t = 4 ∨ a1 63 t = nI ((T + 1) / 13 % 4)) → gX d 132 178 [some (.ref 44), some (.int z)] [] (n, u, HP (upd2 w 44 24 (nI (T + 1))) a1 b r q y) Q := by
        intro h2 h4
        have fin : ∀ s, s < 5 → s = gfst N (a 69) (gXo a1) → gX d 132 184 [some (.ref 44), some (.int z)] [.int (nI s), .int z, .ref 44] (n, u, HP (upd2 w 44 24 (nI (T + 1))) a1 b r q y) Q := by
          intro s hs hsf
          subst hz
          refine r_callV hk [.ref 44, .int (nI t), .int (nI s)] [] rfl rfl rfl rfl rfl rfl rfl (by omega) (m_sorts (w := upd2 w 44 24 (nI (T + 1))) (by omega) hN hN1 rfl (by omega) (by omega) hk8 (by rw [e61]; exact ek) hh hh1 hs (gmText_ag hag (by decide) hls)) ?_
          rintro _ _ ⟨rfl, a2, hag2, hX2, rfl⟩
          iterate 2 refine r_step hk rfl rfl rfl ?_
          refine ih a2 _ (gag_tr hag (gag_sub hag2 (by decide))) (fun j => by rw [hag2 70 (by decide)]; exact h70 j) (by rw [hag2 73 (by decide)]; exact h73) h13 ?_ (nI_1 t)
          rw [hX2, hfa, e69, hsf]
          conv => rhs; unfold gsea
          rw [if_pos (by rw [← hX1, ← e63]; exact ⟨h2, h4⟩), ← hX, ekn]
        iterate 3 refine r_step hk rfl rfl rfl ?_
        refine r_callV hk [.ref 44] [.int z, .ref 44] rfl rfl rfl rfl rfl rfl rfl (by omega) (m_firstWithRoom (w := upd2 w 44 24 (nI (T + 1))) (by omega) hN hN1) ?_
        rintro _ _ ⟨rfl, ⟨s, hs, rfl, hr, ha⟩ | ⟨ha, rfl⟩⟩
        · exact fin s hs (gfst_of hs (by rw [← e69]; exact hr) (fun s' h' => by rw [← e69]; exact ha s' h'))
        · exact fin 0 (by decide) (gfst_no (fun s' h' => by rw [← e69]; exact ha s' h'))
      iterate 4 refine r_step hk rfl rfl rfl ?_
      refine r_ge (fun hq9 => absurd hq9 (show ¬ w 44 25 ≤ z by rw [hz, hN]; exact nI_ge ht (by omega))) (fun _ => ?_)
      iterate 3 refine r_step hk rfl rfl rfl ?_
      refine r_rem hk rfl (by decide) ?_
      refine r_step hk rfl rfl rfl ?_
      refine r_ne (fun hq9 => absurd (show nI (T + 1) - nI (T + 1) / 13 * 13 = 0 by rw [erem, h13]; rfl) hq9) (fun _ => ?_)
      iterate 3 refine r_step hk rfl rfl rfl ?_
      refine r_ia hk (t) rfl rfl hz (by omega) rfl ?_
      iterate 2 refine r_step hk rfl rfl rfl ?_
      refine r_ne (fun h152 => ?_) (fun h152 => ?_)
      · iterate 2 refine r_step hk rfl rfl rfl ?_
        first | exact stay (fun hc => h152 hc.1) | exact stay (fun hc => hc.2.elim h162 h175)
      · iterate 3 refine r_step hk rfl rfl rfl ?_
        refine r_ia hk (t) rfl rfl hz (by omega) rfl ?_
        iterate 2 refine r_step hk rfl rfl rfl ?_
        refine r_eq (fun h162 => ?_) (fun h162 => ?_)
        · first | exact srt h152 (Or.inl h162) | exact srt h152 (Or.inr h175)
        · iterate 3 refine r_step hk rfl rfl rfl ?_
          refine r_ia hk (t) rfl rfl hz (by omega) rfl ?_
          refine r_step hk rfl rfl rfl ?_
          refine r_callV hk [.ref 44] [.int (a1 63 t)] rfl rfl rfl rfl rfl rfl rfl (by omega) (m_seasonNow (w := upd2 w 44 24 (nI (T + 1))) rfl (by omega)) ?_
          rintro _ _ ⟨rfl, rfl⟩
          refine r_step hk rfl rfl rfl ?_
          refine r_ne (fun h175 => ?_) (fun h175 => ?_)
          · iterate 2 refine r_step hk rfl rfl rfl ?_
            first | exact stay (fun hc => h152 hc.1) | exact stay (fun hc => hc.2.elim h162 h175)
          · first | exact srt h152 (Or.inl h162) | exact srt h152 (Or.inr h175)
  -- behind the second loop
  have mid : ∀ (a1 : Nat → Nat → Int32) (z : Int32), gag [64, 70, 73] a a1 → (∀ j, a1 70 j = a 70 j + nI (glc (a 64) (a 65) (a 61) j N)) → a1 73 = gu (a 73) (T / 52) (w 44 39) → gXo a1 = grag N (nI (T + 1)) (gXo a) → gX d 132 125 [some (.ref 44), some (.int z)] [] (n, u, HP (upd2 w 44 24 (nI (T + 1))) a1 b r q y) Q := by
    intro a1 z hag h70 h73 hX
    by_cases h13 : (T + 1) % 13 = 0
    · skip
      iterate 2 refine r_step hk rfl rfl rfl ?_
      exact loop3 0 (Nat.zero_le _) a1 _ (gag_sub hag (by decide)) h70 h73 h13 hX rfl
    · have fin : ∀ L : gL, gX d 132 193 L [] (n, u, HP (upd2 w 44 24 (nI (T + 1))) a1 b r q y) Q := by
        intro L
        refine r_ret hk rfl rfl ?_
        rw [← hQ]
        exact ⟨rfl, a1, gag_sub hag (by decide), h70, h73, by rw [if_neg h13]; exact hX, rfl⟩
      iterate 6 refine r_step hk rfl rfl rfl ?_
      refine r_ge (fun h132 => ?_) (fun h132 => ?_)
      · exact fin _
      · iterate 3 refine r_step hk rfl rfl rfl ?_
        refine r_rem hk rfl (by decide) ?_
        refine r_step hk rfl rfl rfl ?_
        refine r_ne (fun _ => ?_) (fun hq9 => absurd hq9 (show ¬ nI (T + 1) - nI (T + 1) / 13 * 13 = 0 by rw [erem]; exact nI_ne0 (by omega) (by omega)))
        exact fin _
  have loop2 : ∀ (t : Nat), t ≤ N → ∀ (a1 : Nat → Nat → Int32) (z : Int32), gag [64, 70, 73] a a1 → (∀ j, a1 70 j = a 70 j + nI (glc (a 64) (a 65) (a 61) j N)) → a1 73 = gu (a 73) (T / 52) (w 44 39) → a1 64 = (grag t (nI (T + 1)) (gXo a)).1 → z = nI t →
      gX d 132 79 [some (.ref 44), some (.int z)] [] (n, u, HP (upd2 w 44 24 (nI (T + 1))) a1 b r q y) Q := by
    refine g_down ?_ ?_
    · intro a1 z hag h70 h73 h64 hz
      iterate 4 refine r_step hk rfl rfl rfl ?_
      refine r_ge (fun _ => ?_) (fun hq9 => absurd (show w 44 25 ≤ z by rw [hz, hN]; exact nI_le (Nat.le_refl _) (by omega)) hq9)
      exact mid a1 _ hag h70 h73 (by show (a1 64, a1 65, a1 66) = _; rw [h64, hag 65 (by decide), hag 66 (by decide)]; rfl)
    · intro t ht ih a1 z hag h70 h73 h64 hz
      have e66 : a1 66 = a 66 := hag 66 (by decide)
      have e64t : a1 64 t = a 64 t := by rw [h64]; exact grag_t
      iterate 4 refine r_step hk rfl rfl rfl ?_
      refine r_ge (fun hq9 => absurd hq9 (show ¬ w 44 25 ≤ z by rw [hz, hN]; exact nI_ge ht (by omega))) (fun _ => ?_)
      iterate 3 refine r_step hk rfl rfl rfl ?_
      refine r_ia hk (t) rfl rfl hz (by omega) rfl ?_
      iterate 2 refine r_step hk rfl rfl rfl ?_
      refine r_ne (fun h94 => ?_) (fun h94 => ?_)
      · iterate 2 refine r_step hk rfl rfl rfl ?_
        first | exact ih _ _ (gag_up hag (by decide)) (fun j => h70 j) h73 (by rw [gu_row, h64]; exact grag_s (X := gXo a) (N := 0) (e64t.symm.trans h94) (by show ¬ nI (T + 1) - a 66 t < 5; rw [← e66]; exact h109)) (nI_s hz) | exact ih a1 _ hag h70 h73 (by rw [h64]; exact grag_n (X := gXo a) (fun hc => hc.2 (by show nI (T + 1) - a 66 t < 5; rw [← e66]; exact h109))) (nI_s hz) | exact ih a1 _ hag h70 h73 (by rw [h64]; exact grag_n (X := gXo a) (fun hc => h94 (e64t.trans hc.1))) (nI_s hz)
      · iterate 5 refine r_step hk rfl rfl rfl ?_
        refine r_ia hk (t) rfl rfl hz (by omega) rfl ?_
        iterate 3 refine r_step hk rfl rfl rfl ?_
        refine r_lt (fun h109 => ?_) (fun h109 => ?_)
        · iterate 2 refine r_step hk rfl rfl rfl ?_
          first | exact ih _ _ (gag_up hag (by decide)) (fun j => h70 j) h73 (by rw [gu_row, h64]; exact grag_s (X := gXo a) (N := 0) (e64t.symm.trans h94) (by show ¬ nI (T + 1) - a 66 t < 5; rw [← e66]; exact h109)) (nI_s hz) | exact ih a1 _ hag h70 h73 (by rw [h64]; exact grag_n (X := gXo a) (fun hc => hc.2 (by show nI (T + 1) - a 66 t < 5; rw [← e66]; exact h109))) (nI_s hz) | exact ih a1 _ hag h70 h73 (by rw [h64]; exact grag_n (X := gXo a) (fun hc => h94 (e64t.trans hc.1))) (nI_s hz)
        · iterate 4 refine r_step hk rfl rfl rfl ?_
          refine r_is hk (t) rfl rfl rfl hz (by omega) rfl rfl ?_
          iterate 2 refine r_step hk rfl rfl rfl ?_
          first | exact ih _ _ (gag_up hag (by decide)) (fun j => h70 j) h73 (by rw [gu_row, h64]; exact grag_s (X := gXo a) (N := 0) (e64t.symm.trans h94) (by show ¬ nI (T + 1) - a 66 t < 5; rw [← e66]; exact h109)) (nI_s hz) | exact ih a1 _ hag h70 h73 (by rw [h64]; exact grag_n (X := gXo a) (fun hc => hc.2 (by show nI (T + 1) - a 66 t < 5; rw [← e66]; exact h109))) (nI_s hz) | exact ih a1 _ hag h70 h73 (by rw [h64]; exact grag_n (X := gXo a) (fun hc => h94 (e64t.trans hc.1))) (nI_s hz)
  have edv : w 44 24 / 52 = nI (T / 52) := by rw [hT]; exact pk_div (d := 52) (by omega) (by decide) (by decide)
  have loop1 : ∀ (t : Nat), t ≤ N → ∀ (a1 : Nat → Nat → Int32) (z : Int32), gag [70] a a1 → (∀ j, a1 70 j = a 70 j + nI (glc (a 64) (a 65) (a 61) j t)) → z = nI t →
      gX d 132 2 [some (.ref 44), some (.int z)] [] (n, u, HP w a1 b r q y) Q := by
    refine g_down ?_ ?_
    · intro a1 z hag h70 hz
      iterate 4 refine r_step hk rfl rfl rfl ?_
      refine r_ge (fun _ => ?_) (fun hq9 => absurd (show w 44 25 ≤ z by rw [hz, hN]; exact nI_le (Nat.le_refl _) (by omega)) hq9)
      iterate 5 refine r_step hk rfl rfl rfl ?_
      refine r_div hk rfl (by decide) ?_
      iterate 2 refine r_step hk rfl rfl rfl ?_
      refine r_is hk (T / 52) rfl rfl rfl edv (by omega) rfl rfl ?_
      iterate 5 refine r_step hk rfl rfl rfl ?_
      refine r_putI hk rfl rfl rfl rfl ?_
      iterate 2 refine r_step hk rfl rfl rfl ?_
      rw [eT]
      exact loop2 0 (Nat.zero_le _) _ _ (gag_up (gag_sub hag (by decide)) (by decide)) (fun j => h70 j) (by rw [gu_row, hag 73 (by decide)]) (by show a1 64 = _; rw [hag 64 (by decide)]; funext i; simp [grag]) rfl
    · intro t ht ih a1 z hag h70 hz
      have e61 : a1 61 = a 61 := hag 61 (by decide)
      have e64 : a1 64 = a 64 := hag 64 (by decide)
      have e65 : a1 65 = a 65 := hag 65 (by decide)
      obtain ⟨k, hk8, ek⟩ := hkd t ht
      obtain ⟨s, hs5, es⟩ := hsh t ht
      have ekn : (a 61 t).toNatClampNeg = k := by rw [ek]; exact nI_clamp (by omega)
      have esn : (a 65 t).toNatClampNeg = s := by rw [es]; exact nI_clamp (by omega)
      have eix : 8 * a1 65 t + a1 61 t = nI (8 * s + k) := by rw [e65, e61, es, ek]; exact nI_8 s k
      iterate 4 refine r_step hk rfl rfl rfl ?_
      refine r_ge (fun hq9 => absurd hq9 (show ¬ w 44 25 ≤ z by rw [hz, hN]; exact nI_ge ht (by omega))) (fun _ => ?_)
      iterate 3 refine r_step hk rfl rfl rfl ?_
      refine r_ia hk (t) rfl rfl hz (by omega) rfl ?_
      iterate 2 refine r_step hk rfl rfl rfl ?_
      refine r_ne (fun h17 => ?_) (fun h17 => ?_)
      · iterate 2 refine r_step hk rfl rfl rfl ?_
        first | exact ih _ _ (gag_up hag (by decide)) (fun j => glc_s (e64 ▸ h17) (by rw [esn, ekn]) h70 j) (nI_s hz) | exact ih a1 _ hag (fun j => glc_n (e64 ▸ h17) (h70 j)) (nI_s hz)
      · iterate 6 refine r_step hk rfl rfl rfl ?_
        refine r_ia hk (t) rfl rfl hz (by omega) rfl ?_
        iterate 4 refine r_step hk rfl rfl rfl ?_
        refine r_ia hk (t) rfl rfl hz (by omega) rfl ?_
        iterate 2 refine r_step hk rfl rfl rfl ?_
        refine r_ia hk (8 * s + k) rfl rfl eix (by omega) rfl ?_
        iterate 2 refine r_step hk rfl rfl rfl ?_
        refine r_is hk (8 * s + k) rfl rfl rfl eix (by omega) rfl rfl ?_
        iterate 2 refine r_step hk rfl rfl rfl ?_
        first | exact ih _ _ (gag_up hag (by decide)) (fun j => glc_s (e64 ▸ h17) (by rw [esn, ekn]) h70 j) (nI_s hz) | exact ih a1 _ hag (fun j => glc_n (e64 ▸ h17) (h70 j)) (nI_s hz)
  iterate 2 refine r_step hk rfl rfl rfl ?_
  exact loop1 0 (Nat.zero_le _) a _ gag_rf (fun j => (Int32.add_zero _).symm) rfl
end GM7
end
section
/-! ===== the reference: the rest of the calls on things ===== -/
section GSW
variable {d k pc : Nat} {L : gL} {st : List Value} {S : gS} {Q : Option Value → gS → Prop} {row : gR}
theorem r_swI (hk : gMT[k]? = some row) {dd lo hi : Int} {offs : Array Int} {len : Nat} {ax : List Nat} {w0 : Value} {x : Int32} (j : Nat) (hq : glook row.2.2.2.2 pc = some (.tableswitch dd lo hi offs, len, ax, w0)) (hx : x.toInt = lo + j) (hj : lo + j ≤ hi) (h : gX d k (gax ax (j + 1)) L st S Q) : gX d k pc L (.int x :: st) S Q := by
  refine r_step hk hq rfl (pc' := gax ax (j + 1)) ?_ h
  simp only [gstep, gsw]
  rw [if_neg (by omega), show (x.toInt - lo).toNat = j by omega]
theorem r_swD (hk : gMT[k]? = some row) {dd lo hi : Int} {offs : Array Int} {len : Nat} {ax : List Nat} {w0 : Value} {x : Int32} (hq : glook row.2.2.2.2 pc = some (.tableswitch dd lo hi offs, len, ax, w0)) (hx : x.toInt < lo ∨ hi < x.toInt) (h : gX d k (gax ax 0) L st S Q) : gX d k pc L (.int x :: st) S Q := by
  refine r_step hk hq rfl (pc' := gax ax 0) ?_ h
  simp only [gstep, gsw]
  rw [if_pos hx]
theorem r_inQ {as : List Value} (hk : gMT[k]? = some row) (L0 : gL) (hl : (gent as).length ≤ row.2.2.1) (hL : gpad (gent as) row.2.2.1 = L0) (h : ∀ Q' : Option Value → gS → Prop, (∀ v S', Q v S' → Q' v S') → gX d k 0 L0 [] S Q') : gE d k as S Q := ⟨row, hk, hl, by rw [hL]; exact h Q (fun _ _ h => h)⟩
end GSW
section GM8
variable {w a : Nat → Nat → Int32} {b : Nat → Nat → Int64} {r : Nat → Nat → Nat} {q : Nat → Nat → Option Nat} {y : gH} {n u : Nat} {d : Nat}
theorem m_sort (hd : 4 ≤ d) {N T h : Nat} (hN : w 44 25 = nI N) (hN1 : N ≤ 100) (hT : w 44 24 = nI T) (hT1 : T < 1000) (hh : w 44 15 = nI h) (hh1 : h < 2) {ls : List (Nat × List Nat)} (hls : gmText a h ls) (hkd : ∀ t, t < N → gin (a 61 t) 8) (x z : Int32) : gE d 120 [.ref 44, .int x, .int z] (n, u, HP w a b r q y) (fun v S' =>
    (∃ t s k a', t < N ∧ s < 5 ∧ k < 8 ∧ x = nI t ∧ z = nI s ∧ a 61 t = nI k ∧ (a 64 t = 0 ∨ a 64 t = 2 ∨ a 64 t = 4) ∧ gag [58, 59, 64, 65, 66] a a' ∧ gXo a' = gsrt N (a 69) (nI T) (gway (gfa a T t k) ls) (gXo a) t s ∧ v = some (.int (a' 64 t)) ∧ S' = (n, u, HP (gTh w) a' b r q y))
    ∨ ((¬ ∃ t, t < N ∧ x = nI t ∧ gin z 5 ∧ (a 64 t = 0 ∨ a 64 t = 2 ∨ a 64 t = 4)) ∧ v = some (.int (-1)) ∧ S' = (n, u, HP (gTh w) a b r q y))) := by
  have hk : gMT[120]? = some gro_120 := rfl
  refine r_in hk [some (.ref 44), some (.int x), some (.int z)] (Nat.le_of_ble_eq_true rfl) rfl ?_
  generalize hQ : (fun (v : Option Value) (S' : gS) => (∃ t s k a', t < N ∧ s < 5 ∧ k < 8 ∧ x = nI t ∧ z = nI s ∧ a 61 t = nI k ∧ (a 64 t = 0 ∨ a 64 t = 2 ∨ a 64 t = 4) ∧ gag [58, 59, 64, 65, 66] a a' ∧ gXo a' = gsrt N (a 69) (nI T) (gway (gfa a T t k) ls) (gXo a) t s ∧ v = some (.int (a' 64 t)) ∧ S' = (n, u, HP (gTh w) a' b r q y))
    ∨ ((¬ ∃ t, t < N ∧ x = nI t ∧ gin z 5 ∧ (a 64 t = 0 ∨ a 64 t = 2 ∨ a 64 t = 4)) ∧ v = some (.int (-1)) ∧ S' = (n, u, HP (gTh w) a b r q y))) = Q
  have go : ∀ t s, t < N → s < 5 → x = nI t → z = nI s → (a 64 t = 0 ∨ a 64 t = 2 ∨ a 64 t = 4) → gX d 120 51 [some (.ref 44), some (.int x), some (.int z)] [] (n, u, HP (gTh w) a b r q y) Q := by
    intro t s ht hs hx hz hst
    obtain ⟨k, hk8, ek⟩ := hkd t ht
    subst hx; subst hz
    iterate 3 refine r_step hk rfl rfl rfl ?_
    refine r_callV hk [.ref 44, .int (nI t), .int (nI s)] [] rfl rfl rfl rfl rfl rfl rfl (by omega) (m_sorts (w := gTh w) (by omega) hN hN1 hT hT1 (by omega) hk8 ek hh hh1 hs hls) ?_
    rintro _ _ ⟨rfl, a2, hag2, hX2, rfl⟩
    iterate 3 refine r_step hk rfl rfl rfl ?_
    refine r_ia hk (t) rfl rfl rfl (by omega) rfl ?_
    refine r_iret hk rfl trivial ?_
    rw [← hQ]
    exact Or.inl ⟨t, s, k, a2, ht, hs, hk8, rfl, rfl, ek, hst, hag2, hX2, rfl, rfl⟩
  iterate 2 refine r_step hk rfl rfl rfl ?_
  refine r_putI hk rfl rfl rfl rfl ?_
  iterate 2 refine r_step hk rfl rfl rfl ?_
  refine r_callV hk [.ref 44, .int x] [] rfl rfl rfl rfl rfl rfl rfl (by omega) (m_isThing (w := gTh w) hN hN1 x) ?_
  rintro _ _ ⟨⟨⟨t, ht, hx⟩, rfl⟩ | ⟨hs, rfl⟩, rfl⟩
  · refine r_step hk rfl rfl rfl ?_
    refine r_eq (fun hq9 => absurd hq9 (by decide)) (fun _ => ?_)
    refine r_step hk rfl rfl rfl ?_
    refine r_callS hk [.int z] [] rfl rfl rfl rfl rfl (by omega) (m_isShop _ _ _) ?_
    rintro _ _ ⟨⟨⟨s, hs5, hz⟩, rfl⟩ | ⟨hz, rfl⟩, rfl⟩
    · refine r_step hk rfl rfl rfl ?_
      refine r_eq (fun hq9 => absurd hq9 (by decide)) (fun _ => ?_)
      iterate 3 refine r_step hk rfl rfl rfl ?_
      refine r_ia hk (t) rfl rfl hx (by omega) rfl ?_
      refine r_step hk rfl rfl rfl ?_
      refine r_eq (fun h26 => ?_) (fun h26 => ?_)
      · first | exact go t s ht hs5 hx hz (Or.inl h26) | exact go t s ht hs5 hx hz (Or.inr (Or.inl h36)) | exact go t s ht hs5 hx hz (Or.inr (Or.inr h46))
      · iterate 3 refine r_step hk rfl rfl rfl ?_
        refine r_ia hk (t) rfl rfl hx (by omega) rfl ?_
        iterate 2 refine r_step hk rfl rfl rfl ?_
        refine r_eq (fun h36 => ?_) (fun h36 => ?_)
        · first | exact go t s ht hs5 hx hz (Or.inl h26) | exact go t s ht hs5 hx hz (Or.inr (Or.inl h36)) | exact go t s ht hs5 hx hz (Or.inr (Or.inr h46))
        · iterate 3 refine r_step hk rfl rfl rfl ?_
          refine r_ia hk (t) rfl rfl hx (by omega) rfl ?_
          iterate 2 refine r_step hk rfl rfl rfl ?_
          refine r_eq (fun h46 => ?_) (fun h46 => ?_)
          · first | exact go t s ht hs5 hx hz (Or.inl h26) | exact go t s ht hs5 hx hz (Or.inr (Or.inl h36)) | exact go t s ht hs5 hx hz (Or.inr (Or.inr h46))
          · refine r_step hk rfl rfl rfl ?_
            refine r_iret hk rfl trivial ?_
            rw [← hQ]
            first | exact Or.inr ⟨fun ⟨t2, ht2, e2, _, h3⟩ => by have e := nI_inj (hx.symm.trans e2) (by omega) (by omega); subst e; exact h3.elim h26 (fun h4 => h4.elim h36 h46), rfl, rfl⟩ | exact Or.inr ⟨fun ⟨_, _, _, h2, _⟩ => hz h2, rfl, rfl⟩ | exact Or.inr ⟨fun ⟨t2, h2, e2, _, _⟩ => hs ⟨t2, h2, e2⟩, rfl, rfl⟩
    · refine r_step hk rfl rfl rfl ?_
      refine r_eq (fun _ => ?_) (fun hq9 => absurd (by decide) hq9)
      refine r_step hk rfl rfl rfl ?_
      refine r_iret hk rfl trivial ?_
      rw [← hQ]
      first | exact Or.inr ⟨fun ⟨t2, ht2, e2, _, h3⟩ => by have e := nI_inj (hx.symm.trans e2) (by omega) (by omega); subst e; exact h3.elim h26 (fun h4 => h4.elim h36 h46), rfl, rfl⟩ | exact Or.inr ⟨fun ⟨_, _, _, h2, _⟩ => hz h2, rfl, rfl⟩ | exact Or.inr ⟨fun ⟨t2, h2, e2, _, _⟩ => hs ⟨t2, h2, e2⟩, rfl, rfl⟩
  · refine r_step hk rfl rfl rfl ?_
    refine r_eq (fun _ => ?_) (fun hq9 => absurd (by decide) hq9)
    refine r_step hk rfl rfl rfl ?_
    refine r_iret hk rfl trivial ?_
    rw [← hQ]
    first | exact Or.inr ⟨fun ⟨t2, ht2, e2, _, h3⟩ => by have e := nI_inj (hx.symm.trans e2) (by omega) (by omega); subst e; exact h3.elim h26 (fun h4 => h4.elim h36 h46), rfl, rfl⟩ | exact Or.inr ⟨fun ⟨_, _, _, h2, _⟩ => hz h2, rfl, rfl⟩ | exact Or.inr ⟨fun ⟨t2, h2, e2, _, _⟩ => hs ⟨t2, h2, e2⟩, rfl, rfl⟩
theorem m_habit (hd : 1 ≤ d) (x : Int32) : gE d 130 [.ref 44, .int x] (n, u, HP w a b r q y) (fun v S' => S' = (n, u, HP (gTh w) a b r q y) ∧
    ((∃ j, j < 10 ∧ x = nI j ∧ ¬ a 71 j = 0 ∧ v = some (.int (a 72 j * 1000 / a 71 j))) ∨ ((¬ ∃ j, j < 10 ∧ x = nI j ∧ ¬ a 71 j = 0) ∧ v = some (.int (-1))))) := by
  have hk : gMT[130]? = some gro_130 := rfl
  refine r_in hk [some (.ref 44), some (.int x)] (Nat.le_of_ble_eq_true rfl) rfl ?_
  iterate 2 refine r_step hk rfl rfl rfl ?_
  refine r_putI hk rfl rfl rfl rfl ?_
  iterate 3 refine r_step hk rfl rfl rfl ?_
  refine r_callS hk [.int x, .int 0, .int 9] [] rfl rfl rfl rfl rfl hd (m_within _ _ _ 9 (by decide)) ?_
  rintro _ _ ⟨⟨⟨j, hj, rfl⟩, rfl⟩ | ⟨hs, rfl⟩, rfl⟩
  · refine r_step hk rfl rfl rfl ?_
    refine r_eq (fun hq9 => absurd hq9 (by decide)) (fun _ => ?_)
    iterate 3 refine r_step hk rfl rfl rfl ?_
    refine r_ia hk (j) rfl rfl rfl hj rfl ?_
    refine r_step hk rfl rfl rfl ?_
    refine r_ne (fun h21 => ?_) (fun h21 => ?_)
    · iterate 3 refine r_step hk rfl rfl rfl ?_
      refine r_ia hk (j) rfl rfl rfl hj rfl ?_
      iterate 5 refine r_step hk rfl rfl rfl ?_
      refine r_ia hk (j) rfl rfl rfl hj rfl ?_
      refine r_div hk rfl h21 ?_
      refine r_iret hk rfl trivial ?_
      first | exact ⟨rfl, Or.inl ⟨j, hj, rfl, h21, rfl⟩⟩ | exact ⟨rfl, Or.inr ⟨fun ⟨j2, h2, e2, h3⟩ => h3 (by rw [← nI_inj e2 (by omega) (by omega)]; exact h21), rfl⟩⟩ | exact ⟨rfl, Or.inr ⟨fun ⟨j2, h2, e2, h3⟩ => hs ⟨j2, h2, e2⟩, rfl⟩⟩
    · iterate 2 refine r_step hk rfl rfl rfl ?_
      refine r_iret hk rfl trivial ?_
      first | exact ⟨rfl, Or.inl ⟨j, hj, rfl, h21, rfl⟩⟩ | exact ⟨rfl, Or.inr ⟨fun ⟨j2, h2, e2, h3⟩ => h3 (by rw [← nI_inj e2 (by omega) (by omega)]; exact h21), rfl⟩⟩ | exact ⟨rfl, Or.inr ⟨fun ⟨j2, h2, e2, h3⟩ => hs ⟨j2, h2, e2⟩, rfl⟩⟩
  · refine r_step hk rfl rfl rfl ?_
    refine r_eq (fun _ => ?_) (fun hq9 => absurd (by decide) hq9)
    iterate 2 refine r_step hk rfl rfl rfl ?_
    refine r_iret hk rfl trivial ?_
    first | exact ⟨rfl, Or.inl ⟨j, hj, rfl, h21, rfl⟩⟩ | exact ⟨rfl, Or.inr ⟨fun ⟨j2, h2, e2, h3⟩ => h3 (by rw [← nI_inj e2 (by omega) (by omega)]; exact h21), rfl⟩⟩ | exact ⟨rfl, Or.inr ⟨fun ⟨j2, h2, e2, h3⟩ => hs ⟨j2, h2, e2⟩, rfl⟩⟩
end GM8
section GM9
variable {w a : Nat → Nat → Int32} {b : Nat → Nat → Int64} {r : Nat → Nat → Nat} {q : Nat → Nat → Option Nat} {y : gH} {n u : Nat} {d : Nat}
/-- a worth, as the reference writes it -/
def gwo (p : Int32) (s la : Nat) : Int32 := (p.toInt64 * (nI s + 1).toInt64 / (nI s + nI la + 2).toInt64).toInt32
theorem m_worth (hd : 1 ≤ d) {N M : Nat} (hN : w 44 25 = nI N) (hN1 : N ≤ 100) (hM : w 44 41 = nI M) (hM1 : M ≤ 200) (hkd : ∀ t, t < N → gin (a 61 t) 8) (hst : ∀ j, j < M → gin (a 74 j) N) (la : Nat → Nat) (hla : ∀ i, i < 40 → a 70 i = nI (la i) ∧ la i < 100000) (x z : Int32) : gE d 141 [.ref 44, .int x, .int z] (n, u, HP w a b r q y) (fun v S' => S' = (n, u, HP (gTh w) a b r q y) ∧
    ((∃ t k s, t < N ∧ k < 8 ∧ s < 5 ∧ x = nI t ∧ a 61 t = nI k ∧ z = nI s ∧ v = some (.int (gwo (a 68 k) (gcnt (gSo a (nI k) (nI s)) M) (la (8 * s + k))))) ∨ (¬ (gin x N ∧ gin z 5) ∧ v = some (.int (-1))))) := by
  have hk : gMT[141]? = some gro_141 := rfl
  refine r_in hk [some (.ref 44), some (.int x), some (.int z)] (Nat.le_of_ble_eq_true rfl) rfl ?_
  iterate 2 refine r_step hk rfl rfl rfl ?_
  refine r_putI hk rfl rfl rfl rfl ?_
  iterate 2 refine r_step hk rfl rfl rfl ?_
  refine r_callV hk [.ref 44, .int x] [] rfl rfl rfl rfl rfl rfl rfl hd (m_isThing (w := gTh w) hN hN1 x) ?_
  rintro _ _ ⟨⟨⟨t, ht, rfl⟩, rfl⟩ | ⟨hs, rfl⟩, rfl⟩
  · obtain ⟨k, hk8, ek⟩ := hkd t ht
    refine r_step hk rfl rfl rfl ?_
    refine r_eq (fun hq9 => absurd hq9 (by decide)) (fun _ => ?_)
    refine r_step hk rfl rfl rfl ?_
    refine r_callS hk [.int z] [] rfl rfl rfl rfl rfl hd (m_isShop _ _ _) ?_
    rintro _ _ ⟨⟨⟨s, hs5, rfl⟩, rfl⟩ | ⟨hz, rfl⟩, rfl⟩
    · refine r_step hk rfl rfl rfl ?_
      refine r_ne (fun _ => ?_) (fun hq9 => absurd hq9 (by decide))
      iterate 6 refine r_step hk rfl rfl rfl ?_
      refine r_ia hk (t) rfl rfl rfl (by omega) rfl ?_
      refine r_ia hk (k) rfl rfl ek hk8 rfl ?_
      iterate 3 refine r_step hk rfl rfl rfl ?_
      refine r_ia hk (t) rfl rfl rfl (by omega) rfl ?_
      refine r_step hk rfl rfl rfl ?_
      refine r_callV hk [.ref 44, .int (a 68 k), .int (a 61 t), .int (nI s)] [] rfl rfl rfl rfl rfl rfl rfl hd (by rw [ek]; exact m_weighs (w := gTh w) hN1 hM hM1 hst hk8 hs5 (hla (8 * s + k) (by omega)).1 (hla (8 * s + k) (by omega)).2 _) ?_
      rintro _ _ ⟨rfl, rfl⟩
      refine r_iret hk rfl trivial ?_
      first | exact ⟨rfl, Or.inl ⟨t, k, s, ht, hk8, hs5, rfl, ek, rfl, rfl⟩⟩ | exact ⟨rfl, Or.inr ⟨fun h => hz h.2, rfl⟩⟩ | exact ⟨rfl, Or.inr ⟨fun h => hs h.1, rfl⟩⟩
    · refine r_step hk rfl rfl rfl ?_
      refine r_ne (fun hq9 => absurd (by decide) hq9) (fun _ => ?_)
      iterate 2 refine r_step hk rfl rfl rfl ?_
      refine r_iret hk rfl trivial ?_
      first | exact ⟨rfl, Or.inl ⟨t, k, s, ht, hk8, hs5, rfl, ek, rfl, rfl⟩⟩ | exact ⟨rfl, Or.inr ⟨fun h => hz h.2, rfl⟩⟩ | exact ⟨rfl, Or.inr ⟨fun h => hs h.1, rfl⟩⟩
  · refine r_step hk rfl rfl rfl ?_
    refine r_eq (fun _ => ?_) (fun hq9 => absurd (by decide) hq9)
    iterate 2 refine r_step hk rfl rfl rfl ?_
    refine r_iret hk rfl trivial ?_
    first | exact ⟨rfl, Or.inl ⟨t, k, s, ht, hk8, hs5, rfl, ek, rfl, rfl⟩⟩ | exact ⟨rfl, Or.inr ⟨fun h => hz h.2, rfl⟩⟩ | exact ⟨rfl, Or.inr ⟨fun h => hs h.1, rfl⟩⟩
/-- the best shop so far: (shop + 1 or 0, its worth) -/
def gbest (rm : Nat → Prop) [DecidablePred rm] (sh : Int32) (wo : Nat → Int32) : Nat → Int32 × Int32
  | 0 => (-1, 0)
  | s + 1 => if ¬ nI s = sh ∧ rm s ∧ ((gbest rm sh wo s).1 < 0 ∨ (gbest rm sh wo s).2 < wo s) then (nI s, wo s) else gbest rm sh wo s
def gwhere (rm : Nat → Prop) [DecidablePred rm] (sh : Int32) (wo : Nat → Int32) (stay cost : Int32) : Int32 := if ¬ (gbest rm sh wo 5).1 < 0 ∧ cost < (gbest rm sh wo 5).2 - stay then (gbest rm sh wo 5).1 else -1
theorem m_whereTo (hd : 2 ≤ d) {N M : Nat} (hN : w 44 25 = nI N) (hN1 : N ≤ 100) (hM : w 44 41 = nI M) (hM1 : M ≤ 200) (hst : ∀ j, j < M → gin (a 74 j) N) (la : Nat → Nat) (hla : ∀ i, i < 40 → a 70 i = nI (la i) ∧ la i < 100000) {t k s0 : Nat} (ht : t < 100) (hk8 : k < 8) (ek : a 61 t = nI k) (hs0 : s0 < 5) (es : a 65 t = nI s0) :
    gE d 144 [.ref 44, .int (nI t)] (n, u, HP w a b r q y) (gre (gwhere (fun s => nI (gcnt (gOn a 1 (nI s)) N) < a 69 s) (nI s0) (fun s => gwo (a 68 k) (gcnt (gSo a (nI k) (nI s)) M) (la (8 * s + k))) (gwo (gpr (a 68 k) (w 44 24) (a 66 t)) (gcnt (gSo a (nI k) (nI s0)) M) (la (8 * s0 + k))) (w 44 47)) (n, u, HP w a b r q y)) := by
  have hk : gMT[144]? = some gro_144 := rfl
  refine r_in hk [some (.ref 44), some (.int (nI t)), none, none, none, none] (Nat.le_of_ble_eq_true rfl) rfl ?_
  have hwe : ∀ (p : Int32) (s : Nat), s < 5 → gE (d - 1) 142 [.ref 44, .int p, .int (nI k), .int (nI s)] (n, u, HP w a b r q y) (gre (gwo p (gcnt (gSo a (nI k) (nI s)) M) (la (8 * s + k))) (n, u, HP w a b r q y)) := fun p s hs => m_weighs hN1 hM hM1 hst hk8 hs (hla (8 * s + k) (by omega)).1 (hla (8 * s + k) (by omega)).2 p
  have hro : ∀ s : Nat, s < 5 → gE (d - 1) 126 [.ref 44, .int (nI s)] (n, u, HP w a b r q y) (gbo (nI (gcnt (gOn a 1 (nI s)) N) < a 69 s) (n, u, HP w a b r q y)) := fun s hs => m_hasRoom (by omega) hN hN1 hs
  have loop : ∀ s, s ≤ 5 → ∀ (x1 x2 z : Int32) (l5 : Option Value), z = nI s → (x1, x2) = gbest (fun s => nI (gcnt (gOn a 1 (nI s)) N) < a 69 s) (nI s0) (fun s => gwo (a 68 k) (gcnt (gSo a (nI k) (nI s)) M) (la (8 * s + k))) s →
      gX d 144 7 [some (.ref 44), some (.int (nI t)), some (.int x1), some (.int x2), some (.int z), l5] [] (n, u, HP w a b r q y) (gre (gwhere (fun s => nI (gcnt (gOn a 1 (nI s)) N) < a 69 s) (nI s0) (fun s => gwo (a 68 k) (gcnt (gSo a (nI k) (nI s)) M) (la (8 * s + k))) (gwo (gpr (a 68 k) (w 44 24) (a 66 t)) (gcnt (gSo a (nI k) (nI s0)) M) (la (8 * s0 + k))) (w 44 47)) (n, u, HP w a b r q y)) := by
    refine g_down ?_ ?_
    · intro x1 x2 z l5 hz hx
      unfold gwhere
      rw [← hx]
      iterate 3 refine r_step hk rfl rfl rfl ?_
      refine r_ge (fun _ => ?_) (fun hq9 => absurd (show (5 : Int32) ≤ z by rw [hz]; decide) hq9)
      iterate 2 refine r_step hk rfl rfl rfl ?_
      refine r_lt (fun h81 => ?_) (fun h81 => ?_)
      · refine r_step hk rfl rfl rfl ?_
        refine r_iret hk rfl trivial ?_
        refine ⟨congrArg (fun z => some (Value.int z)) ?_, rfl⟩
        first | exact (if_pos ⟨h81, Int32.not_le.mp h111⟩).symm | exact (if_neg (fun hc => Int32.not_lt.mpr h111 hc.2)).symm | exact (if_neg (fun hc => hc.1 h81)).symm
      · iterate 4 refine r_step hk rfl rfl rfl ?_
        refine r_callV hk [.ref 44, .int (nI t)] [.ref 44, .int x2] rfl rfl rfl rfl rfl rfl rfl (by omega) (m_priceOf ht hk8 ek) ?_
        rintro _ _ ⟨rfl, rfl⟩
        iterate 3 refine r_step hk rfl rfl rfl ?_
        refine r_ia hk (t) rfl rfl rfl ht rfl ?_
        iterate 3 refine r_step hk rfl rfl rfl ?_
        refine r_ia hk (t) rfl rfl rfl ht rfl ?_
        refine r_callV hk [.ref 44, .int _, .int (a 61 t), .int (a 65 t)] [.int x2] rfl rfl rfl rfl rfl rfl rfl (by omega) (by rw [ek, es]; exact hwe _ s0 hs0) ?_
        rintro _ _ ⟨rfl, rfl⟩
        iterate 4 refine r_step hk rfl rfl rfl ?_
        refine r_le (fun h111 => ?_) (fun h111 => ?_)
        · refine r_step hk rfl rfl rfl ?_
          refine r_iret hk rfl trivial ?_
          refine ⟨congrArg (fun z => some (Value.int z)) ?_, rfl⟩
          first | exact (if_pos ⟨h81, Int32.not_le.mp h111⟩).symm | exact (if_neg (fun hc => Int32.not_lt.mpr h111 hc.2)).symm | exact (if_neg (fun hc => hc.1 h81)).symm
        · iterate 2 refine r_step hk rfl rfl rfl ?_
          refine r_iret hk rfl trivial ?_
          refine ⟨congrArg (fun z => some (Value.int z)) ?_, rfl⟩
          first | exact (if_pos ⟨h81, Int32.not_le.mp h111⟩).symm | exact (if_neg (fun hc => Int32.not_lt.mpr h111 hc.2)).symm | exact (if_neg (fun hc => hc.1 h81)).symm
    · intro s hs ih x1 x2 z l5 hz hx
      subst hz
      have stay : ¬ (¬ nI s = nI s0 ∧ nI (gcnt (gOn a 1 (nI s)) N) < a 69 s ∧ (x1 < 0 ∨ x2 < gwo (a 68 k) (gcnt (gSo a (nI k) (nI s)) M) (la (8 * s + k)))) → (x1, x2) = gbest (fun s => nI (gcnt (gOn a 1 (nI s)) N) < a 69 s) (nI s0) (fun s => gwo (a 68 k) (gcnt (gSo a (nI k) (nI s)) M) (la (8 * s + k))) (s + 1) := by
        intro hno
        conv => rhs; unfold gbest
        rw [← hx, if_neg hno]
      have tak : (¬ nI s = nI s0 ∧ nI (gcnt (gOn a 1 (nI s)) N) < a 69 s ∧ (x1 < 0 ∨ x2 < gwo (a 68 k) (gcnt (gSo a (nI k) (nI s)) M) (la (8 * s + k)))) → (nI s, gwo (a 68 k) (gcnt (gSo a (nI k) (nI s)) M) (la (8 * s + k))) = gbest (fun s => nI (gcnt (gOn a 1 (nI s)) N) < a 69 s) (nI s0) (fun s => gwo (a 68 k) (gcnt (gSo a (nI k) (nI s)) M) (la (8 * s + k))) (s + 1) := by
        intro hy
        conv => rhs; unfold gbest
        rw [← hx, if_pos hy]
      iterate 3 refine r_step hk rfl rfl rfl ?_
      refine r_ge (fun hq9 => absurd hq9 (show ¬ (5 : Int32) ≤ nI s by exact nI_ge (b := 5) hs (by decide))) (fun _ => ?_)
      iterate 6 refine r_step hk rfl rfl rfl ?_
      refine r_ia hk (t) rfl rfl rfl ht rfl ?_
      refine r_ia hk (k) rfl rfl ek hk8 rfl ?_
      iterate 3 refine r_step hk rfl rfl rfl ?_
      refine r_ia hk (t) rfl rfl rfl ht rfl ?_
      refine r_step hk rfl rfl rfl ?_
      refine r_callV hk [.ref 44, .int (a 68 k), .int (a 61 t), .int (nI s)] [] rfl rfl rfl rfl rfl rfl rfl (by omega) (by rw [ek]; exact hwe _ s hs) ?_
      rintro _ _ ⟨rfl, rfl⟩
      iterate 5 refine r_step hk rfl rfl rfl ?_
      refine r_ia hk (t) rfl rfl rfl ht rfl ?_
      refine r_step hk rfl rfl rfl ?_
      refine r_eq (fun h46 => ?_) (fun h46 => ?_)
      · iterate 2 refine r_step hk rfl rfl rfl ?_
        first | exact ih _ _ _ _ (nI_1 s) (tak ⟨fun e => h46 (e.trans es.symm), hr, Or.inl h59⟩) | exact ih _ _ _ _ (nI_1 s) (stay (fun hc => hc.2.2.elim h59 (Int32.not_lt.mpr h65))) | exact ih _ _ _ _ (nI_1 s) (tak ⟨fun e => h46 (e.trans es.symm), hr, Or.inr (Int32.not_le.mp h65)⟩) | exact ih _ _ _ _ (nI_1 s) (stay (fun hc => hr hc.2.1)) | exact ih _ _ _ _ (nI_1 s) (stay (fun hc => hc.1 (h46.trans es)))
      · iterate 2 refine r_step hk rfl rfl rfl ?_
        refine r_callV hk [.ref 44, .int (nI s)] [] rfl rfl rfl rfl rfl rfl rfl (by omega) (hro s hs) ?_
        rintro _ _ ⟨⟨hr, rfl⟩ | ⟨hr, rfl⟩, rfl⟩
        · refine r_step hk rfl rfl rfl ?_
          refine r_eq (fun hq9 => absurd hq9 (by decide)) (fun _ => ?_)
          iterate 2 refine r_step hk rfl rfl rfl ?_
          refine r_lt (fun h59 => ?_) (fun h59 => ?_)
          · iterate 6 refine r_step hk rfl rfl rfl ?_
            first | exact ih _ _ _ _ (nI_1 s) (tak ⟨fun e => h46 (e.trans es.symm), hr, Or.inl h59⟩) | exact ih _ _ _ _ (nI_1 s) (stay (fun hc => hc.2.2.elim h59 (Int32.not_lt.mpr h65))) | exact ih _ _ _ _ (nI_1 s) (tak ⟨fun e => h46 (e.trans es.symm), hr, Or.inr (Int32.not_le.mp h65)⟩) | exact ih _ _ _ _ (nI_1 s) (stay (fun hc => hr hc.2.1)) | exact ih _ _ _ _ (nI_1 s) (stay (fun hc => hc.1 (h46.trans es)))
          · iterate 3 refine r_step hk rfl rfl rfl ?_
            refine r_le (fun h65 => ?_) (fun h65 => ?_)
            · iterate 2 refine r_step hk rfl rfl rfl ?_
              first | exact ih _ _ _ _ (nI_1 s) (tak ⟨fun e => h46 (e.trans es.symm), hr, Or.inl h59⟩) | exact ih _ _ _ _ (nI_1 s) (stay (fun hc => hc.2.2.elim h59 (Int32.not_lt.mpr h65))) | exact ih _ _ _ _ (nI_1 s) (tak ⟨fun e => h46 (e.trans es.symm), hr, Or.inr (Int32.not_le.mp h65)⟩) | exact ih _ _ _ _ (nI_1 s) (stay (fun hc => hr hc.2.1)) | exact ih _ _ _ _ (nI_1 s) (stay (fun hc => hc.1 (h46.trans es)))
            · iterate 6 refine r_step hk rfl rfl rfl ?_
              first | exact ih _ _ _ _ (nI_1 s) (tak ⟨fun e => h46 (e.trans es.symm), hr, Or.inl h59⟩) | exact ih _ _ _ _ (nI_1 s) (stay (fun hc => hc.2.2.elim h59 (Int32.not_lt.mpr h65))) | exact ih _ _ _ _ (nI_1 s) (tak ⟨fun e => h46 (e.trans es.symm), hr, Or.inr (Int32.not_le.mp h65)⟩) | exact ih _ _ _ _ (nI_1 s) (stay (fun hc => hr hc.2.1)) | exact ih _ _ _ _ (nI_1 s) (stay (fun hc => hc.1 (h46.trans es)))
        · refine r_step hk rfl rfl rfl ?_
          refine r_eq (fun _ => ?_) (fun hq9 => absurd (by decide) hq9)
          iterate 2 refine r_step hk rfl rfl rfl ?_
          first | exact ih _ _ _ _ (nI_1 s) (tak ⟨fun e => h46 (e.trans es.symm), hr, Or.inl h59⟩) | exact ih _ _ _ _ (nI_1 s) (stay (fun hc => hc.2.2.elim h59 (Int32.not_lt.mpr h65))) | exact ih _ _ _ _ (nI_1 s) (tak ⟨fun e => h46 (e.trans es.symm), hr, Or.inr (Int32.not_le.mp h65)⟩) | exact ih _ _ _ _ (nI_1 s) (stay (fun hc => hr hc.2.1)) | exact ih _ _ _ _ (nI_1 s) (stay (fun hc => hc.1 (h46.trans es)))
  iterate 6 refine r_step hk rfl rfl rfl ?_
  exact loop 0 (Nat.zero_le _) _ _ _ _ rfl rfl
theorem gbest_r (rm : Nat → Prop) [DecidablePred rm] (sh : Int32) (wo : Nat → Int32) : ∀ s, (gbest rm sh wo s).1 = -1 ∨ ∃ j, j < s ∧ (gbest rm sh wo s).1 = nI j := by
  intro s
  induction s with
  | zero => exact Or.inl rfl
  | succ s ih =>
    unfold gbest
    split
    · exact Or.inr ⟨s, by omega, rfl⟩
    · rcases ih with h | ⟨j, hj, h⟩
      · exact Or.inl h
      · exact Or.inr ⟨j, by omega, h⟩
theorem gwhere_r (rm : Nat → Prop) [DecidablePred rm] (sh : Int32) (wo : Nat → Int32) (stay cost : Int32) : gwhere rm sh wo stay cost = -1 ∨ gin (gwhere rm sh wo stay cost) 5 := by
  unfold gwhere
  split
  · exact gbest_r rm sh wo 5
  · exact Or.inl rfl
/-- where a thing on a shelf should go, as the reference says it -/
def gwh (W : Nat → Int32) (a : Nat → Nat → Int32) (N M : Nat) (la : Nat → Nat) (t k s0 : Nat) : Int32 := gwhere (fun s => nI (gcnt (gOn a 1 (nI s)) N) < a 69 s) (nI s0) (fun s => gwo (a 68 k) (gcnt (gSo a (nI k) (nI s)) M) (la (8 * s + k))) (gwo (gpr (a 68 k) (W 24) (a 66 t)) (gcnt (gSo a (nI k) (nI s0)) M) (la (8 * s0 + k))) (W 47)
theorem m_where (hd : 3 ≤ d) {N M : Nat} (hN : w 44 25 = nI N) (hN1 : N ≤ 100) (hM : w 44 41 = nI M) (hM1 : M ≤ 200) (hst : ∀ j, j < M → gin (a 74 j) N) (la : Nat → Nat) (hla : ∀ i, i < 40 → a 70 i = nI (la i) ∧ la i < 100000) (hkd : ∀ t, t < N → gin (a 61 t) 8) (hsh : ∀ t, t < N → gin (a 65 t) 5) (x : Int32) :
    gE d 143 [.ref 44, .int x] (n, u, HP w a b r q y) (fun v S' => S' = (n, u, HP (gTh w) a b r q y) ∧
    ((∃ t k s, t < N ∧ k < 8 ∧ s < 5 ∧ x = nI t ∧ a 64 t = 1 ∧ a 61 t = nI k ∧ a 65 t = nI s ∧ v = some (.int (gwh (w 44) a N M la t k s))) ∨ ((¬ ∃ t, t < N ∧ x = nI t ∧ a 64 t = 1) ∧ v = some (.int (-1))))) := by
  have hk : gMT[143]? = some gro_143 := rfl
  refine r_in hk [some (.ref 44), some (.int x)] (Nat.le_of_ble_eq_true rfl) rfl ?_
  iterate 2 refine r_step hk rfl rfl rfl ?_
  refine r_putI hk rfl rfl rfl rfl ?_
  iterate 2 refine r_step hk rfl rfl rfl ?_
  refine r_callV hk [.ref 44, .int x] [] rfl rfl rfl rfl rfl rfl rfl (by omega) (m_isOn (w := gTh w) (by omega) hN hN1 x) ?_
  rintro _ _ ⟨⟨⟨t, ht, rfl, hon⟩, rfl⟩ | ⟨hs, rfl⟩, rfl⟩
  · obtain ⟨⟨k, hk8, hk1⟩, ⟨s, hs5, hs1⟩⟩ := And.intro (hkd t ht) (hsh t ht)
    refine r_step hk rfl rfl rfl ?_
    refine r_eq (fun hq9 => absurd hq9 (by decide)) (fun _ => ?_)
    iterate 2 refine r_step hk rfl rfl rfl ?_
    refine r_callV hk [.ref 44, .int (nI t)] [] rfl rfl rfl rfl rfl rfl rfl (by omega) (m_whereTo (w := gTh w) (by omega) hN hN1 hM hM1 hst la hla (by omega) hk8 hk1 hs5 hs1) ?_
    rintro _ _ ⟨rfl, rfl⟩
    refine r_step hk rfl rfl rfl ?_
    refine r_iret hk rfl trivial ?_
    first | exact ⟨rfl, Or.inl ⟨t, k, s, ht, hk8, hs5, rfl, hon, hk1, hs1, rfl⟩⟩ | exact ⟨rfl, Or.inr ⟨hs, rfl⟩⟩
  · refine r_step hk rfl rfl rfl ?_
    refine r_eq (fun _ => ?_) (fun hq9 => absurd (by decide) hq9)
    refine r_step hk rfl rfl rfl ?_
    refine r_iret hk rfl trivial ?_
    first | exact ⟨rfl, Or.inl ⟨t, k, s, ht, hk8, hs5, rfl, hon, hk1, hs1, rfl⟩⟩ | exact ⟨rfl, Or.inr ⟨hs, rfl⟩⟩
theorem m_move (hd : 3 ≤ d) {N M : Nat} (hN : w 44 25 = nI N) (hN1 : N ≤ 100) (hM : w 44 41 = nI M) (hM1 : M ≤ 200) (hst : ∀ j, j < M → gin (a 74 j) N) (la : Nat → Nat) (hla : ∀ i, i < 40 → a 70 i = nI (la i) ∧ la i < 100000) (hkd : ∀ t, t < N → gin (a 61 t) 8) (hsh : ∀ t, t < N → gin (a 65 t) 5) (x : Int32) :
    gE d 145 [.ref 44, .int x] (n, u, HP w a b r q y) (fun v S' => 
    (∃ t k s s', t < N ∧ k < 8 ∧ s < 5 ∧ s' < 5 ∧ x = nI t ∧ a 64 t = 1 ∧ a 61 t = nI k ∧ a 65 t = nI s ∧ gwh (w 44) a N M la t k s = nI s' ∧ v = some (.int 1) ∧ S' = (n, u, HP (gTh w) (upd2 (upd2 (upd2 (upd2 a 64 t 1) 65 t (nI s')) 66 t (w 44 24)) 67 t (a 67 t + 1)) b r q y))
    ∨ ((¬ ∃ t k s, t < N ∧ k < 8 ∧ s < 5 ∧ x = nI t ∧ a 64 t = 1 ∧ a 61 t = nI k ∧ a 65 t = nI s ∧ ¬ gwh (w 44) a N M la t k s = -1) ∧ v = some (.int 0) ∧ S' = (n, u, HP (gTh w) a b r q y))) := by
  have hk : gMT[145]? = some gro_145 := rfl
  refine r_inQ hk [some (.ref 44), some (.int x), none] (Nat.le_of_ble_eq_true rfl) rfl ?_
  intro Q hQ
  have no : (¬ ∃ t k s, t < N ∧ k < 8 ∧ s < 5 ∧ x = nI t ∧ a 64 t = 1 ∧ a 61 t = nI k ∧ a 65 t = nI s ∧ ¬ gwh (w 44) a N M la t k s = -1) → gX d 145 23 [some (.ref 44), some (.int x), some (.int (-1))] [] (n, u, HP (gTh w) a b r q y) Q := by
    intro hno
    iterate 2 refine r_step hk rfl rfl rfl ?_
    refine r_ge (fun hq9 => absurd hq9 (show ¬ (0 : Int32) ≤ -1 by decide)) (fun _ => ?_)
    refine r_step hk rfl rfl rfl ?_
    refine r_iret hk rfl (Or.inl rfl) ?_
    exact hQ _ _ (Or.inr ⟨hno, rfl, rfl⟩)
  have go : ∀ t k s s2, t < N → k < 8 → s < 5 → s2 < 5 → x = nI t → a 64 t = 1 → a 61 t = nI k → a 65 t = nI s → gwh (w 44) a N M la t k s = nI s2 → gX d 145 23 [some (.ref 44), some (.int x), some (.int (nI s2))] [] (n, u, HP (gTh w) a b r q y) Q := by
    intro t k s s2 ht hk8 hs5 hs2 ex hon hk1 hs1 hgw
    subst ex
    iterate 2 refine r_step hk rfl rfl rfl ?_
    refine r_ge (fun _ => ?_) (fun hq9 => absurd (show (0 : Int32) ≤ nI s2 from nI_pos' (by omega)) hq9)
    iterate 3 refine r_step hk rfl rfl rfl ?_
    refine r_callV hk [.ref 44, .int (nI t), .int (nI s2)] [] rfl rfl rfl rfl rfl rfl rfl (by omega) (m_comesOn (by omega) _) ?_
    rintro _ _ ⟨rfl, rfl⟩
    iterate 4 refine r_step hk rfl rfl rfl ?_
    refine r_ia hk (t) rfl rfl rfl (by omega) rfl ?_
    iterate 2 refine r_step hk rfl rfl rfl ?_
    refine r_is hk (t) rfl rfl rfl rfl (by omega) rfl rfl ?_
    refine r_step hk rfl rfl rfl ?_
    refine r_iret hk rfl (Or.inr rfl) ?_
    exact hQ _ _ (Or.inl ⟨t, k, s, s2, ht, hk8, hs5, hs2, rfl, hon, hk1, hs1, hgw, rfl, rfl⟩)
  iterate 2 refine r_step hk rfl rfl rfl ?_
  refine r_putI hk rfl rfl rfl rfl ?_
  iterate 2 refine r_step hk rfl rfl rfl ?_
  refine r_callV hk [.ref 44, .int x] [] rfl rfl rfl rfl rfl rfl rfl (by omega) (m_isOn (w := gTh w) (by omega) hN hN1 x) ?_
  rintro _ _ ⟨⟨⟨t, ht, ex, hon⟩, rfl⟩ | ⟨hs, rfl⟩, rfl⟩
  · obtain ⟨⟨k, hk8, hk1⟩, ⟨s, hs5, hs1⟩⟩ := And.intro (hkd t ht) (hsh t ht)
    refine r_step hk rfl rfl rfl ?_
    refine r_eq (fun hq9 => absurd hq9 (by decide)) (fun _ => ?_)
    iterate 2 refine r_step hk rfl rfl rfl ?_
    refine r_callV hk [.ref 44, .int x] [] rfl rfl rfl rfl rfl rfl rfl (by omega) (by rw [ex]; exact m_whereTo (w := gTh w) (by omega) hN hN1 hM hM1 hst la hla (by omega) hk8 hk1 hs5 hs1) ?_
    rintro _ _ ⟨rfl, rfl⟩
    have hw0 : gwh (w 44) a N M la t k s = -1 ∨ gin (gwh (w 44) a N M la t k s) 5 := gwhere_r _ _ _ _ _
    change gX d 145 18 _ [.int (gwh (w 44) a N M la t k s)] _ _
    iterate 2 refine r_step hk rfl rfl rfl ?_
    first | exact no (fun ⟨t2, k2, s2, h1, h2, h3, h4, h5, h6, h7, h8⟩ => hs ⟨t2, h1, h4, h5⟩) | (rcases hw0 with hw0 | ⟨s2, hs2, hw0⟩; (rw [hw0]; exact no (fun ⟨t2, k2, s2, h1, h2, h3, h4, h5, h6, h7, h8⟩ => by have e1 := nI_inj (ex.symm.trans h4) (by omega) (by omega); subst e1; have e2 := nI_inj (hk1.symm.trans h6) (by omega) (by omega); subst e2; have e3 := nI_inj (hs1.symm.trans h7) (by omega) (by omega); subst e3; exact h8 hw0)); (rw [hw0]; exact go t k s s2 ht hk8 hs5 hs2 ex hon hk1 hs1 hw0))
  · refine r_step hk rfl rfl rfl ?_
    refine r_eq (fun _ => ?_) (fun hq9 => absurd (by decide) hq9)
    iterate 2 refine r_step hk rfl rfl rfl ?_
    first | exact no (fun ⟨t2, k2, s2, h1, h2, h3, h4, h5, h6, h7, h8⟩ => hs ⟨t2, h1, h4, h5⟩) | (rcases hw0 with hw0 | ⟨s2, hs2, hw0⟩; (rw [hw0]; exact no (fun ⟨t2, k2, s2, h1, h2, h3, h4, h5, h6, h7, h8⟩ => by have e1 := nI_inj (ex.symm.trans h4) (by omega) (by omega); subst e1; have e2 := nI_inj (hk1.symm.trans h6) (by omega) (by omega); subst e2; have e3 := nI_inj (hs1.symm.trans h7) (by omega) (by omega); subst e3; exact h8 hw0)); (rw [hw0]; exact go t k s s2 ht hk8 hs5 hs2 ex hon hk1 hs1 hw0))
end GM9
end
section
/-! ===== the reference: says, weeks, look, count, relief ===== -/
theorem gag_cg {X : List Nat} {a a1 : Nat → Nat → Int32} (h : gag X a a1) (j s : Nat) (x : Int32) : gag X (upd2 a j s x) (upd2 a1 j s x) := by
  intro i hi
  by_cases e : i = j
  · subst e
    funext t
    rw [upd2_at, upd2_at, h i hi]
  · rw [upd2_row _ _ _ _ e, upd2_row _ _ _ _ e]; exact h i hi
theorem gag_sy {X : List Nat} {a a1 : Nat → Nat → Int32} (h : gag X a a1) : gag X a1 a := fun j hj => (h j hj).symm
theorem upd2_id {α : Type} {f : Nat → Nat → α} {j s : Nat} {x : α} (h : f j s = x) : upd2 f j s x = f := by
  funext i t
  by_cases e : i = j
  · subst e; rw [upd2_at]
    by_cases e2 : t = s
    · subst e2; rw [if_pos rfl, h]
    · rw [if_neg e2]
  · rw [upd2_row _ _ _ _ e]
theorem upd2_2 {α : Type} (f : Nat → Nat → α) (j s : Nat) (x z : α) : upd2 (upd2 f j s x) j s z = upd2 f j s z := by
  funext i t
  by_cases e : i = j
  · subst e; rw [upd2_at, upd2_at, upd2_at]
    by_cases e2 : t = s
    · rw [if_pos e2, if_pos e2]
    · rw [if_neg e2, if_neg e2, if_neg e2]
  · rw [upd2_row _ _ _ _ e, upd2_row _ _ _ _ e, upd2_row _ _ _ _ e]
def gwkX (ls : List (Nat × List Nat)) (N T : Nat) (Z : Nat → Nat → Int32) : gP3 := if (T + 1) % 13 = 0 then gsea N (Z 69) (nI (T + 1)) (fun t => gway (gfa Z (T + 1) t (Z 61 t).toNatClampNeg) ls) (Z 63) (nI ((T + 1) / 13 % 4)) N (grag N (nI (T + 1)) (gXo Z)) else grag N (nI (T + 1)) (gXo Z)
/-- a week, in the reference's rows -/
def gwkZ (ls : List (Nat × List Nat)) (N T : Nat) (rate : Int32) (Z : Nat → Nat → Int32) : Nat → Nat → Int32 := fun j => if j = 64 then (gwkX ls N T Z).1 else if j = 65 then (gwkX ls N T Z).2.1 else if j = 66 then (gwkX ls N T Z).2.2 else if j = 70 then (fun i => Z 70 i + nI (glc (Z 64) (Z 65) (Z 61) i N)) else if j = 73 then gu (Z 73) (T / 52) rate else Z j
def gwks (ls : List (Nat × List Nat)) (N : Nat) (rate : Int32) : Nat → Nat → (Nat → Nat → Int32) → Nat → Nat → Int32
  | 0, _, Z => Z
  | k + 1, T, Z => gwks ls N rate k (T + 1) (gwkZ ls N T rate Z)
theorem gfa_ag {Z Z' : Nat → Nat → Int32} {X : List Nat} (h : gag X Z Z') (hX : 60 ∉ X ∧ 61 ∉ X ∧ 62 ∉ X ∧ 63 ∉ X ∧ 68 ∉ X) (T t k : Nat) : gfa Z' T t k = gfa Z T t k := by
  unfold gfa
  rw [h 61 hX.2.1, h 62 hX.2.2.1, h 63 hX.2.2.2.1, h 68 hX.2.2.2.2, h 60 hX.1]
theorem gwkX_ag {ls : List (Nat × List Nat)} {N T : Nat} {Z Z' : Nat → Nat → Int32} (h : gag [58, 59] Z Z') : gwkX ls N T Z' = gwkX ls N T Z := by
  unfold gwkX gXo
  rw [h 69 (by decide), h 63 (by decide), h 64 (by decide), h 65 (by decide), h 66 (by decide), h 61 (by decide)]
  simp only [gfa_ag h (by decide)]
theorem gwkZ_ag {ls : List (Nat × List Nat)} {N T : Nat} {rate : Int32} {Z Z' : Nat → Nat → Int32} (h : gag [58, 59] Z Z') : gag [58, 59] (gwkZ ls N T rate Z) (gwkZ ls N T rate Z') := by
  intro j hj
  unfold gwkZ
  rw [gwkX_ag h, h 70 (by decide), h 64 (by decide), h 65 (by decide), h 61 (by decide), h 73 (by decide), h j hj]
theorem gwks_ag {ls : List (Nat × List Nat)} {N : Nat} {rate : Int32} : ∀ (k T : Nat) {Z Z' : Nat → Nat → Int32}, gag [58, 59] Z Z' → gag [58, 59] (gwks ls N rate k T Z) (gwks ls N rate k T Z') := by
  intro k
  induction k with
  | zero => intro T Z Z' h; exact h
  | succ k ih => intro T Z Z' h; exact ih (T + 1) (gwkZ_ag h)
theorem gsrt_sh {N t s : Nat} {rm : Nat → Int32} {now : Int32} {wy : Nat} {X : gP3} (hs : s < 5) (M : Nat) (h : ∀ t, t < M → gin (X.2.1 t) 5) : ∀ t', t' < M → gin ((gsrt N rm now wy X t s).2.1 t') 5 := by
  intro t' ht'
  unfold gsrt
  split
  · show gin (gu X.2.1 t (nI s) t') 5
    unfold gu
    split
    · exact ⟨s, hs, rfl⟩
    · exact h t' ht'
  · exact h t' ht'
theorem gsea_sh {N : Nat} {rm : Nat → Int32} {now : Int32} {wy : Nat → Nat} {se : Nat → Int32} {ssn : Int32} {X : gP3} (M : Nat) (h : ∀ t, t < M → gin (X.2.1 t) 5) : ∀ k, ∀ t, t < M → gin ((gsea N rm now wy se ssn k X).2.1 t) 5 := by
  intro k
  induction k with
  | zero => exact h
  | succ k ih =>
    unfold gsea
    split
    · exact gsrt_sh (gfst_lt _ _ _) M ih
    · exact ih
theorem gwkX_sh {ls : List (Nat × List Nat)} {N T : Nat} {Z : Nat → Nat → Int32} (M : Nat) (h : ∀ t, t < M → gin (Z 65 t) 5) : ∀ t, t < M → gin ((gwkX ls N T Z).2.1 t) 5 := by
  unfold gwkX
  split
  · exact gsea_sh M h N
  · exact h
theorem gwkZ_o {ls : List (Nat × List Nat)} {N T : Nat} {rate : Int32} {Z : Nat → Nat → Int32} {j : Nat} (h : j ≠ 64 ∧ j ≠ 65 ∧ j ≠ 66 ∧ j ≠ 70 ∧ j ≠ 73) : gwkZ ls N T rate Z j = Z j := by
  unfold gwkZ
  rw [if_neg h.1, if_neg h.2.1, if_neg h.2.2.1, if_neg h.2.2.2.1, if_neg h.2.2.2.2]
theorem gwkZ_g {ls : List (Nat × List Nat)} {N T : Nat} {rate : Int32} {Z : Nat → Nat → Int32} : gag [64, 65, 66, 70, 73] Z (gwkZ ls N T rate Z) := by
  intro j hj
  simp only [List.mem_cons, List.not_mem_nil, or_false, not_or] at hj
  exact gwkZ_o hj
section GM10
variable {w a : Nat → Nat → Int32} {b : Nat → Nat → Int64} {r : Nat → Nat → Nat} {q : Nat → Nat → Option Nat} {y : gH} {n u : Nat} {d : Nat}
theorem m_week' (hd : 4 ≤ d) {N T h : Nat} (hN : w 44 25 = nI N) (hN1 : N ≤ 100) (hT : w 44 24 = nI T) (hT1 : T < 519) (hh : w 44 15 = nI h) (hh1 : h < 2) {ls : List (Nat × List Nat)} (hls : gmText a h ls) (hkd : ∀ t, t < N → gin (a 61 t) 8) (hsh : ∀ t, t < N → gin (a 65 t) 5) :
    gE d 132 [.ref 44] (n, u, HP w a b r q y) (fun v S' => v = none ∧ ∃ a', gag [58, 59] (gwkZ ls N T (w 44 39) a) a' ∧ S' = (n, u, HP (upd2 w 44 24 (nI (T + 1))) a' b r q y)) := by
  refine gE_mono (Nat.le_refl _) (m_week hd hN hN1 hT hT1 hh hh1 hls hkd hsh) ?_
  rintro v S' ⟨rfl, a', hag, h70, h73, hX, rfl⟩
  refine ⟨rfl, a', ?_, rfl⟩
  have hX' : gXo a' = gwkX ls N T a := hX
  intro j hj
  unfold gwkZ
  by_cases e : j = 64
  · subst e; rw [if_pos rfl, ← hX']
  rw [if_neg e]
  by_cases e1 : j = 65
  · subst e1; rw [if_pos rfl, ← hX']
  rw [if_neg e1]
  by_cases e2 : j = 66
  · subst e2; rw [if_pos rfl, ← hX']
  rw [if_neg e2]
  by_cases e3 : j = 70
  · subst e3; rw [if_pos rfl]; funext i; exact h70 i
  rw [if_neg e3]
  by_cases e4 : j = 73
  · subst e4; rw [if_pos rfl]; exact h73
  rw [if_neg e4]
  refine hag j ?_
  simp only [List.mem_cons, List.not_mem_nil, or_false, not_or] at hj ⊢
  exact ⟨hj.1, hj.2, e, e1, e2, e3, e4⟩
theorem m_weeks (hd : 5 ≤ d) {N T h : Nat} (hN : w 44 25 = nI N) (hN1 : N ≤ 100) (hT : w 44 24 = nI T) (hT1 : T ≤ 519) (hh : w 44 15 = nI h) (hh1 : h < 2) {ls : List (Nat × List Nat)} (hls : gmText a h ls) (hkd : ∀ t, t < N → gin (a 61 t) 8) (hsh : ∀ t, t < N → gin (a 65 t) 5) (x : Int32) :
    gE d 131 [.ref 44, .int x] (n, u, HP w a b r q y) (fun v S' => (∃ k a', k < 61 ∧ T + k ≤ 519 ∧ x = nI k ∧ gag [58, 59] (gwks ls N (w 44 39) k T a) a' ∧ v = some (.int (nI (T + k))) ∧ S' = (n, u, HP (upd2 (gTh w) 44 24 (nI (T + k))) a' b r q y))
      ∨ ((¬ ∃ k, k < 61 ∧ T + k ≤ 519 ∧ x = nI k) ∧ v = some (.int (-1)) ∧ S' = (n, u, HP (gTh w) a b r q y))) := by
  have hk : gMT[131]? = some gro_131 := rfl
  refine r_in hk [some (.ref 44), some (.int x), none] (Nat.le_of_ble_eq_true rfl) rfl ?_
  have loop : ∀ (k : Nat), k < 61 → T + k ≤ 519 → ∀ i, i ≤ k → ∀ (a1 : Nat → Nat → Int32) (z : Int32), z = nI i → gag [64, 65, 66, 70, 73, 58, 59] a a1 → (∀ t, t < N → gin (a1 65 t) 5) → gag [58, 59] (gwks ls N (w 44 39) k T a) (gwks ls N (w 44 39) (k - i) (T + i) a1) →
      gX d 131 31 [some (.ref 44), some (.int (nI k)), some (.int z)] [] (n, u, HP (upd2 (gTh w) 44 24 (nI (T + i))) a1 b r q y) (fun v S' => (∃ k' a', k' < 61 ∧ T + k' ≤ 519 ∧ nI k = nI k' ∧ gag [58, 59] (gwks ls N (w 44 39) k' T a) a' ∧ v = some (.int (nI (T + k'))) ∧ S' = (n, u, HP (upd2 (gTh w) 44 24 (nI (T + k'))) a' b r q y))
      ∨ ((¬ ∃ k', k' < 61 ∧ T + k' ≤ 519 ∧ nI k = nI k') ∧ v = some (.int (-1)) ∧ S' = (n, u, HP (gTh w) a b r q y))) := by
    intro k hk61 hTk
    refine g_down ?_ ?_
    · intro a1 z hz hag hs1 hg
      subst hz
      rw [Nat.sub_self] at hg
      iterate 3 refine r_step hk rfl rfl rfl ?_
      refine r_ge (fun _ => ?_) (fun hq9 => absurd (nI_le (Nat.le_refl _) (by omega)) hq9)
      iterate 2 refine r_step hk rfl rfl rfl ?_
      refine r_iret hk rfl trivial ?_
      exact Or.inl ⟨k, a1, hk61, hTk, rfl, hg, rfl, rfl⟩
    · intro i hi ih a1 z hz hag hs1 hg
      subst hz
      have e61 : a1 61 = a 61 := hag 61 (by decide)
      iterate 3 refine r_step hk rfl rfl rfl ?_
      refine r_ge (fun hq9 => absurd hq9 (nI_ge hi (by omega))) (fun _ => ?_)
      refine r_step hk rfl rfl rfl ?_
      refine r_callV hk [.ref 44] [] rfl rfl rfl rfl rfl rfl rfl (by omega) (m_week' (w := upd2 (gTh w) 44 24 (nI (T + i))) (N := N) (T := T + i) (h := h) (ls := ls) (by omega) hN hN1 rfl (by omega) hh hh1 (gmText_ag hag (by decide) hls) (by rw [e61]; exact hkd) hs1) ?_
      rintro _ _ ⟨rfl, a2, hag2, rfl⟩
      rw [upd2_2]
      iterate 2 refine r_step hk rfl rfl rfl ?_
      refine ih a2 _ (nI_1 i) (gag_tr (gag_tr hag (gag_sub gwkZ_g (by decide))) (gag_sub hag2 (by decide))) ?_ ?_
      (intro t ht; rw [hag2 65 (by decide)]; exact gwkX_sh N hs1 t ht)
      refine gag_tr hg ?_
      rw [show k - i = (k - (i + 1)) + 1 by omega]
      exact gwks_ag _ _ hag2
  have hsum : ∀ k, k < 61 → w 44 24 + nI k = nI (T + k) := fun k _ => by rw [hT, nI_add]
  iterate 2 refine r_step hk rfl rfl rfl ?_
  refine r_putI hk rfl rfl rfl rfl ?_
  iterate 2 refine r_step hk rfl rfl rfl ?_
  refine r_lt (fun h6 => ?_) (fun h6 => ?_)
  · refine r_step hk rfl rfl rfl ?_
    refine r_iret hk rfl trivial ?_
    first | exact Or.inr ⟨fun ⟨k, h1, h2, e⟩ => h24 (by subst e; show w 44 24 + nI k ≤ 519; rw [hsum k h1]; exact nI_le h2 (by decide)), rfl, rfl⟩ | exact Or.inr ⟨fun ⟨k, h1, h2, e⟩ => gin_gt (M := 60) h12 (by decide) ⟨k, h1, e⟩, rfl, rfl⟩ | exact Or.inr ⟨fun ⟨k, h1, h2, e⟩ => gin_lt (N := 61) h6 (by decide) ⟨k, h1, e⟩, rfl, rfl⟩
  · iterate 3 refine r_step hk rfl rfl rfl ?_
    refine r_gt (fun h12 => ?_) (fun h12 => ?_)
    · refine r_step hk rfl rfl rfl ?_
      refine r_iret hk rfl trivial ?_
      first | exact Or.inr ⟨fun ⟨k, h1, h2, e⟩ => h24 (by subst e; show w 44 24 + nI k ≤ 519; rw [hsum k h1]; exact nI_le h2 (by decide)), rfl, rfl⟩ | exact Or.inr ⟨fun ⟨k, h1, h2, e⟩ => gin_gt (M := 60) h12 (by decide) ⟨k, h1, e⟩, rfl, rfl⟩ | exact Or.inr ⟨fun ⟨k, h1, h2, e⟩ => gin_lt (N := 61) h6 (by decide) ⟨k, h1, e⟩, rfl, rfl⟩
    · iterate 6 refine r_step hk rfl rfl rfl ?_
      refine r_le (fun h24 => ?_) (fun h24 => ?_)
      · iterate 2 refine r_step hk rfl rfl rfl ?_
        obtain ⟨k, hk61, rfl⟩ := gin_of' (M := 60) h6 h12 (by decide)
        have hle : T + k ≤ 519 := (nI_leI (by omega) (by omega)).mp (show nI (T + k) ≤ nI 519 by rw [← hsum k hk61]; exact h24)
        have hlp := loop k hk61 hle 0 (Nat.zero_le _) a _ rfl gag_rf hsh gag_rf
        rw [Nat.add_zero, upd2_id (f := gTh w) (j := 44) (s := 24) (x := nI T) hT] at hlp
        exact hlp
      · refine r_step hk rfl rfl rfl ?_
        refine r_iret hk rfl trivial ?_
        first | exact Or.inr ⟨fun ⟨k, h1, h2, e⟩ => h24 (by subst e; show w 44 24 + nI k ≤ 519; rw [hsum k h1]; exact nI_le h2 (by decide)), rfl, rfl⟩ | exact Or.inr ⟨fun ⟨k, h1, h2, e⟩ => gin_gt (M := 60) h12 (by decide) ⟨k, h1, e⟩, rfl, rfl⟩ | exact Or.inr ⟨fun ⟨k, h1, h2, e⟩ => gin_lt (N := 61) h6 (by decide) ⟨k, h1, e⟩, rfl, rfl⟩
theorem m_within14 (d : Nat) (S : gS) (x : Int32) : gE d 116 [.int x, .int 1, .int 4] S (gbo (∃ j, 1 ≤ j ∧ j < 5 ∧ x = nI j) S) := by
  have hk : gMT[116]? = some gro_116 := rfl
  refine r_in hk [some (.int x), some (.int 1), some (.int 4)] (Nat.le_of_ble_eq_true rfl) rfl ?_
  have key1 : x < 1 → ¬ ∃ j, 1 ≤ j ∧ j < 5 ∧ x = nI j := by
    rintro h ⟨j, h1, h2, rfl⟩
    have := (nI_ltI (a := j) (b := 1) (by omega) (by omega)).mp h
    omega
  have key2 : (4 : Int32) < x → ¬ ∃ j, 1 ≤ j ∧ j < 5 ∧ x = nI j := by
    rintro h ⟨j, h1, h2, rfl⟩
    have := (nI_ltI (a := 4) (b := j) (by omega) (by omega)).mp h
    omega
  have key3 : ¬ x < 1 → ¬ (4 : Int32) < x → ∃ j, 1 ≤ j ∧ j < 5 ∧ x = nI j := by
    intro h1 h2
    have h0 : ¬ x < 0 := fun h => h1 (by
      have e1 : x.toInt < (0 : Int32).toInt := Int32.lt_iff_toInt_lt.mp h
      refine Int32.lt_iff_toInt_lt.mpr ?_
      have e2 : (0 : Int32).toInt = 0 := by decide
      have e3 : (1 : Int32).toInt = 1 := by decide
      omega)
    obtain ⟨j, hj, rfl⟩ := gin_of' (M := 4) h0 h2 (by decide)
    refine ⟨j, ?_, hj, rfl⟩
    rcases Nat.lt_or_ge j 1 with h | h
    · exact absurd ((nI_ltI (a := j) (b := 1) (by omega) (by omega)).mpr h) h1
    · exact h
  iterate 3 refine r_step hk rfl rfl rfl ?_
  refine r_lt (fun h2 => ?_) (fun h2 => ?_)
  · refine r_step hk rfl rfl rfl ?_
    refine r_iret hk rfl (Or.inl rfl) ?_
    first | exact gbo_t (key3 (by assumption) (by assumption)) | exact gbo_f (key1 (by assumption)) | exact gbo_f (key2 (by assumption))
  · iterate 3 refine r_step hk rfl rfl rfl ?_
    refine r_gt (fun h7 => ?_) (fun h7 => ?_)
    · refine r_step hk rfl rfl rfl ?_
      refine r_iret hk rfl (Or.inl rfl) ?_
      first | exact gbo_t (key3 (by assumption) (by assumption)) | exact gbo_f (key1 (by assumption)) | exact gbo_f (key2 (by assumption))
    · iterate 2 refine r_step hk rfl rfl rfl ?_
      refine r_iret hk rfl (Or.inr rfl) ?_
      first | exact gbo_t (key3 (by assumption) (by assumption)) | exact gbo_f (key1 (by assumption)) | exact gbo_f (key2 (by assumption))
theorem m_says (hd : 2 ≤ d) {N T h : Nat} (hN : w 44 25 = nI N) (hN1 : N ≤ 100) (hT : w 44 24 = nI T) (hT1 : T < 1000) (hh : w 44 15 = nI h) (hh1 : h < 2) {ls : List (Nat × List Nat)} (hls : gmText a h ls) (hkd : ∀ t, t < N → gin (a 61 t) 8) (x1 x2 x3 : Int32) :
    gE d 129 [.ref 44, .int x1, .int x2, .int x3] (n, u, HP w a b r q y) (fun v S' => (∃ i t k j a', i < 10 ∧ t < N ∧ k < 8 ∧ 1 ≤ j ∧ j < 5 ∧ x1 = nI i ∧ x2 = nI t ∧ x3 = nI j ∧ a 61 t = nI k ∧ gag [58, 59] (upd2 (upd2 a 71 i (a 71 i + 1)) 72 i (a 72 i + if j = gway (gfa a T t k) ls then 1 else 0)) a' ∧ v = some (.int (if j = gway (gfa a T t k) ls then 1 else 0)) ∧ S' = (n, u, HP (gTh w) a' b r q y))
      ∨ (¬ (gin x1 10 ∧ gin x2 N ∧ ∃ j, 1 ≤ j ∧ j < 5 ∧ x3 = nI j) ∧ v = some (.int (-1)) ∧ S' = (n, u, HP (gTh w) a b r q y))) := by
  have hk : gMT[129]? = some gro_129 := rfl
  refine r_in hk [some (.ref 44), some (.int x1), some (.int x2), some (.int x3), none] (Nat.le_of_ble_eq_true rfl) rfl ?_
  iterate 2 refine r_step hk rfl rfl rfl ?_
  refine r_putI hk rfl rfl rfl rfl ?_
  iterate 3 refine r_step hk rfl rfl rfl ?_
  refine r_callS hk [.int x1, .int 0, .int 9] [] rfl rfl rfl rfl rfl (by omega) (m_within _ _ _ 9 (by decide)) ?_
  rintro _ _ ⟨⟨⟨i, hi, rfl⟩, rfl⟩ | ⟨hs, rfl⟩, rfl⟩
  · refine r_step hk rfl rfl rfl ?_
    refine r_eq (fun hq9 => absurd hq9 (by decide)) (fun _ => ?_)
    iterate 2 refine r_step hk rfl rfl rfl ?_
    refine r_callV hk [.ref 44, .int x2] [] rfl rfl rfl rfl rfl rfl rfl (by omega) (m_isThing (w := gTh w) hN hN1 x2) ?_
    rintro _ _ ⟨⟨⟨t, ht, rfl⟩, rfl⟩ | ⟨hs, rfl⟩, rfl⟩
    · obtain ⟨k, hk8, ek⟩ := hkd t ht
      refine r_step hk rfl rfl rfl ?_
      refine r_eq (fun hq9 => absurd hq9 (by decide)) (fun _ => ?_)
      iterate 3 refine r_step hk rfl rfl rfl ?_
      refine r_callS hk [.int x3, .int 1, .int 4] [] rfl rfl rfl rfl rfl (by omega) (m_within14 _ _ _) ?_
      rintro _ _ ⟨⟨⟨j, h1, hj, rfl⟩, rfl⟩ | ⟨hs, rfl⟩, rfl⟩
      · refine r_step hk rfl rfl rfl ?_
        refine r_ne (fun _ => ?_) (fun hq9 => absurd hq9 (by decide))
        iterate 3 refine r_step hk rfl rfl rfl ?_
        refine r_callV hk [.ref 44, .int (nI t)] [.int (nI j)] rfl rfl rfl rfl rfl rfl rfl (by omega) (m_wayOf (w := gTh w) (by omega) hT hT1 (by omega) hk8 ek hh hh1 hls) ?_
        rintro _ _ ⟨a1, hag, rfl, rfl⟩
        have hrng := gway_rng (gfa a T t k) ls 0 hls.2.2
        have hq : nI j = nI (gway (gfa a T t k) ls) ↔ j = gway (gfa a T t k) ls := nI_eq (by omega) (by omega)
        have e71 := hag 71 (by decide)
        have e72 := hag 72 (by decide)
        refine r_step hk rfl rfl rfl ?_
        refine r_ne (fun h40 => ?_) (fun h40 => ?_)
        · iterate 6 refine r_step hk rfl rfl rfl ?_
          refine r_ia hk (i) rfl rfl rfl hi rfl ?_
          iterate 2 refine r_step hk rfl rfl rfl ?_
          refine r_is hk (i) rfl rfl rfl rfl hi rfl rfl ?_
          iterate 4 refine r_step hk rfl rfl rfl ?_
          refine r_ia hk (i) rfl rfl rfl hi rfl ?_
          iterate 2 refine r_step hk rfl rfl rfl ?_
          refine r_is hk (i) rfl rfl rfl rfl hi rfl rfl ?_
          refine r_step hk rfl rfl rfl ?_
          refine r_iret hk rfl trivial ?_
          refine Or.inl ⟨i, t, k, j, _, hi, ht, hk8, h1, hj, rfl, rfl, rfl, ek, ?_, ?_, rfl⟩
          first | (rw [if_pos (hq.mp h40), ← e71, ← e72]; exact gag_cg (gag_cg hag _ _ _) _ _ _) | (rw [if_neg (mt hq.mpr h40), ← e71, ← e72]; exact gag_cg (gag_cg hag _ _ _) _ _ _)
          first | rw [if_pos (hq.mp h40)] | rw [if_neg (mt hq.mpr h40)]
        · iterate 7 refine r_step hk rfl rfl rfl ?_
          refine r_ia hk (i) rfl rfl rfl hi rfl ?_
          iterate 2 refine r_step hk rfl rfl rfl ?_
          refine r_is hk (i) rfl rfl rfl rfl hi rfl rfl ?_
          iterate 4 refine r_step hk rfl rfl rfl ?_
          refine r_ia hk (i) rfl rfl rfl hi rfl ?_
          iterate 2 refine r_step hk rfl rfl rfl ?_
          refine r_is hk (i) rfl rfl rfl rfl hi rfl rfl ?_
          refine r_step hk rfl rfl rfl ?_
          refine r_iret hk rfl trivial ?_
          refine Or.inl ⟨i, t, k, j, _, hi, ht, hk8, h1, hj, rfl, rfl, rfl, ek, ?_, ?_, rfl⟩
          first | (rw [if_pos (hq.mp h40), ← e71, ← e72]; exact gag_cg (gag_cg hag _ _ _) _ _ _) | (rw [if_neg (mt hq.mpr h40), ← e71, ← e72]; exact gag_cg (gag_cg hag _ _ _) _ _ _)
          first | rw [if_pos (hq.mp h40)] | rw [if_neg (mt hq.mpr h40)]
      · refine r_step hk rfl rfl rfl ?_
        refine r_ne (fun hq9 => absurd (by decide) hq9) (fun _ => ?_)
        refine r_step hk rfl rfl rfl ?_
        refine r_iret hk rfl trivial ?_
        first | exact Or.inr ⟨fun h => hs h.1, rfl, rfl⟩ | exact Or.inr ⟨fun h => hs h.2.1, rfl, rfl⟩ | exact Or.inr ⟨fun h => hs h.2.2, rfl, rfl⟩
    · refine r_step hk rfl rfl rfl ?_
      refine r_eq (fun _ => ?_) (fun hq9 => absurd (by decide) hq9)
      refine r_step hk rfl rfl rfl ?_
      refine r_iret hk rfl trivial ?_
      first | exact Or.inr ⟨fun h => hs h.1, rfl, rfl⟩ | exact Or.inr ⟨fun h => hs h.2.1, rfl, rfl⟩ | exact Or.inr ⟨fun h => hs h.2.2, rfl, rfl⟩
  · refine r_step hk rfl rfl rfl ?_
    refine r_eq (fun _ => ?_) (fun hq9 => absurd (by decide) hq9)
    refine r_step hk rfl rfl rfl ?_
    refine r_iret hk rfl trivial ?_
    first | exact Or.inr ⟨fun h => hs h.1, rfl, rfl⟩ | exact Or.inr ⟨fun h => hs h.2.1, rfl, rfl⟩ | exact Or.inr ⟨fun h => hs h.2.2, rfl, rfl⟩
/-- what look says, in the reference's rows -/
def glk (a : Nat → Nat → Int32) (T : Nat) (ls : List (Nat × List Nat)) (t k : Nat) : Nat → Int32
  | 0 => a 64 t
  | 1 => if a 64 t = 1 ∨ a 64 t = 5 ∨ a 64 t = 6 then a 65 t else -1
  | 2 => if a 64 t = 1 then a 66 t else -1
  | 3 => a 67 t
  | _ => nI (gway (gfa a T t k) ls)
theorem m_look (hd : 2 ≤ d) {N T h : Nat} (hN : w 44 25 = nI N) (hN1 : N ≤ 100) (hT : w 44 24 = nI T) (hT1 : T < 1000) (hh : w 44 15 = nI h) (hh1 : h < 2) {ls : List (Nat × List Nat)} (hls : gmText a h ls) (hkd : ∀ t, t < N → gin (a 61 t) 8) (x z : Int32) :
    gE d 158 [.ref 44, .int x, .int z] (n, u, HP w a b r q y) (fun v S' => (∃ t k j a', t < N ∧ k < 8 ∧ j < 5 ∧ x = nI t ∧ z = nI j ∧ a 61 t = nI k ∧ gag [58, 59] a a' ∧ v = some (.int (glk a T ls t k j)) ∧ S' = (n, u, HP (gTh w) a' b r q y))
      ∨ (¬ (gin x N ∧ gin z 5) ∧ v = some (.int 0) ∧ S' = (n, u, HP (upd2 w 44 0 1) a b r q y))) := by
  have hk : gMT[158]? = some gro_158 := rfl
  refine r_in hk [some (.ref 44), some (.int x), some (.int z)] (Nat.le_of_ble_eq_true rfl) rfl ?_
  generalize hQ : (fun (v : Option Value) (S' : gS) => (∃ t k j a', t < N ∧ k < 8 ∧ j < 5 ∧ x = nI t ∧ z = nI j ∧ a 61 t = nI k ∧ gag [58, 59] a a' ∧ v = some (.int (glk a T ls t k j)) ∧ S' = (n, u, HP (gTh w) a' b r q y))
      ∨ (¬ (gin x N ∧ gin z 5) ∧ v = some (.int 0) ∧ S' = (n, u, HP (upd2 w 44 0 1) a b r q y))) = Q
  have bad : ¬ (gin x N ∧ gin z 5) → gX d 158 23 [some (.ref 44), some (.int x), some (.int z)] [.int 1, .ref 44] (n, u, HP w a b r q y) Q := by
    intro hno
    refine r_putI hk rfl rfl rfl rfl ?_
    iterate 3 refine r_step hk rfl rfl rfl ?_
    refine r_le (fun hq9 => absurd hq9 (show ¬ upd2 w 44 0 1 44 0 ≤ 0 by rw [upd2_same]; decide)) (fun _ => ?_)
    refine r_step hk rfl rfl rfl ?_
    refine r_iret hk rfl trivial ?_
    rw [← hQ]
    exact Or.inr ⟨hno, rfl, rfl⟩
  have go : ∀ t j, t < N → j < 5 → x = nI t → z = nI j → gX d 158 23 [some (.ref 44), some (.int x), some (.int z)] [.int 0, .ref 44] (n, u, HP w a b r q y) Q := by
    intro t j ht hj hx hz
    obtain ⟨k, hk8, ek⟩ := hkd t ht
    subst hx
    subst hz
    rw [← hQ]
    match j, hj with
    | 0, _ =>
      refine r_putI hk rfl rfl rfl rfl ?_
      iterate 3 refine r_step hk rfl rfl rfl ?_
      refine r_le (fun _ => ?_) (fun hq9 => absurd (show upd2 w 44 0 0 44 0 ≤ 0 by rw [upd2_same]; decide) hq9)
      refine r_step hk rfl rfl rfl ?_
      refine r_swI hk 0 rfl (by decide) (by decide) ?_
      iterate 3 refine r_step hk rfl rfl rfl ?_
      refine r_ia hk (t) rfl rfl rfl (by omega) rfl ?_
      refine r_iret hk rfl trivial ?_
      exact Or.inl ⟨t, k, 0, a, ht, hk8, by decide, rfl, rfl, ek, gag_rf, rfl, rfl⟩
    | 1, _ =>
      refine r_putI hk rfl rfl rfl rfl ?_
      iterate 3 refine r_step hk rfl rfl rfl ?_
      refine r_le (fun _ => ?_) (fun hq9 => absurd (show upd2 w 44 0 0 44 0 ≤ 0 by rw [upd2_same]; decide) hq9)
      refine r_step hk rfl rfl rfl ?_
      refine r_swI hk 1 rfl (by decide) (by decide) ?_
      iterate 3 refine r_step hk rfl rfl rfl ?_
      refine r_ia hk (t) rfl rfl rfl (by omega) rfl ?_
      iterate 2 refine r_step hk rfl rfl rfl ?_
      refine r_eq (fun h82 => ?_) (fun h82 => ?_)
      · iterate 3 refine r_step hk rfl rfl rfl ?_
        refine r_ia hk (t) rfl rfl rfl (by omega) rfl ?_
        refine r_step hk rfl rfl rfl ?_
        refine r_iret hk rfl trivial ?_
        refine Or.inl ⟨t, k, 1, a, ht, hk8, by decide, rfl, rfl, ek, gag_rf, congrArg (fun z => some (Value.int z)) ?_, rfl⟩
        first | exact (if_pos (Or.inl h82)).symm | exact (if_pos (Or.inr (Or.inl h92))).symm | exact (if_pos (Or.inr (Or.inr h103))).symm | exact (if_neg (fun hc => hc.elim h82 (fun hc => hc.elim h92 h103))).symm
      · iterate 3 refine r_step hk rfl rfl rfl ?_
        refine r_ia hk (t) rfl rfl rfl (by omega) rfl ?_
        iterate 2 refine r_step hk rfl rfl rfl ?_
        refine r_eq (fun h92 => ?_) (fun h92 => ?_)
        · iterate 3 refine r_step hk rfl rfl rfl ?_
          refine r_ia hk (t) rfl rfl rfl (by omega) rfl ?_
          refine r_step hk rfl rfl rfl ?_
          refine r_iret hk rfl trivial ?_
          refine Or.inl ⟨t, k, 1, a, ht, hk8, by decide, rfl, rfl, ek, gag_rf, congrArg (fun z => some (Value.int z)) ?_, rfl⟩
          first | exact (if_pos (Or.inl h82)).symm | exact (if_pos (Or.inr (Or.inl h92))).symm | exact (if_pos (Or.inr (Or.inr h103))).symm | exact (if_neg (fun hc => hc.elim h82 (fun hc => hc.elim h92 h103))).symm
        · iterate 3 refine r_step hk rfl rfl rfl ?_
          refine r_ia hk (t) rfl rfl rfl (by omega) rfl ?_
          iterate 2 refine r_step hk rfl rfl rfl ?_
          refine r_ne (fun h103 => ?_) (fun h103 => ?_)
          · refine r_step hk rfl rfl rfl ?_
            refine r_iret hk rfl trivial ?_
            refine Or.inl ⟨t, k, 1, a, ht, hk8, by decide, rfl, rfl, ek, gag_rf, congrArg (fun z => some (Value.int z)) ?_, rfl⟩
            first | exact (if_pos (Or.inl h82)).symm | exact (if_pos (Or.inr (Or.inl h92))).symm | exact (if_pos (Or.inr (Or.inr h103))).symm | exact (if_neg (fun hc => hc.elim h82 (fun hc => hc.elim h92 h103))).symm
          · iterate 3 refine r_step hk rfl rfl rfl ?_
            refine r_ia hk (t) rfl rfl rfl (by omega) rfl ?_
            refine r_step hk rfl rfl rfl ?_
            refine r_iret hk rfl trivial ?_
            refine Or.inl ⟨t, k, 1, a, ht, hk8, by decide, rfl, rfl, ek, gag_rf, congrArg (fun z => some (Value.int z)) ?_, rfl⟩
            first | exact (if_pos (Or.inl h82)).symm | exact (if_pos (Or.inr (Or.inl h92))).symm | exact (if_pos (Or.inr (Or.inr h103))).symm | exact (if_neg (fun hc => hc.elim h82 (fun hc => hc.elim h92 h103))).symm
    | 2, _ =>
      refine r_putI hk rfl rfl rfl rfl ?_
      iterate 3 refine r_step hk rfl rfl rfl ?_
      refine r_le (fun _ => ?_) (fun hq9 => absurd (show upd2 w 44 0 0 44 0 ≤ 0 by rw [upd2_same]; decide) hq9)
      refine r_step hk rfl rfl rfl ?_
      refine r_swI hk 2 rfl (by decide) (by decide) ?_
      iterate 3 refine r_step hk rfl rfl rfl ?_
      refine r_ia hk (t) rfl rfl rfl (by omega) rfl ?_
      iterate 2 refine r_step hk rfl rfl rfl ?_
      refine r_ne (fun h124 => ?_) (fun h124 => ?_)
      · refine r_step hk rfl rfl rfl ?_
        refine r_iret hk rfl trivial ?_
        refine Or.inl ⟨t, k, 2, a, ht, hk8, by decide, rfl, rfl, ek, gag_rf, congrArg (fun z => some (Value.int z)) ?_, rfl⟩
        first | exact (if_pos h124).symm | exact (if_neg h124).symm
      · iterate 3 refine r_step hk rfl rfl rfl ?_
        refine r_ia hk (t) rfl rfl rfl (by omega) rfl ?_
        refine r_step hk rfl rfl rfl ?_
        refine r_iret hk rfl trivial ?_
        refine Or.inl ⟨t, k, 2, a, ht, hk8, by decide, rfl, rfl, ek, gag_rf, congrArg (fun z => some (Value.int z)) ?_, rfl⟩
        first | exact (if_pos h124).symm | exact (if_neg h124).symm
    | 3, _ =>
      refine r_putI hk rfl rfl rfl rfl ?_
      iterate 3 refine r_step hk rfl rfl rfl ?_
      refine r_le (fun _ => ?_) (fun hq9 => absurd (show upd2 w 44 0 0 44 0 ≤ 0 by rw [upd2_same]; decide) hq9)
      refine r_step hk rfl rfl rfl ?_
      refine r_swI hk 3 rfl (by decide) (by decide) ?_
      iterate 3 refine r_step hk rfl rfl rfl ?_
      refine r_ia hk (t) rfl rfl rfl (by omega) rfl ?_
      refine r_iret hk rfl trivial ?_
      exact Or.inl ⟨t, k, 3, a, ht, hk8, by decide, rfl, rfl, ek, gag_rf, rfl, rfl⟩
    | 4, _ =>
      refine r_putI hk rfl rfl rfl rfl ?_
      iterate 3 refine r_step hk rfl rfl rfl ?_
      refine r_le (fun _ => ?_) (fun hq9 => absurd (show upd2 w 44 0 0 44 0 ≤ 0 by rw [upd2_same]; decide) hq9)
      refine r_step hk rfl rfl rfl ?_
      refine r_swD hk rfl (by decide) ?_
      iterate 2 refine r_step hk rfl rfl rfl ?_
      refine r_callV hk [.ref 44, .int (nI t)] [] rfl rfl rfl rfl rfl rfl rfl (by omega) (m_wayOf (w := gTh w) (by omega) hT hT1 (by omega) hk8 ek hh hh1 hls) ?_
      rintro _ _ ⟨a1, hag, rfl, rfl⟩
      refine r_iret hk rfl trivial ?_
      exact Or.inl ⟨t, k, 4, a1, ht, hk8, by decide, rfl, rfl, ek, hag, rfl, rfl⟩
  iterate 3 refine r_step hk rfl rfl rfl ?_
  refine r_callV hk [.ref 44, .int x] [.ref 44] rfl rfl rfl rfl rfl rfl rfl (by omega) (m_isThing hN hN1 x) ?_
  rintro _ _ ⟨⟨⟨t, ht, hx⟩, rfl⟩ | ⟨hs, rfl⟩, rfl⟩
  · refine r_step hk rfl rfl rfl ?_
    refine r_eq (fun hq9 => absurd hq9 (by decide)) (fun _ => ?_)
    iterate 2 refine r_step hk rfl rfl rfl ?_
    refine r_lt (fun h10 => ?_) (fun h10 => ?_)
    · refine r_step hk rfl rfl rfl ?_
      first | exact bad (fun hc => hs hc.1) | exact bad (fun hc => gin_lt h10 (by decide) hc.2) | exact bad (fun hc => gin_gt (M := 4) h15 (by decide) hc.2) | (obtain ⟨j, hj, hz⟩ := gin_of' (M := 4) h10 h15 (by decide); exact go t j ht hj hx hz)
    · iterate 3 refine r_step hk rfl rfl rfl ?_
      refine r_gt (fun h15 => ?_) (fun h15 => ?_)
      · refine r_step hk rfl rfl rfl ?_
        first | exact bad (fun hc => hs hc.1) | exact bad (fun hc => gin_lt h10 (by decide) hc.2) | exact bad (fun hc => gin_gt (M := 4) h15 (by decide) hc.2) | (obtain ⟨j, hj, hz⟩ := gin_of' (M := 4) h10 h15 (by decide); exact go t j ht hj hx hz)
      · iterate 2 refine r_step hk rfl rfl rfl ?_
        first | exact bad (fun hc => hs hc.1) | exact bad (fun hc => gin_lt h10 (by decide) hc.2) | exact bad (fun hc => gin_gt (M := 4) h15 (by decide) hc.2) | (obtain ⟨j, hj, hz⟩ := gin_of' (M := 4) h10 h15 (by decide); exact go t j ht hj hx hz)
  · refine r_step hk rfl rfl rfl ?_
    refine r_eq (fun _ => ?_) (fun hq9 => absurd (by decide) hq9)
    refine r_step hk rfl rfl rfl ?_
    first | exact bad (fun hc => hs hc.1) | exact bad (fun hc => gin_lt h10 (by decide) hc.2) | exact bad (fun hc => gin_gt (M := 4) h15 (by decide) hc.2) | (obtain ⟨j, hj, hz⟩ := gin_of' (M := 4) h10 h15 (by decide); exact go t j ht hj hx hz)
/-- what count says, in the reference's rows -/
def gcou (W : Nat → Int32) (a : Nat → Nat → Int32) (N M h : Nat) : Nat → Int32
  | 0 => W 25
  | 1 => W 24
  | 2 => nI (gcnt (fun j => a 78 j = 0) M)
  | 3 => gsum (fun j => a 78 j = 0) (a 75) M
  | 4 => nI (gcnt (fun t => a 64 t = 1) N)
  | 5 => nI (gcnt (fun t => a 64 t = 2) N)
  | 6 => nI (gcnt (fun t => a 64 t = 3) N)
  | 7 => a 50 h
  | 8 => W 2
  | _ => W 49
theorem gsum_t {p : Nat → Prop} [DecidablePred p] {f : Nat → Int32} {t : Nat} {x : Int32} (hx : x = gsum p f t) (h : p t) : x + f t = gsum p f (t + 1) := by
  simp only [gsum, if_pos h]
  rw [hx]
theorem gsum_f {p : Nat → Prop} [DecidablePred p] {f : Nat → Int32} {t : Nat} {x : Int32} (hx : x = gsum p f t) (h : ¬ p t) : x + 0 = gsum p f (t + 1) := by
  simp only [gsum, if_neg h]
  rw [hx]
theorem m_count (hd : 1 ≤ d) {N M h : Nat} (hN : w 44 25 = nI N) (hN1 : N ≤ 100) (hM : w 44 41 = nI M) (hM1 : M ≤ 200) (hh : w 44 15 = nI h) (hh1 : h < 2) (x : Int32) :
    gE d 159 [.ref 44, .int x] (n, u, HP w a b r q y) (fun v S' => S' = (n, u, HP (gTh w) a b r q y) ∧ ((∃ j, j < 10 ∧ x = nI j ∧ v = some (.int (gcou (w 44) a N M h j))) ∨ (¬ gin x 10 ∧ v = some (.int (-1))))) := by
  have hk : gMT[159]? = some gro_159 := rfl
  refine r_in hk [some (.ref 44), some (.int x), none, none, none] (Nat.le_of_ble_eq_true rfl) rfl ?_
  have sw : ∀ (L4 : Option Value), gX d 159 69 [some (.ref 44), some (.int x), some (.int (nI (gcnt (fun j => a 78 j = 0) M))), some (.int (gsum (fun j => a 78 j = 0) (a 75) M)), L4] [] (n, u, HP (gTh w) a b r q y) (fun v S' => S' = (n, u, HP (gTh w) a b r q y) ∧ ((∃ j, j < 10 ∧ x = nI j ∧ v = some (.int (gcou (w 44) a N M h j))) ∨ (¬ gin x 10 ∧ v = some (.int (-1))))) := by
    intro L4
    have hth : ∀ s : Int32, gE (d - 1) 160 [.ref 44, .int s] (n, u, HP (gTh w) a b r q y) (gre (nI (gcnt (fun t => a 64 t = s) N)) (n, u, HP (gTh w) a b r q y)) := fun s => m_thingsThat (w := gTh w) hN hN1 s
    by_cases hx : gin x 10
    · obtain ⟨j, hj, rfl⟩ := hx
      match j, hj with
      | 0, _ =>
        refine r_step hk rfl rfl rfl ?_
        refine r_swI hk 0 rfl (by decide) (by decide) ?_
        iterate 2 refine r_step hk rfl rfl rfl ?_
        refine r_iret hk rfl trivial ?_
        exact ⟨rfl, Or.inl ⟨0, by decide, rfl, rfl⟩⟩
      | 1, _ =>
        refine r_step hk rfl rfl rfl ?_
        refine r_swI hk 1 rfl (by decide) (by decide) ?_
        iterate 2 refine r_step hk rfl rfl rfl ?_
        refine r_iret hk rfl trivial ?_
        exact ⟨rfl, Or.inl ⟨1, by decide, rfl, rfl⟩⟩
      | 2, _ =>
        refine r_step hk rfl rfl rfl ?_
        refine r_swI hk 2 rfl (by decide) (by decide) ?_
        refine r_step hk rfl rfl rfl ?_
        refine r_iret hk rfl trivial ?_
        exact ⟨rfl, Or.inl ⟨2, by decide, rfl, rfl⟩⟩
      | 3, _ =>
        refine r_step hk rfl rfl rfl ?_
        refine r_swI hk 3 rfl (by decide) (by decide) ?_
        refine r_step hk rfl rfl rfl ?_
        refine r_iret hk rfl trivial ?_
        exact ⟨rfl, Or.inl ⟨3, by decide, rfl, rfl⟩⟩
      | 4, _ =>
        refine r_step hk rfl rfl rfl ?_
        refine r_swI hk 4 rfl (by decide) (by decide) ?_
        iterate 2 refine r_step hk rfl rfl rfl ?_
        refine r_callV hk [.ref 44, .int 1] [] rfl rfl rfl rfl rfl rfl rfl (by omega) (hth 1) ?_
        rintro _ _ ⟨rfl, rfl⟩
        refine r_iret hk rfl trivial ?_
        exact ⟨rfl, Or.inl ⟨4, by decide, rfl, rfl⟩⟩
      | 5, _ =>
        refine r_step hk rfl rfl rfl ?_
        refine r_swI hk 5 rfl (by decide) (by decide) ?_
        iterate 2 refine r_step hk rfl rfl rfl ?_
        refine r_callV hk [.ref 44, .int 2] [] rfl rfl rfl rfl rfl rfl rfl (by omega) (hth 2) ?_
        rintro _ _ ⟨rfl, rfl⟩
        refine r_iret hk rfl trivial ?_
        exact ⟨rfl, Or.inl ⟨5, by decide, rfl, rfl⟩⟩
      | 6, _ =>
        refine r_step hk rfl rfl rfl ?_
        refine r_swI hk 6 rfl (by decide) (by decide) ?_
        iterate 2 refine r_step hk rfl rfl rfl ?_
        refine r_callV hk [.ref 44, .int 3] [] rfl rfl rfl rfl rfl rfl rfl (by omega) (hth 3) ?_
        rintro _ _ ⟨rfl, rfl⟩
        refine r_iret hk rfl trivial ?_
        exact ⟨rfl, Or.inl ⟨6, by decide, rfl, rfl⟩⟩
      | 7, _ =>
        refine r_step hk rfl rfl rfl ?_
        refine r_swI hk 7 rfl (by decide) (by decide) ?_
        iterate 4 refine r_step hk rfl rfl rfl ?_
        refine r_ia hk (h) rfl rfl hh hh1 rfl ?_
        refine r_iret hk rfl trivial ?_
        exact ⟨rfl, Or.inl ⟨7, by decide, rfl, rfl⟩⟩
      | 8, _ =>
        refine r_step hk rfl rfl rfl ?_
        refine r_swI hk 8 rfl (by decide) (by decide) ?_
        iterate 2 refine r_step hk rfl rfl rfl ?_
        refine r_iret hk rfl trivial ?_
        exact ⟨rfl, Or.inl ⟨8, by decide, rfl, rfl⟩⟩
      | 9, _ =>
        refine r_step hk rfl rfl rfl ?_
        refine r_swI hk 9 rfl (by decide) (by decide) ?_
        iterate 2 refine r_step hk rfl rfl rfl ?_
        refine r_iret hk rfl trivial ?_
        exact ⟨rfl, Or.inl ⟨9, by decide, rfl, rfl⟩⟩
    · have hsd : x.toInt < 0 ∨ 9 < x.toInt := by
        by_cases h0 : x < 0
        · exact Or.inl (Int32.lt_iff_toInt_lt.mp h0)
        · by_cases h9 : nI 9 < x
          · exact Or.inr (Int32.lt_iff_toInt_lt.mp h9)
          · exact absurd (gin_of' (M := 9) h0 h9 (by decide)) hx
      refine r_step hk rfl rfl rfl ?_
      refine r_swD hk rfl hsd ?_
      refine r_step hk rfl rfl rfl ?_
      refine r_iret hk rfl trivial ?_
      exact ⟨rfl, Or.inr ⟨hx, rfl⟩⟩
  have loop : ∀ t, t ≤ M → ∀ x2 x3 z : Int32, x2 = nI (gcnt (fun j => a 78 j = 0) t) → x3 = gsum (fun j => a 78 j = 0) (a 75) t → z = nI t → gX d 159 12 [some (.ref 44), some (.int x), some (.int x2), some (.int x3), some (.int z)] [] (n, u, HP (gTh w) a b r q y) (fun v S' => S' = (n, u, HP (gTh w) a b r q y) ∧ ((∃ j, j < 10 ∧ x = nI j ∧ v = some (.int (gcou (w 44) a N M h j))) ∨ (¬ gin x 10 ∧ v = some (.int (-1))))) := by
    refine g_down ?_ ?_
    · intro x2 x3 z hx2 hx3 hz
      subst hx2
      subst hx3
      iterate 4 refine r_step hk rfl rfl rfl ?_
      refine r_ge (fun _ => ?_) (fun hq9 => absurd (show w 44 41 ≤ z by rw [hz, hM]; exact nI_le (Nat.le_refl _) (by omega)) hq9)
      exact sw _
    · intro t ht ih x2 x3 z hx2 hx3 hz
      by_cases hv : a 78 t = 0
      · skip
        iterate 4 refine r_step hk rfl rfl rfl ?_
        refine r_ge (fun hq9 => absurd hq9 (show ¬ w 44 41 ≤ z by rw [hz, hM]; exact nI_ge ht (by omega))) (fun _ => ?_)
        iterate 4 refine r_step hk rfl rfl rfl ?_
        refine r_za hk (t) rfl rfl hz (by omega) rfl ?_
        refine r_step hk rfl rfl rfl ?_
        refine r_eq (fun _ => ?_) (fun hq9 => absurd hv hq9)
        iterate 7 refine r_step hk rfl rfl rfl ?_
        refine r_za hk (t) rfl rfl hz (by omega) rfl ?_
        refine r_step hk rfl rfl rfl ?_
        refine r_eq (fun _ => ?_) (fun hq9 => absurd hv hq9)
        iterate 3 refine r_step hk rfl rfl rfl ?_
        refine r_ia hk (t) rfl rfl hz (by omega) rfl ?_
        iterate 4 refine r_step hk rfl rfl rfl ?_
        exact ih _ _ _ (gcnt_t (p := fun j => a 78 j = 0) hx2 hv) (gsum_t (p := fun j => a 78 j = 0) (f := a 75) hx3 hv) (nI_s hz)
      · skip
        iterate 4 refine r_step hk rfl rfl rfl ?_
        refine r_ge (fun hq9 => absurd hq9 (show ¬ w 44 41 ≤ z by rw [hz, hM]; exact nI_ge ht (by omega))) (fun _ => ?_)
        iterate 4 refine r_step hk rfl rfl rfl ?_
        refine r_za hk (t) rfl rfl hz (by omega) rfl ?_
        refine r_step hk rfl rfl rfl ?_
        refine r_eq (fun hq9 => absurd hq9 hv) (fun _ => ?_)
        iterate 8 refine r_step hk rfl rfl rfl ?_
        refine r_za hk (t) rfl rfl hz (by omega) rfl ?_
        refine r_step hk rfl rfl rfl ?_
        refine r_eq (fun hq9 => absurd hq9 hv) (fun _ => ?_)
        iterate 6 refine r_step hk rfl rfl rfl ?_
        exact ih _ _ _ (gcnt_f (p := fun j => a 78 j = 0) hx2 hv) (gsum_f (p := fun j => a 78 j = 0) (f := a 75) hx3 hv) (nI_s hz)
  iterate 2 refine r_step hk rfl rfl rfl ?_
  refine r_putI hk rfl rfl rfl rfl ?_
  iterate 6 refine r_step hk rfl rfl rfl ?_
  exact loop 0 (Nat.zero_le _) _ _ _ rfl rfl rfl
/-- the sales that hold, of a giver in a year -/
abbrev gRe (a : Nat → Nat → Int32) (g yr : Int32) : Nat → Prop := fun j => a 78 j = 0 ∧ a 60 (a 74 j).toNatClampNeg = g ∧ a 77 j / 52 = yr
theorem m_relief (hd : 1 ≤ d) {N M T : Nat} (hN1 : N ≤ 100) (hM : w 44 41 = nI M) (hM1 : M ≤ 200) (hT : w 44 24 = nI T) (hT1 : T ≤ 519) (hst : ∀ j, j < M → gin (a 74 j) N) (x z : Int32) :
    gE d 157 [.ref 44, .int x, .int z] (n, u, HP w a b r q y) (fun v S' => S' = (n, u, HP (gTh w) a b r q y) ∧ ((∃ g yr, g < 20 ∧ yr < T / 52 + 1 ∧ x = nI g ∧ z = nI yr ∧ v = some (.int (gsum (gRe a x z) (a 75) M * (if yr = T / 52 then w 44 39 else a 73 yr) / 100))) ∨ (¬ (gin x 20 ∧ gin z (T / 52 + 1)) ∧ v = some (.int (-1))))) := by
  have hk : gMT[157]? = some gro_157 := rfl
  refine r_in hk [some (.ref 44), some (.int x), some (.int z), none, none] (Nat.le_of_ble_eq_true rfl) rfl ?_
  have edv : w 44 24 / 52 = nI (T / 52) := by rw [hT]; exact pk_div (d := 52) (by omega) (by decide) (by decide)
  have loop : ∀ g yr, g < 20 → yr < T / 52 + 1 → x = nI g → z = nI yr → ∀ t, t ≤ M → ∀ x3 c : Int32, x3 = gsum (gRe a x z) (a 75) t → c = nI t → gX d 157 37 [some (.ref 44), some (.int x), some (.int z), some (.int x3), some (.int c)] [] (n, u, HP (gTh w) a b r q y) (fun v S' => S' = (n, u, HP (gTh w) a b r q y) ∧ ((∃ g yr, g < 20 ∧ yr < T / 52 + 1 ∧ x = nI g ∧ z = nI yr ∧ v = some (.int (gsum (gRe a x z) (a 75) M * (if yr = T / 52 then w 44 39 else a 73 yr) / 100))) ∨ (¬ (gin x 20 ∧ gin z (T / 52 + 1)) ∧ v = some (.int (-1))))) := by
    intro g yr hg hyr ex ez
    refine g_down ?_ ?_
    · intro x3 c hx3 hc
      subst hx3
      iterate 4 refine r_step hk rfl rfl rfl ?_
      refine r_ge (fun _ => ?_) (fun hq9 => absurd (show w 44 41 ≤ c by rw [hc, hM]; exact nI_le (Nat.le_refl _) (by omega)) hq9)
      iterate 5 refine r_step hk rfl rfl rfl ?_
      refine r_div hk rfl (by decide) ?_
      refine r_step hk rfl rfl rfl ?_
      refine r_ne (fun h115 => ?_) (fun h115 => ?_)
      · iterate 3 refine r_step hk rfl rfl rfl ?_
        refine r_ia hk (yr) rfl rfl ez (by omega) rfl ?_
        iterate 2 refine r_step hk rfl rfl rfl ?_
        refine r_div hk rfl (by decide) ?_
        refine r_iret hk rfl trivial ?_
        refine ⟨rfl, Or.inl ⟨g, yr, hg, hyr, ex, ez, congrArg (fun z => some (Value.int z)) ?_⟩⟩
        have hyy : z = w 44 24 / 52 ↔ yr = T / 52 := by rw [ez, edv]; exact nI_eq (by omega) (by omega)
        first | (rw [if_pos (hyy.mp h115)]; rfl) | (rw [if_neg (mt hyy.mpr h115)]; rfl) | rw [if_pos (hyy.mp h115)] | rw [if_neg (mt hyy.mpr h115)]
      · iterate 5 refine r_step hk rfl rfl rfl ?_
        refine r_div hk rfl (by decide) ?_
        refine r_iret hk rfl trivial ?_
        refine ⟨rfl, Or.inl ⟨g, yr, hg, hyr, ex, ez, congrArg (fun z => some (Value.int z)) ?_⟩⟩
        have hyy : z = w 44 24 / 52 ↔ yr = T / 52 := by rw [ez, edv]; exact nI_eq (by omega) (by omega)
        first | (rw [if_pos (hyy.mp h115)]; rfl) | (rw [if_neg (mt hyy.mpr h115)]; rfl) | rw [if_pos (hyy.mp h115)] | rw [if_neg (mt hyy.mpr h115)]
    · intro t ht ih x3 c hx3 hc
      obtain ⟨t2, ht2, e2⟩ := hst t ht
      have e3 : (a 74 t).toNatClampNeg = t2 := by rw [e2]; exact nI_clamp (by omega)
      iterate 4 refine r_step hk rfl rfl rfl ?_
      refine r_ge (fun hq9 => absurd hq9 (show ¬ w 44 41 ≤ c by rw [hc, hM]; exact nI_ge ht (by omega))) (fun _ => ?_)
      iterate 4 refine r_step hk rfl rfl rfl ?_
      refine r_za hk (t) rfl rfl hc (by omega) rfl ?_
      refine r_step hk rfl rfl rfl ?_
      refine r_ne (fun h54 => ?_) (fun h54 => ?_)
      · iterate 5 refine r_step hk rfl rfl rfl ?_
        exact ih _ _ (by first | exact gsum_f (p := gRe a x z) (f := a 75) hx3 (fun hq => h54 hq.1) | exact gsum_f (p := gRe a x z) (f := a 75) hx3 (fun hq => h70 (by rw [← e3]; exact hq.2.1)) | exact gsum_f (p := gRe a x z) (f := a 75) hx3 (fun hq => h84 hq.2.2) | exact gsum_t (p := gRe a x z) (f := a 75) hx3 ⟨h54, by rw [e3]; exact h70, h84⟩) (nI_s hc)
      · iterate 5 refine r_step hk rfl rfl rfl ?_
        refine r_ia hk (t) rfl rfl hc (by omega) rfl ?_
        refine r_ia hk (t2) rfl rfl e2 (by omega) rfl ?_
        iterate 2 refine r_step hk rfl rfl rfl ?_
        refine r_ne (fun h70 => ?_) (fun h70 => ?_)
        · iterate 5 refine r_step hk rfl rfl rfl ?_
          exact ih _ _ (by first | exact gsum_f (p := gRe a x z) (f := a 75) hx3 (fun hq => h54 hq.1) | exact gsum_f (p := gRe a x z) (f := a 75) hx3 (fun hq => h70 (by rw [← e3]; exact hq.2.1)) | exact gsum_f (p := gRe a x z) (f := a 75) hx3 (fun hq => h84 hq.2.2) | exact gsum_t (p := gRe a x z) (f := a 75) hx3 ⟨h54, by rw [e3]; exact h70, h84⟩) (nI_s hc)
        · iterate 3 refine r_step hk rfl rfl rfl ?_
          refine r_ia hk (t) rfl rfl hc (by omega) rfl ?_
          refine r_step hk rfl rfl rfl ?_
          refine r_div hk rfl (by decide) ?_
          iterate 2 refine r_step hk rfl rfl rfl ?_
          refine r_ne (fun h84 => ?_) (fun h84 => ?_)
          · iterate 5 refine r_step hk rfl rfl rfl ?_
            exact ih _ _ (by first | exact gsum_f (p := gRe a x z) (f := a 75) hx3 (fun hq => h54 hq.1) | exact gsum_f (p := gRe a x z) (f := a 75) hx3 (fun hq => h70 (by rw [← e3]; exact hq.2.1)) | exact gsum_f (p := gRe a x z) (f := a 75) hx3 (fun hq => h84 hq.2.2) | exact gsum_t (p := gRe a x z) (f := a 75) hx3 ⟨h54, by rw [e3]; exact h70, h84⟩) (nI_s hc)
          · iterate 3 refine r_step hk rfl rfl rfl ?_
            refine r_ia hk (t) rfl rfl hc (by omega) rfl ?_
            iterate 5 refine r_step hk rfl rfl rfl ?_
            exact ih _ _ (by first | exact gsum_f (p := gRe a x z) (f := a 75) hx3 (fun hq => h54 hq.1) | exact gsum_f (p := gRe a x z) (f := a 75) hx3 (fun hq => h70 (by rw [← e3]; exact hq.2.1)) | exact gsum_f (p := gRe a x z) (f := a 75) hx3 (fun hq => h84 hq.2.2) | exact gsum_t (p := gRe a x z) (f := a 75) hx3 ⟨h54, by rw [e3]; exact h70, h84⟩) (nI_s hc)
  iterate 2 refine r_step hk rfl rfl rfl ?_
  refine r_putI hk rfl rfl rfl rfl ?_
  iterate 3 refine r_step hk rfl rfl rfl ?_
  refine r_callS hk [.int x, .int 0, .int 19] [] rfl rfl rfl rfl rfl hd (m_within _ _ _ 19 (by decide)) ?_
  rintro _ _ ⟨⟨⟨g, hg, ex⟩, rfl⟩ | ⟨hs, rfl⟩, rfl⟩
  · refine r_step hk rfl rfl rfl ?_
    refine r_eq (fun hq9 => absurd hq9 (by decide)) (fun _ => ?_)
    iterate 5 refine r_step hk rfl rfl rfl ?_
    refine r_div hk rfl (by decide) ?_
    refine r_callS hk [.int z, .int 0, .int (w 44 24 / 52)] [] rfl rfl rfl rfl rfl hd (by rw [edv]; exact m_within _ _ _ (T / 52) (by omega)) ?_
    rintro _ _ ⟨⟨⟨yr, hyr, ez⟩, rfl⟩ | ⟨hs, rfl⟩, rfl⟩
    · refine r_step hk rfl rfl rfl ?_
      refine r_ne (fun _ => ?_) (fun hq9 => absurd hq9 (by decide))
      iterate 4 refine r_step hk rfl rfl rfl ?_
      exact loop g yr hg hyr ex ez 0 (Nat.zero_le _) _ _ rfl rfl
    · refine r_step hk rfl rfl rfl ?_
      refine r_ne (fun hq9 => absurd (by decide) hq9) (fun _ => ?_)
      refine r_step hk rfl rfl rfl ?_
      refine r_iret hk rfl trivial ?_
      first | exact ⟨rfl, Or.inr ⟨fun h => hs h.1, rfl⟩⟩ | exact ⟨rfl, Or.inr ⟨fun h => hs h.2, rfl⟩⟩
  · refine r_step hk rfl rfl rfl ?_
    refine r_eq (fun _ => ?_) (fun hq9 => absurd (by decide) hq9)
    refine r_step hk rfl rfl rfl ?_
    refine r_iret hk rfl trivial ?_
    first | exact ⟨rfl, Or.inr ⟨fun h => hs h.1, rfl⟩⟩ | exact ⟨rfl, Or.inr ⟨fun h => hs h.2, rfl⟩⟩
end GM10
end
section
-- deps:
/-! ===== bits (the rows of laws/BITS.to-paste), sums, counts ===== -/
def bt (x : Int32) (i : Nat) : Bool := x.toBitVec.getLsbD i
theorem b_ext {x y : Int32} (h : ∀ i, i < 32 → bt x i = bt y i) : x = y := Int32.toBitVec_inj.mp (BitVec.eq_of_getLsbD_eq (fun i hi => h i hi))
theorem b_or (x y : Int32) (i : Nat) : bt (x ||| y) i = (bt x i || bt y i) := by unfold bt; rw [Int32.toBitVec_or, BitVec.getLsbD_or]
theorem b_and (x y : Int32) (i : Nat) : bt (x &&& y) i = (bt x i && bt y i) := by unfold bt; rw [Int32.toBitVec_and, BitVec.getLsbD_and]
theorem b_xor (x y : Int32) (i : Nat) : bt (x ^^^ y) i = (bt x i ^^ bt y i) := by unfold bt; rw [Int32.toBitVec_xor, BitVec.getLsbD_xor]
theorem b_big {x : Int32} {i : Nat} (h : 32 ≤ i) : bt x i = false := BitVec.getLsbD_of_ge _ _ h
theorem b_255 (i : Nat) : bt 255 i = decide (i < 8) := by
  rcases Nat.lt_or_ge i 32 with h | h
  · exact (by decide +kernel : ∀ i, i < 32 → bt 255 i = decide (i < 8)) i h
  · rw [b_big h, decide_eq_false (by omega)]
theorem b_65535 (i : Nat) : bt 65535 i = decide (i < 16) := by
  rcases Nat.lt_or_ge i 32 with h | h
  · exact (by decide +kernel : ∀ i, i < 32 → bt 65535 i = decide (i < 16)) i h
  · rw [b_big h, decide_eq_false (by omega)]
theorem b_m1 : ∀ i, i < 32 → bt (-1) i = true := by decide +kernel
theorem b_0 (i : Nat) : bt 0 i = false := BitVec.getLsbD_zero
theorem s_l : ∀ n, n < 32 → ((nI n &&& 31).toBitVec.smod 32).toNat = n := by decide +kernel
theorem s_u : ∀ n, n < 32 → (((nI n).toUInt32 &&& Int32.toUInt32 31).toBitVec % 32).toNat = n := by decide +kernel
theorem b_shl (n : Nat) (hn : n < 32) (x : Int32) {i : Nat} (hi : i < 32) : bt (x <<< (nI n &&& 31)) i = (decide (n ≤ i) && bt x (i - n)) := by
  unfold bt
  rw [Int32.toBitVec_shiftLeft]
  show (x.toBitVec <<< ((nI n &&& 31).toBitVec.smod 32).toNat).getLsbD i = _
  rw [s_l n hn, BitVec.getLsbD_shiftLeft]
  rcases Nat.lt_or_ge i n with h | h
  · simp [h, Nat.not_le.mpr h]
  · simp [hi, h, Nat.not_lt.mpr h]
theorem b_ushr (n : Nat) (hn : n < 32) (x : Int32) (i : Nat) : bt ((x.toUInt32 >>> ((nI n).toUInt32 &&& Int32.toUInt32 31)).toInt32) i = bt x (n + i) := by
  show (x.toUInt32 >>> ((nI n).toUInt32 &&& Int32.toUInt32 31)).toBitVec.getLsbD i = x.toUInt32.toBitVec.getLsbD (n + i)
  rw [UInt32.toBitVec_shiftRight]
  show (x.toUInt32.toBitVec >>> (((nI n).toUInt32 &&& Int32.toUInt32 31).toBitVec % 32).toNat).getLsbD i = _
  rw [s_u n hn, BitVec.getLsbD_ushiftRight]
theorem b_sshr (n : Nat) (hn : n < 32) (x : Int32) {i : Nat} (hi : i < 32) : bt (x >>> (nI n &&& 31)) i = if n + i < 32 then bt x (n + i) else bt x 31 := by
  unfold bt
  rw [Int32.toBitVec_shiftRight]
  show (x.toBitVec.sshiftRight ((nI n &&& 31).toBitVec.smod 32).toNat).getLsbD i = _
  rw [s_l n hn, BitVec.getLsbD_sshiftRight, BitVec.msb_eq_getLsbD_last]
  simp [hi]
theorem bt_1 (i : Nat) : bt 1 i = decide (i = 0) := by
  by_cases h : i < 32
  · exact (by decide +kernel : ∀ i, i < 32 → bt 1 i = decide (i = 0)) i h
  · rw [b_big (by omega)]
    exact (decide_eq_false (by omega)).symm
theorem bt_test {x : Int32} {n : Nat} (hn : n < 32) : (x >>> (nI n &&& 31)) &&& 1 = if bt x n then 1 else 0 := by
  refine b_ext (fun i hi => ?_)
  rw [b_and, b_sshr n hn x hi, bt_1]
  by_cases e : i = 0
  · subst e
    rw [if_pos (by omega)]
    cases h : bt x n <;> simp [h, b_0, bt_1]
  · simp only [e, decide_false, Bool.and_false]
    cases h : bt x n <;> simp [b_0, bt_1, e]
theorem bt_test1 {x : Int32} {n : Nat} (hn : n < 32) : (x >>> (nI n &&& 31)) &&& 1 = 1 ↔ bt x n = true := by
  rw [bt_test hn]
  cases bt x n <;> simp
theorem bt_test0 {x : Int32} {n : Nat} (hn : n < 32) : (x >>> (nI n &&& 31)) &&& 1 = 0 ↔ bt x n = false := by
  rw [bt_test hn]
  cases bt x n <;> simp
theorem bt_bit {n i : Nat} (hn : n < 32) (hi : i < 32) : bt (1 <<< (nI n &&& 31)) i = decide (i = n) := by
  rw [b_shl n hn 1 hi, bt_1]
  by_cases h : n ≤ i
  · by_cases e : i = n
    · subst e; simp
    · simp [h, e]; omega
  · have : ¬ i = n := by omega
    simp [h, this]
theorem bt_set {x : Int32} {n i : Nat} (hn : n < 32) (hi : i < 32) : bt (x ||| 1 <<< (nI n &&& 31)) i = (bt x i || decide (i = n)) := by rw [b_or, bt_bit hn hi]
theorem bt_not {x : Int32} {i : Nat} (hi : i < 32) : bt (x ^^^ -1) i = !bt x i := by rw [b_xor, b_m1 i hi]; simp
theorem bt_clr {x : Int32} {n i : Nat} (hn : n < 32) (hi : i < 32) : bt (x &&& (1 <<< (nI n &&& 31) ^^^ -1)) i = (bt x i && !decide (i = n)) := by rw [b_and, bt_not hi, bt_bit hn hi]
theorem bt_andn {x z : Int32} {i : Nat} (hi : i < 32) : bt (x &&& (z ^^^ -1)) i = (bt x i && !bt z i) := by rw [b_and, bt_not hi]
theorem bt_nI {n i : Nat} (hi : i < 32) : bt (nI n) i = n.testBit i := by
  show (BitVec.ofNat 32 n).getLsbD i = _
  rw [BitVec.getLsbD_ofNat]
  simp [hi]
theorem gcnt_ins {p p' : Nat → Prop} [DecidablePred p] [DecidablePred p'] {k : Nat} (h1 : p' k) (h0 : ¬ p k) : ∀ n, k < n → (∀ i, i < n → i ≠ k → (p' i ↔ p i)) → gcnt p' n = gcnt p n + 1 := by
  intro n
  induction n with
  | zero => intro h; omega
  | succ n ih =>
    intro hk h
    simp only [gcnt]
    by_cases e : n = k
    · subst e
      rw [if_pos h1, if_neg h0, gcnt_congr n (fun i hi => h i (by omega) (by omega))]
    · rw [ih (by omega) (fun i hi hne => h i (by omega) hne)]
      have := h n (by omega) e
      by_cases e2 : p n
      · rw [if_pos e2, if_pos (this.mpr e2)]; try omega
      · rw [if_neg e2, if_neg (mt this.mp e2)]; try omega
theorem gcnt_mono {p p' : Nat → Prop} [DecidablePred p] [DecidablePred p'] : ∀ n, (∀ i, i < n → p i → p' i) → gcnt p n ≤ gcnt p' n := by
  intro n
  induction n with
  | zero => intro _; exact Nat.le_refl _
  | succ n ih =>
    intro h
    simp only [gcnt]
    have := ih (fun i hi => h i (by omega))
    by_cases e : p n
    · rw [if_pos e, if_pos (h n (by omega) e)]; omega
    · rw [if_neg e]; omega
theorem gcnt_all {p : Nat → Prop} [DecidablePred p] : ∀ n, n ≤ gcnt p n → ∀ i, i < n → p i := by
  intro n
  induction n with
  | zero => intro _ i hi; omega
  | succ n ih =>
    intro h i hi
    simp only [gcnt] at h
    have hle := gcnt_le p n
    by_cases e : p n
    · rw [if_pos e] at h
      by_cases e2 : i = n
      · subst e2; exact e
      · exact ih (by omega) i (by omega)
    · rw [if_neg e] at h; omega
def nsum (f : Nat → Nat) : Nat → Nat
  | 0 => 0
  | n + 1 => nsum f n + f n
theorem nsum_le {f g : Nat → Nat} : ∀ n, (∀ i, i < n → f i ≤ g i) → nsum f n ≤ nsum g n := by
  intro n
  induction n with
  | zero => intro _; exact Nat.le_refl _
  | succ n ih =>
    intro h
    have := ih (fun i hi => h i (by omega))
    have := h n (by omega)
    simp only [nsum]; omega
theorem nsum_lt {f g : Nat → Nat} {k : Nat} : ∀ n, (∀ i, i < n → f i ≤ g i) → k < n → f k < g k → nsum f n < nsum g n := by
  intro n
  induction n with
  | zero => intro _ h; omega
  | succ n ih =>
    intro h hk hl
    simp only [nsum]
    have h1 := h n (by omega)
    by_cases e : k = n
    · subst e
      have := nsum_le k (fun i hi => h i (by omega))
      omega
    · have := ih (fun i hi => h i (by omega)) (by omega) hl
      omega
theorem nsum_congr {f g : Nat → Nat} : ∀ n, (∀ i, i < n → f i = g i) → nsum f n = nsum g n := by
  intro n h
  exact Nat.le_antisymm (nsum_le n (fun i hi => Nat.le_of_eq (h i hi))) (nsum_le n (fun i hi => Nat.le_of_eq (h i hi).symm))
theorem nsum_0 : ∀ n, nsum (fun _ => 0) n = 0 := by
  intro n
  induction n with
  | zero => rfl
  | succ n ih => simp only [nsum, ih]
theorem nsum_add (f g : Nat → Nat) : ∀ n, nsum (fun i => f i + g i) n = nsum f n + nsum g n := by
  intro n
  induction n with
  | zero => rfl
  | succ n ih => simp only [nsum, ih]; omega
theorem nsum_swap (F : Nat → Nat → Nat) (n : Nat) : ∀ m, nsum (fun i => nsum (F i) n) m = nsum (fun j => nsum (fun i => F i j) m) n := by
  intro m
  induction m with
  | zero => simp only [nsum]; rw [nsum_0]
  | succ m ih => simp only [nsum]; rw [ih, nsum_add]
theorem gcnt_nsum (p : Nat → Prop) [DecidablePred p] : ∀ n, gcnt p n = nsum (fun i => if p i then 1 else 0) n := by
  intro n
  induction n with
  | zero => rfl
  | succ n ih => simp only [gcnt, nsum, ih]
end
section
-- deps: 39
/-! ===== turns: who comes when ===== -/
def gld (A : Nat → Nat → Bool) (h : Nat) : Nat := gcnt (fun d => A h d = true) 12
def gcov (A : Nat → Nat → Bool) (H d : Nat) : Nat := gcnt (fun h => A h d = true) H
def gau (A : Nat → Nat → Bool) (h d : Nat) (v : Bool) : Nat → Nat → Bool := fun i j => if i = h ∧ j = d then v else A i j
def gsu (S : Nat → Bool) (h : Nat) : Nat → Bool := fun i => if i = h then true else S i
/-- the days that dm wants can be had with b turns for each -/
def gFe (H : Nat) (can : Nat → Nat → Bool) (b : Nat) (dm : Nat → Nat) : Prop := ∃ B : Nat → Nat → Bool, (∀ h, h < H → ∀ d, d < 12 → B h d = true → can h d = true) ∧ (∀ h, h < H → gld B h ≤ b) ∧ ∀ d, d < 12 → dm d ≤ gcov B H d
theorem gFe_mono {H : Nat} {can : Nat → Nat → Bool} {b b' : Nat} {dm dm' : Nat → Nat} (hb : b ≤ b') (hd : ∀ d, d < 12 → dm' d ≤ dm d) (h : gFe H can b dm) : gFe H can b' dm' := by
  obtain ⟨B, h1, h2, h3⟩ := h
  exact ⟨B, h1, fun h hh => Nat.le_trans (h2 h hh) hb, fun d hd' => Nat.le_trans (hd d hd') (h3 d hd')⟩
theorem gcut {H b day : Nat} {can A B : Nat → Nat → Bool} {S D : Nat → Bool} (h1 : ∀ d, d < 12 → D d = true → ∀ h, h < H → can h d = true → A h d = false → S h = true) (h2 : ∀ h, h < H → S h = true → b ≤ gld A h ∧ ∀ d, d < 12 → A h d = true → D d = true) (h3 : D day = true) (hday : day < 12)
    (hB1 : ∀ h, h < H → ∀ d, d < 12 → B h d = true → can h d = true) (hB2 : ∀ h, h < H → gld B h ≤ b) (hB3 : ∀ d, d < 12 → D d = true → gcov A H d + (if d = day then 1 else 0) ≤ gcov B H d) : False := by
  have key : ∀ X : Nat → Nat → Bool, nsum (fun h => nsum (fun d => if D d = true ∧ X h d = true then 1 else 0) 12) H = nsum (fun d => if D d = true then gcov X H d else 0) 12 := by
    intro X
    rw [nsum_swap (fun h d => if D d = true ∧ X h d = true then 1 else 0)]
    refine nsum_congr 12 (fun d _ => ?_)
    by_cases hD : D d = true
    · rw [if_pos hD]
      unfold gcov
      rw [gcnt_nsum]
      refine nsum_congr H (fun h _ => ?_)
      simp [hD]
    · rw [if_neg hD]
      refine (nsum_congr H (fun h _ => ?_)).trans (nsum_0 H)
      simp [hD]
  have hle : nsum (fun h => nsum (fun d => if D d = true ∧ B h d = true then 1 else 0) 12) H ≤ nsum (fun h => nsum (fun d => if D d = true ∧ A h d = true then 1 else 0) 12) H := by
    refine nsum_le H (fun h hh => ?_)
    by_cases hS : S h = true
    · obtain ⟨q1, q2⟩ := h2 h hh hS
      have e1 : nsum (fun d => if D d = true ∧ B h d = true then 1 else 0) 12 ≤ gld B h := by
        unfold gld
        rw [gcnt_nsum]
        refine nsum_le 12 (fun d _ => ?_)
        by_cases hb : B h d = true <;> simp [hb]
        split <;> omega
      have e2 : gld A h = nsum (fun d => if D d = true ∧ A h d = true then 1 else 0) 12 := by
        unfold gld
        rw [gcnt_nsum]
        refine nsum_congr 12 (fun d hd => ?_)
        by_cases hb : A h d = true
        · simp [hb, q2 d hd hb]
        · simp [hb]
      have := hB2 h hh
      omega
    · refine nsum_le 12 (fun d hd => ?_)
      by_cases hq : D d = true ∧ B h d = true
      · have hA : A h d = true := by
          cases hA : A h d with
          | true => rfl
          | false => exact absurd (h1 d hd hq.1 h hh (hB1 h hh d hd hq.2) hA) hS
        simp [hq.1, hA]
        split <;> omega
      · rw [if_neg hq]; omega
  rw [key A, key B] at hle
  have hlt : nsum (fun d => if D d = true then gcov A H d else 0) 12 < nsum (fun d => if D d = true then gcov B H d else 0) 12 := by
    refine nsum_lt (k := day) 12 (fun d hd => ?_) hday ?_
    · by_cases hD : D d = true
      · rw [if_pos hD, if_pos hD]
        have := hB3 d hd hD
        omega
      · rw [if_neg hD, if_neg hD]; omega
    · rw [if_pos h3, if_pos h3]
      have := hB3 day hday h3
      rw [if_pos rfl] at this
      omega
  omega
theorem gld_o {A : Nat → Nat → Bool} {h d h' : Nat} {v : Bool} (hn : h' ≠ h) : gld (gau A h d v) h' = gld A h' := by
  refine gcnt_congr 12 (fun i _ => ?_)
  show (if h' = h ∧ i = d then v else A h' i) = true ↔ _
  rw [if_neg (fun z => hn z.1)]
theorem gld_t {A : Nat → Nat → Bool} {h d : Nat} (hd : d < 12) (h0 : A h d = false) : gld (gau A h d true) h = gld A h + 1 := by
  refine gcnt_ins (k := d) ?_ ?_ 12 hd (fun i _ hi => ?_)
  · show (if h = h ∧ d = d then true else A h d) = true
    rw [if_pos ⟨rfl, rfl⟩]
  · rw [h0]; decide
  · show (if h = h ∧ i = d then true else A h i) = true ↔ _
    rw [if_neg (fun z => hi z.2)]
theorem gld_f {A : Nat → Nat → Bool} {h d : Nat} (hd : d < 12) (h1 : A h d = true) : gld A h = gld (gau A h d false) h + 1 := by
  refine gcnt_ins (k := d) h1 ?_ 12 hd (fun i _ hi => ?_)
  · show ¬ (if h = h ∧ d = d then false else A h d) = true
    rw [if_pos ⟨rfl, rfl⟩]; decide
  · show _ ↔ (if h = h ∧ i = d then false else A h i) = true
    rw [if_neg (fun z => hi z.2)]
theorem gcov_o {A : Nat → Nat → Bool} {H h d d' : Nat} {v : Bool} (hn : d' ≠ d) : gcov (gau A h d v) H d' = gcov A H d' := by
  refine gcnt_congr H (fun i _ => ?_)
  show (if i = h ∧ d' = d then v else A i d') = true ↔ _
  rw [if_neg (fun z => hn z.2)]
theorem gcov_t {A : Nat → Nat → Bool} {H h d : Nat} (hh : h < H) (h0 : A h d = false) : gcov (gau A h d true) H d = gcov A H d + 1 := by
  refine gcnt_ins (k := h) ?_ ?_ H hh (fun i _ hi => ?_)
  · show (if h = h ∧ d = d then true else A h d) = true
    rw [if_pos ⟨rfl, rfl⟩]
  · rw [h0]; decide
  · show (if i = h ∧ d = d then true else A i d) = true ↔ _
    rw [if_neg (fun z => hi z.1)]
theorem gcov_f {A : Nat → Nat → Bool} {H h d : Nat} (hh : h < H) (h1 : A h d = true) : gcov A H d = gcov (gau A h d false) H d + 1 := by
  refine gcnt_ins (k := h) h1 ?_ H hh (fun i _ hi => ?_)
  · show ¬ (if h = h ∧ d = d then false else A h d) = true
    rw [if_pos ⟨rfl, rfl⟩]; decide
  · show _ ↔ (if i = h ∧ d = d then false else A i d) = true
    rw [if_neg (fun z => hi z.1)]
/-- A is an assignment under can and b -/
def gVa (H : Nat) (can : Nat → Nat → Bool) (b : Nat) (A : Nat → Nat → Bool) : Prop := (∀ h, h < H → ∀ d, d < 12 → A h d = true → can h d = true) ∧ ∀ h, h < H → gld A h ≤ b
/-- a place of day was found -/
def gOK (H : Nat) (can : Nat → Nat → Bool) (b day : Nat) (A : Nat → Nat → Bool) (S : Nat → Bool) (A' : Nat → Nat → Bool) : Prop := gVa H can b A' ∧ (∀ d, d < 12 → gcov A' H d = gcov A H d + if d = day then 1 else 0) ∧ (∀ h, h < H → S h = true → A' h = A h)
/-- helper h gave a day away -/
def gGvw (H : Nat) (can : Nat → Nat → Bool) (b h : Nat) (A : Nat → Nat → Bool) (S : Nat → Bool) (A' : Nat → Nat → Bool) : Prop := gVa H can b A' ∧ (∀ d, d < 12 → gcov A' H d = gcov A H d) ∧ (∀ h', h' < H → h' ≠ h → S h' = true → A' h' = A h') ∧ gld A' h + 1 ≤ b ∧ ∀ d, d < 12 → A' h d = true → A h d = true
theorem gOK_now {H b day h : Nat} {can A : Nat → Nat → Bool} {S : Nat → Bool} (hv : gVa H can b A) (hh : h < H) (hd : day < 12) (hc : can h day = true) (h0 : A h day = false) (hS : ¬ S h = true) (hl : gld A h < b) : gOK H can b day A S (gau A h day true) := by
  refine ⟨⟨fun i hi d hd' hA => ?_, fun i hi => ?_⟩, fun d hd' => ?_, fun i hi hSi => ?_⟩
  · by_cases e : i = h ∧ d = day
    · rw [e.1, e.2]; exact hc
    · refine hv.1 i hi d hd' ?_
      have : gau A h day true i d = A i d := if_neg e
      rw [← this]; exact hA
  · by_cases e : i = h
    · subst e; rw [gld_t hd h0]; omega
    · rw [gld_o e]; exact hv.2 i hi
  · by_cases e : d = day
    · subst e; rw [if_pos rfl, gcov_t hh h0]
    · rw [if_neg e, gcov_o e, Nat.add_zero]
  · funext d
    show (if i = h ∧ d = day then true else A i d) = A i d
    rw [if_neg (fun z : i = h ∧ d = day => hS (z.1 ▸ hSi))]
theorem gOK_gw {H b day h : Nat} {can A A2 : Nat → Nat → Bool} {S S1 : Nat → Bool} (hg : gGvw H can b h A S1 A2) (hS1 : ∀ i, S i = true → S1 i = true) (hh : h < H) (hd : day < 12) (hc : can h day = true) (h0 : A h day = false) (hS : ¬ S h = true) : gOK H can b day A S (gau A2 h day true) := by
  obtain ⟨hv, hcv, hrow, hl, hsub⟩ := hg
  have h02 : A2 h day = false := by
    cases hq : A2 h day with
    | false => rfl
    | true => have := hsub day hd hq; rw [h0] at this; exact absurd this (by decide)
  refine ⟨⟨fun i hi d hd' hA => ?_, fun i hi => ?_⟩, fun d hd' => ?_, fun i hi hSi => ?_⟩
  · by_cases e : i = h ∧ d = day
    · rw [e.1, e.2]; exact hc
    · refine hv.1 i hi d hd' ?_
      have : gau A2 h day true i d = A2 i d := if_neg e
      rw [← this]; exact hA
  · by_cases e : i = h
    · subst e; rw [gld_t hd h02]; omega
    · rw [gld_o e]; exact hv.2 i hi
  · by_cases e : d = day
    · subst e; rw [if_pos rfl, gcov_t hh h02, hcv d hd']
    · rw [if_neg e, gcov_o e, Nat.add_zero, hcv d hd']
  · have hne : i ≠ h := fun e => hS (e ▸ hSi)
    rw [← hrow i hi hne (hS1 i hSi)]
    funext d
    show (if i = h ∧ d = day then true else A2 i d) = A2 i d
    rw [if_neg (fun z => hne z.1)]
theorem gGvw_of {H b day h : Nat} {can A A1 : Nat → Nat → Bool} {S : Nat → Bool} (hg : gOK H can b day A S A1) (hv0 : gld A h ≤ b) (hh : h < H) (hd : day < 12) (h1 : A h day = true) (hS : S h = true) : gGvw H can b h A S (gau A1 h day false) := by
  obtain ⟨hv, hcv, hrow⟩ := hg
  have hr : A1 h = A h := hrow h hh hS
  have h11 : A1 h day = true := by rw [hr]; exact h1
  have hlf := gld_f hd h11
  have hld : gld A1 h = gld A h := by unfold gld; rw [hr]
  refine ⟨⟨fun i hi d hd' hA => ?_, fun i hi => ?_⟩, fun d hd' => ?_, fun i hi hne hSi => ?_, ?_, fun d hd' hA => ?_⟩
  · by_cases e : i = h ∧ d = day
    · have : gau A1 h day false i d = false := if_pos e
      rw [this] at hA; exact absurd hA (by decide)
    · refine hv.1 i hi d hd' ?_
      have : gau A1 h day false i d = A1 i d := if_neg e
      rw [← this]; exact hA
  · by_cases e : i = h
    · subst e; omega
    · rw [gld_o e]; exact hv.2 i hi
  · have hc1 := hcv d hd'
    by_cases e : d = day
    · subst e
      rw [if_pos rfl] at hc1
      have := gcov_f hh h11
      omega
    · rw [if_neg e] at hc1
      rw [gcov_o e]; omega
  · rw [← hrow i hi hSi]
    funext d
    show (if i = h ∧ d = day then false else A1 i d) = A1 i d
    rw [if_neg (fun z => hne z.1)]
  · omega
  · by_cases e : d = day
    · subst e; exact h1
    · have : gau A1 h day false h d = A1 h d := if_neg (fun z => e z.2)
      rw [this, hr] at hA; exact hA
def gcl5 (H : Nat) (can A : Nat → Nat → Bool) (S : Nat → Bool) (d : Nat) : Prop := ∀ h, h < H → can h d = true → A h d = false → S h = true
theorem gcl5_up {H : Nat} {can A : Nat → Nat → Bool} {S S' : Nat → Bool} {d : Nat} (h : gcl5 H can A S d) (hs : ∀ i, S i = true → S' i = true) : gcl5 H can A S' d := fun i hi hc h0 => hs i (h i hi hc h0)
/-- what is newly seen is full, and its days are closed -/
def gNw (H : Nat) (can : Nat → Nat → Bool) (b : Nat) (A : Nat → Nat → Bool) (S S' : Nat → Bool) : Prop := (∀ i, S i = true → S' i = true) ∧ ∀ h, h < H → S' h = true → ¬ S h = true → b ≤ gld A h ∧ ∀ d, d < 12 → A h d = true → gcl5 H can A S' d
theorem gNw_rf {H : Nat} {can : Nat → Nat → Bool} {b : Nat} {A : Nat → Nat → Bool} {S : Nat → Bool} : gNw H can b A S S := ⟨fun _ h => h, fun _ _ h1 h2 => absurd h1 h2⟩
theorem gNw_tr {H : Nat} {can : Nat → Nat → Bool} {b : Nat} {A : Nat → Nat → Bool} {S S1 S2 : Nat → Bool} (h1 : gNw H can b A S S1) (h2 : gNw H can b A S1 S2) : gNw H can b A S S2 := by
  refine ⟨fun i h => h2.1 i (h1.1 i h), fun h hh hs hn => ?_⟩
  by_cases e : S1 h = true
  · obtain ⟨q1, q2⟩ := h1.2 h hh e hn
    exact ⟨q1, fun d hd hA => gcl5_up (q2 d hd hA) h2.1⟩
  · exact h2.2 h hh hs e
theorem gsu_s {S : Nat → Bool} {h i : Nat} (hs : S i = true) : gsu S h i = true := by
  unfold gsu; split
  · rfl
  · exact hs
theorem gsu_m {S : Nat → Bool} {h : Nat} : gsu S h h = true := if_pos rfl
/-- the failed search of the reference says that it can't be -/
theorem gno1 {H b day : Nat} {can A : Nat → Nat → Bool} {S : Nat → Bool} {dm : Nat → Nat} (hday : day < 12) (hn : gNw H can b A (fun _ => false) S) (hc : gcl5 H can A S day) (hdm : ∀ d, d < 12 → gcov A H d + (if d = day then 1 else 0) ≤ dm d) : ¬ gFe H can b dm := by
  rintro ⟨B, hB1, hB2, hB3⟩
  refine gcut (H := H) (b := b) (day := day) (can := can) (A := A) (B := B) (S := S) (D := fun d => @decide (gcl5 H can A S d) (Classical.propDecidable _)) ?_ ?_ (@decide_eq_true _ (Classical.propDecidable _) hc) hday hB1 hB2 (fun d hd _ => Nat.le_trans (hdm d hd) (hB3 d hd))
  · intro d hd hD h hh hcn h0
    exact (@of_decide_eq_true _ (Classical.propDecidable _) hD) h hh hcn h0
  · intro h hh hS
    obtain ⟨q1, q2⟩ := hn.2 h hh hS (by simp)
    exact ⟨q1, fun d hd hA => @decide_eq_true _ (Classical.propDecidable _) (q2 d hd hA)⟩
/-- how many are not seen -/
def gun (S : Nat → Bool) : Nat := gcnt (fun h => ¬ S h = true) 10
theorem gun_s {S : Nat → Bool} {h : Nat} (hh : h < 10) (hs : ¬ S h = true) : gun S = gun (gsu S h) + 1 := by
  refine gcnt_ins (k := h) hs (fun z => z gsu_m) 10 hh (fun i _ hi => ?_)
  show _ ↔ ¬ (if i = h then true else S i) = true
  rw [if_neg hi]
theorem gun_le {S S' : Nat → Bool} (h : ∀ i, S i = true → S' i = true) : gun S' ≤ gun S := gcnt_mono 10 (fun i _ hi hs => hi (h i hs))
end
section
-- deps: 37 38 39 40
/-! ===== the reference's turns ===== -/
def gTA (a : Nat → Nat → Int32) (A : Nat → Nat → Bool) : Prop := ∀ h, h < 10 → ∀ d, d < 12 → a 81 (12 * h + d) = if A h d = true then 1 else 0
def gTS (a : Nat → Nat → Int32) (S : Nat → Bool) : Prop := ∀ h, h < 10 → a 82 h = if S h = true then 1 else 0
theorem gTA_see {a : Nat → Nat → Int32} {A : Nat → Nat → Bool} (h : gTA a A) (i : Nat) (x : Int32) : gTA (upd2 a 82 i x) A := by
  intro h' hh d hd
  rw [upd2_row _ _ _ _ (by decide)]
  exact h h' hh d hd
theorem gTS_see {a : Nat → Nat → Int32} {S : Nat → Bool} (h : gTS a S) {i : Nat} : gTS (upd2 a 82 i 1) (gsu S i) := by
  intro h' hh
  rw [upd2_at]
  unfold gsu
  by_cases e : h' = i
  · rw [if_pos e, if_pos e, if_pos rfl]
  · rw [if_neg e, if_neg e]; exact h h' hh
theorem gTS_set {a : Nat → Nat → Int32} {S : Nat → Bool} (h : gTS a S) (i : Nat) (x : Int32) : gTS (upd2 a 81 i x) S := by
  intro h' hh
  rw [upd2_row _ _ _ _ (by decide)]
  exact h h' hh
theorem gTA_set {a : Nat → Nat → Int32} {A : Nat → Nat → Bool} (h : gTA a A) {i j : Nat} (hj : j < 12) {x : Int32} {v : Bool} (hx : x = if v = true then 1 else 0) : gTA (upd2 a 81 (12 * i + j) x) (gau A i j v) := by
  intro h' hh d hd
  rw [upd2_at]
  unfold gau
  by_cases e : h' = i ∧ d = j
  · rw [if_pos (by rw [e.1, e.2]), if_pos e]; exact hx
  · rw [if_neg (fun z => e ⟨by omega, by omega⟩), if_neg e]; exact h h' hh d hd
theorem nI_12 (s k : Nat) : 12 * nI s + nI k = nI (12 * s + k) := by
  rw [show (12 : Int32) = nI 12 from rfl, pk_mul, nI_add]
def gcan (a : Nat → Nat → Int32) : Nat → Nat → Bool := fun h d => bt (a 80 h) d
section GM11
variable {w : Nat → Nat → Int32} {b : Nat → Nat → Int64} {r : Nat → Nat → Nat} {q : Nat → Nat → Option Nat} {y : gH} {n u : Nat}
theorem m_loadOf {d : Nat} {a : Nat → Nat → Int32} {A : Nat → Nat → Bool} (hA : gTA a A) {h : Nat} (hh : h < 10) : gE d 154 [.ref 44, .int (nI h)] (n, u, HP w a b r q y) (gre (nI (gld A h)) (n, u, HP w a b r q y)) := by
  have hk : gMT[154]? = some gro_154 := rfl
  refine r_in hk [some (.ref 44), some (.int (nI h)), none, none] (Nat.le_of_ble_eq_true rfl) rfl ?_
  have loop : ∀ t, t ≤ 12 → ∀ x z : Int32, x = nI (gcnt (fun d => A h d = true) t) → z = nI t → gX d 154 4 [some (.ref 44), some (.int (nI h)), some (.int x), some (.int z)] [] (n, u, HP w a b r q y) (gre (nI (gld A h)) (n, u, HP w a b r q y)) := by
    refine g_down ?_ ?_
    · intro x z hx hz
      subst hz
      iterate 3 refine r_step hk rfl rfl rfl ?_
      refine r_ge (fun _ => ?_) (fun hq9 => absurd (by decide) hq9)
      refine r_step hk rfl rfl rfl ?_
      refine r_iret hk rfl trivial ?_
      exact ⟨congrArg (fun z => some (Value.int z)) hx, rfl⟩
    · intro t ht ih x z hx hz
      subst hz
      have hc := hA h hh t ht
      cases hq : A h t with
      | true =>
        rw [hq, if_pos rfl] at hc
        iterate 3 refine r_step hk rfl rfl rfl ?_
        refine r_ge (fun hq9 => absurd hq9 (show ¬ nI 12 ≤ nI t from nI_ge ht (by decide))) (fun _ => ?_)
        iterate 8 refine r_step hk rfl rfl rfl ?_
        refine r_za hk (12 * h + t) rfl rfl (nI_12 h t) (by omega) rfl ?_
        refine r_step hk rfl rfl rfl ?_
        refine r_eq (fun hq9 => absurd hq9 (show ¬ a 81 (12 * h + t) = 0 by rw [hc]; decide)) (fun _ => ?_)
        iterate 6 refine r_step hk rfl rfl rfl ?_
        exact ih _ _ (gcnt_t hx hq) (nI_1 t)
      | false =>
        rw [hq, if_neg (by decide)] at hc
        iterate 3 refine r_step hk rfl rfl rfl ?_
        refine r_ge (fun hq9 => absurd hq9 (show ¬ nI 12 ≤ nI t from nI_ge ht (by decide))) (fun _ => ?_)
        iterate 8 refine r_step hk rfl rfl rfl ?_
        refine r_za hk (12 * h + t) rfl rfl (nI_12 h t) (by omega) rfl ?_
        refine r_step hk rfl rfl rfl ?_
        refine r_eq (fun _ => ?_) (fun hq9 => absurd hc hq9)
        iterate 5 refine r_step hk rfl rfl rfl ?_
        exact ih _ _ (gcnt_f hx (by rw [hq]; decide)) (nI_1 t)
  iterate 4 refine r_step hk rfl rfl rfl ?_
  exact loop 0 (Nat.zero_le _) _ _ rfl rfl
def gQfd (n u : Nat) (w : Nat → Nat → Int32) (b : Nat → Nat → Int64) (r : Nat → Nat → Nat) (q : Nat → Nat → Option Nat) (y : gH) (a0 : Nat → Nat → Int32) (H bd day : Nat) (A : Nat → Nat → Bool) (S : Nat → Bool) : Option Value → gS → Prop := fun v S' => (∃ a' A' S2, gag [81, 82] a0 a' ∧ gTA a' A' ∧ gTS a' S2 ∧ gOK H (gcan a0) bd day A S A' ∧ v = some (.int 1) ∧ S' = (n, u, HP w a' b r q y)) ∨ (∃ a' S2, gag [81, 82] a0 a' ∧ gTA a' A ∧ gTS a' S2 ∧ gNw H (gcan a0) bd A S S2 ∧ gcl5 H (gcan a0) A S2 day ∧ v = some (.int 0) ∧ S' = (n, u, HP w a' b r q y))
def gQgw (n u : Nat) (w : Nat → Nat → Int32) (b : Nat → Nat → Int64) (r : Nat → Nat → Nat) (q : Nat → Nat → Option Nat) (y : gH) (a0 : Nat → Nat → Int32) (H bd h : Nat) (A : Nat → Nat → Bool) (S : Nat → Bool) : Option Value → gS → Prop := fun v S' => (∃ a' A' S2, gag [81, 82] a0 a' ∧ gTA a' A' ∧ gTS a' S2 ∧ gGvw H (gcan a0) bd h A S A' ∧ v = some (.int 1) ∧ S' = (n, u, HP w a' b r q y)) ∨ (∃ a' S2, gag [81, 82] a0 a' ∧ gTA a' A ∧ gTS a' S2 ∧ gNw H (gcan a0) bd A S S2 ∧ (∀ d, d < 12 → A h d = true → gcl5 H (gcan a0) A S2 d) ∧ v = some (.int 0) ∧ S' = (n, u, HP w a' b r q y))
def gPfd (n u : Nat) (w : Nat → Nat → Int32) (b : Nat → Nat → Int64) (r : Nat → Nat → Nat) (q : Nat → Nat → Option Nat) (y : gH) (a0 : Nat → Nat → Int32) (H bd m : Nat) : Prop := ∀ (d day : Nat) (a : Nat → Nat → Int32) (A : Nat → Nat → Bool) (S : Nat → Bool), gun S ≤ m → 2 * m + 3 ≤ d → day < 12 → gag [81, 82] a0 a → gTA a A → gTS a S → gVa H (gcan a0) bd A → gE d 153 [.ref 44, .int (nI day)] (n, u, HP w a b r q y) (gQfd n u w b r q y a0 H bd day A S)
def gPgw (n u : Nat) (w : Nat → Nat → Int32) (b : Nat → Nat → Int64) (r : Nat → Nat → Nat) (q : Nat → Nat → Option Nat) (y : gH) (a0 : Nat → Nat → Int32) (H bd m : Nat) : Prop := ∀ (d h : Nat) (a : Nat → Nat → Int32) (A : Nat → Nat → Bool) (S : Nat → Bool), gun S ≤ m → 2 * m + 4 ≤ d → h < H → S h = true → gag [81, 82] a0 a → gTA a A → gTS a S → gVa H (gcan a0) bd A → gE d 155 [.ref 44, .int (nI h)] (n, u, HP w a b r q y) (gQgw n u w b r q y a0 H bd h A S)
theorem m_givesWay {a0 : Nat → Nat → Int32} {H bd m : Nat} (hH10 : H ≤ 10) (HP1 : gPfd n u w b r q y a0 H bd m) : gPgw n u w b r q y a0 H bd m := by
  intro d h a A S hm hd hh hS hag hA hTS hv
  have hk : gMT[155]? = some gro_155 := rfl
  refine r_in hk [some (.ref 44), some (.int (nI h)), none] (Nat.le_of_ble_eq_true rfl) rfl ?_
  have loop : ∀ t, t ≤ 12 → ∀ (a1 : Nat → Nat → Int32) (S1 : Nat → Bool) (z : Int32), z = nI t → gag [81, 82] a0 a1 → gTA a1 A → gTS a1 S1 → gNw H (gcan a0) bd A S S1 → (∀ d, d < t → A h d = true → gcl5 H (gcan a0) A S1 d) → gX d 155 2 [some (.ref 44), some (.int (nI h)), some (.int z)] [] (n, u, HP w a1 b r q y) (gQgw n u w b r q y a0 H bd h A S) := by
    refine g_down ?_ ?_
    · intro a1 S1 z hz hag1 hA1 hS1 hnw hcl
      subst hz
      iterate 3 refine r_step hk rfl rfl rfl ?_
      refine r_ge (fun _ => ?_) (fun hq9 => absurd (by decide) hq9)
      refine r_step hk rfl rfl rfl ?_
      refine r_iret hk rfl (Or.inl rfl) ?_
      exact Or.inr ⟨a1, S1, hag1, hA1, hS1, hnw, hcl, rfl, rfl⟩
    · intro t ht ih a1 S1 z hz hag1 hA1 hS1 hnw hcl
      subst hz
      have hc := hA1 h (by omega) t ht
      cases hq : A h t with
      | false =>
        rw [hq, if_neg (by decide)] at hc
        iterate 3 refine r_step hk rfl rfl rfl ?_
        refine r_ge (fun hq9 => absurd hq9 (show ¬ nI 12 ≤ nI t from nI_ge ht (by decide))) (fun _ => ?_)
        iterate 7 refine r_step hk rfl rfl rfl ?_
        refine r_za hk (12 * h + t) rfl rfl (nI_12 h t) (by omega) rfl ?_
        refine r_step hk rfl rfl rfl ?_
        refine r_eq (fun _ => ?_) (fun hq9 => absurd hc hq9)
        iterate 2 refine r_step hk rfl rfl rfl ?_
        exact ih a1 S1 _ (nI_1 t) hag1 hA1 hS1 hnw (fun d hd hAd => by rcases Nat.lt_or_ge d t with hlt | hge; exact hcl d hlt hAd; have e : d = t := (by omega); subst e; rw [hq] at hAd; exact absurd hAd (by decide))
      | true =>
        rw [hq, if_pos rfl] at hc
        iterate 3 refine r_step hk rfl rfl rfl ?_
        refine r_ge (fun hq9 => absurd hq9 (show ¬ nI 12 ≤ nI t from nI_ge ht (by decide))) (fun _ => ?_)
        iterate 7 refine r_step hk rfl rfl rfl ?_
        refine r_za hk (12 * h + t) rfl rfl (nI_12 h t) (by omega) rfl ?_
        refine r_step hk rfl rfl rfl ?_
        refine r_eq (fun hq9 => absurd hq9 (show ¬ a1 81 (12 * h + t) = 0 by rw [hc]; decide)) (fun _ => ?_)
        iterate 2 refine r_step hk rfl rfl rfl ?_
        refine r_callV hk [.ref 44, .int (nI t)] [] rfl rfl rfl rfl rfl rfl rfl (by omega) (HP1 (d - 1) t a1 A S1 (Nat.le_trans (gun_le hnw.1) hm) (by omega) ht hag1 hA1 hS1 hv) ?_
        rintro _ _ (⟨a2, A2, S2, hag2, hA2, hS2, hok2, rfl, rfl⟩ | ⟨a2, S2, hag2, hA2, hS2, hnw2, hcl2, rfl, rfl⟩)
        · refine r_step hk rfl rfl rfl ?_
          refine r_eq (fun hq9 => absurd hq9 (by decide)) (fun _ => ?_)
          iterate 8 refine r_step hk rfl rfl rfl ?_
          refine r_zs hk (12 * h + t) rfl rfl rfl (nI_12 h t) (by omega) rfl rfl (Or.inl rfl) ?_
          refine r_step hk rfl rfl rfl ?_
          refine r_iret hk rfl (Or.inr rfl) ?_
          obtain ⟨g1, g2, g3, g4, g5⟩ := gGvw_of hok2 (hv.2 h hh) hh ht hq (hnw.1 h hS)
          exact Or.inl ⟨_, gau A2 h t false, S2, gag_up hag2 (by decide), gTA_set hA2 ht (by decide), gTS_set hS2 _ _, ⟨g1, g2, fun h' hh' hne hs' => g3 h' hh' hne (hnw.1 h' hs'), g4, g5⟩, rfl, rfl⟩
        · refine r_step hk rfl rfl rfl ?_
          refine r_eq (fun _ => ?_) (fun hq9 => absurd (by decide) hq9)
          iterate 2 refine r_step hk rfl rfl rfl ?_
          exact ih a2 S2 _ (nI_1 t) hag2 hA2 hS2 (gNw_tr hnw hnw2) (fun d hd hAd => by rcases Nat.lt_or_ge d t with hlt | hge; exact gcl5_up (hcl d hlt hAd) hnw2.1; have e : d = t := (by omega); subst e; exact hcl2)
  iterate 2 refine r_step hk rfl rfl rfl ?_
  exact loop 0 (Nat.zero_le _) a S _ rfl hag hA hTS gNw_rf (fun d hd => absurd hd (by omega))
theorem m_finds_of {a0 : Nat → Nat → Int32} {H bd m : Nat} (hH : w 44 49 = nI H) (hH10 : H ≤ 10) (hb : w 44 53 = nI bd) (hb12 : bd ≤ 12) (HG : ∀ m', m' + 1 ≤ m → gPgw n u w b r q y a0 H bd m') : gPfd n u w b r q y a0 H bd m := by
  intro d day a A S hm hd hday hag hA hTS hv
  have hk : gMT[153]? = some gro_153 := rfl
  refine r_in hk [some (.ref 44), some (.int (nI day)), none] (Nat.le_of_ble_eq_true rfl) rfl ?_
  have loop : ∀ t, t ≤ H → ∀ (a1 : Nat → Nat → Int32) (S1 : Nat → Bool) (z : Int32), z = nI t → gag [81, 82] a0 a1 → gTA a1 A → gTS a1 S1 → gNw H (gcan a0) bd A S S1 → (∀ h, h < t → gcan a0 h day = true → A h day = false → S1 h = true) → gX d 153 2 [some (.ref 44), some (.int (nI day)), some (.int z)] [] (n, u, HP w a1 b r q y) (gQfd n u w b r q y a0 H bd day A S) := by
    refine g_down ?_ ?_
    · intro a1 S1 z hz hag1 hA1 hS1 hnw hcl
      subst hz
      iterate 4 refine r_step hk rfl rfl rfl ?_
      refine r_ge (fun _ => ?_) (fun hq9 => absurd (show w 44 49 ≤ nI H by rw [hH]; exact nI_le (Nat.le_refl _) (by omega)) hq9)
      refine r_step hk rfl rfl rfl ?_
      refine r_iret hk rfl (Or.inl rfl) ?_
      exact Or.inr ⟨a1, S1, hag1, hA1, hS1, hnw, hcl, rfl, rfl⟩
    · intro t ht ih a1 S1 z hz hag1 hA1 hS1 hnw hcl
      subst hz
      have h7 : ¬ w 44 49 ≤ nI t := by rw [hH]; exact nI_ge ht (by omega)
      have e80 : a1 80 = a0 80 := hag1 80 (by decide)
      have hbt : ((a1 80 t >>> (nI day &&& 31)) &&& 1 = 1) ↔ gcan a0 t day = true := by rw [e80]; exact bt_test1 (by omega)
      have hcA := hA1 t (by omega) day hday
      have hcS := hS1 t (by omega)
      -- go on
      have skip : (gcan a0 t day = true → A t day = false → S1 t = true) → gX d 153 2 [some (.ref 44), some (.int (nI day)), some (.int (nI t + 1))] [] (n, u, HP w a1 b r q y) (gQfd n u w b r q y a0 H bd day A S) := by
        intro hno
        refine ih a1 S1 _ (nI_1 t) hag1 hA1 hS1 hnw (fun h hh h1 h2 => ?_)
        by_cases e : h = t
        · subst e; exact hno h1 h2
        · exact hcl h (by omega) h1 h2
      by_cases hS : S1 t = true
      · rw [if_pos hS] at hcS
        iterate 4 refine r_step hk rfl rfl rfl ?_
        refine r_ge (fun hq9 => absurd hq9 h7) (fun _ => ?_)
        iterate 3 refine r_step hk rfl rfl rfl ?_
        refine r_ia hk (t) rfl rfl rfl (by omega) rfl ?_
        iterate 6 refine r_step hk rfl rfl rfl ?_
        refine r_ne (fun h21 => ?_) (fun h21 => ?_)
        · iterate 2 refine r_step hk rfl rfl rfl ?_
          exact skip (fun _ _ => hS)
        · iterate 7 refine r_step hk rfl rfl rfl ?_
          refine r_za hk (12 * t + day) rfl rfl (nI_12 t day) (by omega) rfl ?_
          refine r_step hk rfl rfl rfl ?_
          refine r_ne (fun h35 => ?_) (fun h35 => ?_)
          · iterate 2 refine r_step hk rfl rfl rfl ?_
            exact skip (fun _ _ => hS)
          · iterate 3 refine r_step hk rfl rfl rfl ?_
            refine r_za hk (t) rfl rfl rfl (by omega) rfl ?_
            refine r_step hk rfl rfl rfl ?_
            refine r_ne (fun _ => ?_) (fun hq9 => absurd hq9 (show ¬ a1 82 t = 0 by rw [hcS]; decide))
            iterate 2 refine r_step hk rfl rfl rfl ?_
            exact skip (fun _ _ => hS)
      · rw [if_neg hS] at hcS
        have hun := gun_s (h := t) (S := S1) (by omega) hS
        have hun2 := gun_le hnw.1
        cases hAt : A t day with
        | true =>
          rw [hAt, if_pos rfl] at hcA
          iterate 4 refine r_step hk rfl rfl rfl ?_
          refine r_ge (fun hq9 => absurd hq9 h7) (fun _ => ?_)
          iterate 3 refine r_step hk rfl rfl rfl ?_
          refine r_ia hk (t) rfl rfl rfl (by omega) rfl ?_
          iterate 6 refine r_step hk rfl rfl rfl ?_
          refine r_ne (fun h21 => ?_) (fun h21 => ?_)
          · iterate 2 refine r_step hk rfl rfl rfl ?_
            exact skip (fun _ h2 => by rw [hAt] at h2; exact absurd h2 (by decide))
          · iterate 7 refine r_step hk rfl rfl rfl ?_
            refine r_za hk (12 * t + day) rfl rfl (nI_12 t day) (by omega) rfl ?_
            refine r_step hk rfl rfl rfl ?_
            refine r_ne (fun _ => ?_) (fun hq9 => absurd hq9 (show ¬ a1 81 (12 * t + day) = 0 by rw [hcA]; decide))
            iterate 2 refine r_step hk rfl rfl rfl ?_
            exact skip (fun _ h2 => by rw [hAt] at h2; exact absurd h2 (by decide))
        | false =>
          rw [hAt, if_neg (by decide)] at hcA
          have hA2 : gTA (upd2 a1 82 t 1) A := gTA_see hA1 t 1
          have hS2 : gTS (upd2 a1 82 t 1) (gsu S1 t) := gTS_see hS1
          have hag2 : gag [81, 82] a0 (upd2 a1 82 t 1) := gag_up hag1 (by decide)
          have hld : gld A t ≤ bd := hv.2 t ht
          have hnS : ¬ S t = true := fun z => hS (hnw.1 t z)
          have hlb : nI (gld A t) < w 44 53 ↔ gld A t < bd := by rw [hb]; exact nI_ltI (by omega) (by omega)
          by_cases hcn : gcan a0 t day = true
          · skip
            iterate 4 refine r_step hk rfl rfl rfl ?_
            refine r_ge (fun hq9 => absurd hq9 h7) (fun _ => ?_)
            iterate 3 refine r_step hk rfl rfl rfl ?_
            refine r_ia hk (t) rfl rfl rfl (by omega) rfl ?_
            iterate 6 refine r_step hk rfl rfl rfl ?_
            refine r_ne (fun hq9 => absurd (hbt.mpr hcn) hq9) (fun _ => ?_)
            iterate 7 refine r_step hk rfl rfl rfl ?_
            refine r_za hk (12 * t + day) rfl rfl (nI_12 t day) (by omega) rfl ?_
            refine r_step hk rfl rfl rfl ?_
            refine r_ne (fun hq9 => absurd hcA hq9) (fun _ => ?_)
            iterate 3 refine r_step hk rfl rfl rfl ?_
            refine r_za hk (t) rfl rfl rfl (by omega) rfl ?_
            refine r_step hk rfl rfl rfl ?_
            refine r_ne (fun hq9 => absurd hcS hq9) (fun _ => ?_)
            iterate 4 refine r_step hk rfl rfl rfl ?_
            refine r_zs hk (t) rfl rfl rfl rfl (by omega) rfl rfl (Or.inr rfl) ?_
            iterate 2 refine r_step hk rfl rfl rfl ?_
            refine r_callV hk [.ref 44, .int (nI t)] [] rfl rfl rfl rfl rfl rfl rfl (by omega) (m_loadOf hA2 (by omega)) ?_
            rintro _ _ ⟨rfl, rfl⟩
            iterate 3 refine r_step hk rfl rfl rfl ?_
            refine r_lt (fun h63 => ?_) (fun h63 => ?_)
            · iterate 8 refine r_step hk rfl rfl rfl ?_
              refine r_zs hk (12 * t + day) rfl rfl rfl (nI_12 t day) (by omega) rfl rfl (Or.inr rfl) ?_
              refine r_step hk rfl rfl rfl ?_
              refine r_iret hk rfl (Or.inr rfl) ?_
              first | exact Or.inl ⟨_, gau A t day true, gsu S1 t, gag_up hag2 (by decide), gTA_set hA2 hday rfl, gTS_set hS2 _ _, gOK_now hv ht hday hcn hAt hnS (hlb.mp h63), rfl, rfl⟩ | exact Or.inl ⟨_, gau A3 t day true, S3, gag_up hag3 (by decide), gTA_set hA3 hday rfl, gTS_set hS3 _ _, gOK_gw hok3 (fun i hi => gsu_s (hnw.1 i hi)) ht hday hcn hAt hnS, rfl, rfl⟩
            · iterate 2 refine r_step hk rfl rfl rfl ?_
              refine r_callV hk [.ref 44, .int (nI t)] [] rfl rfl rfl rfl rfl rfl rfl (by omega) (HG (gun S1 - 1) (by omega) (d - 1) t (upd2 a1 82 t 1) A (gsu S1 t) (by omega) (by omega) ht gsu_m hag2 hA2 hS2 hv) ?_
              rintro _ _ (⟨a3, A3, S3, hag3, hA3, hS3, hok3, rfl, rfl⟩ | ⟨a3, S3, hag3, hA3, hS3, hnw3, hcl3, rfl, rfl⟩)
              · refine r_step hk rfl rfl rfl ?_
                refine r_eq (fun hq9 => absurd hq9 (by decide)) (fun _ => ?_)
                iterate 8 refine r_step hk rfl rfl rfl ?_
                refine r_zs hk (12 * t + day) rfl rfl rfl (nI_12 t day) (by omega) rfl rfl (Or.inr rfl) ?_
                refine r_step hk rfl rfl rfl ?_
                refine r_iret hk rfl (Or.inr rfl) ?_
                first | exact Or.inl ⟨_, gau A t day true, gsu S1 t, gag_up hag2 (by decide), gTA_set hA2 hday rfl, gTS_set hS2 _ _, gOK_now hv ht hday hcn hAt hnS (hlb.mp h63), rfl, rfl⟩ | exact Or.inl ⟨_, gau A3 t day true, S3, gag_up hag3 (by decide), gTA_set hA3 hday rfl, gTS_set hS3 _ _, gOK_gw hok3 (fun i hi => gsu_s (hnw.1 i hi)) ht hday hcn hAt hnS, rfl, rfl⟩
              · refine r_step hk rfl rfl rfl ?_
                refine r_eq (fun _ => ?_) (fun hq9 => absurd (by decide) hq9)
                iterate 2 refine r_step hk rfl rfl rfl ?_
                refine ih a3 S3 _ (nI_1 t) hag3 hA3 hS3 ?_ (fun h hh h1 h2 => ?_)
                (refine gNw_tr hnw ⟨fun i hi => hnw3.1 i (gsu_s hi), fun h hh hs hn => ?_⟩; by_cases e : h = t; (subst e; exact ⟨by have := mt hlb.mpr h63; omega, hcl3⟩); exact hnw3.2 h hh hs (fun z => hn (by unfold gsu at z; rw [if_neg e] at z; exact z)))
                by_cases e : h = t
                (subst e; exact hnw3.1 h gsu_m)
                exact hnw3.1 h (gsu_s (hcl h (by omega) h1 h2))
          · skip
            iterate 4 refine r_step hk rfl rfl rfl ?_
            refine r_ge (fun hq9 => absurd hq9 h7) (fun _ => ?_)
            iterate 3 refine r_step hk rfl rfl rfl ?_
            refine r_ia hk (t) rfl rfl rfl (by omega) rfl ?_
            iterate 6 refine r_step hk rfl rfl rfl ?_
            refine r_ne (fun _ => ?_) (fun hq9 => absurd hq9 (fun z => hcn (hbt.mp z)))
            iterate 2 refine r_step hk rfl rfl rfl ?_
            exact skip (fun h1 _ => absurd h1 hcn)
  iterate 2 refine r_step hk rfl rfl rfl ?_
  exact loop 0 (Nat.zero_le _) a S _ rfl hag hA hTS gNw_rf (fun h hh => absurd hh (by omega))
theorem m_finds {a0 : Nat → Nat → Int32} {H bd : Nat} (hH : w 44 49 = nI H) (hH10 : H ≤ 10) (hb : w 44 53 = nI bd) (hb12 : bd ≤ 12) : ∀ m, gPfd n u w b r q y a0 H bd m := by
  intro m
  induction m using Nat.strongRecOn with
  | _ m ih => exact m_finds_of hH hH10 hb hb12 (fun m' hm' => m_givesWay hH10 (ih m' (by omega)))
def gdm (x : Int32) : Nat → Nat := fun d => if bt x d = true then 2 else 0
def gpla (x : Int32) (k : Nat) : Nat → Nat := fun d => if bt x d = true then (if k ≤ 2 * d then 0 else if k = 2 * d + 1 then 1 else 2) else 0
theorem gpla_s {x : Int32} {k : Nat} (h : bt x (k / 2) = true) (d : Nat) : gpla x (k + 1) d = gpla x k d + if d = k / 2 then 1 else 0 := by
  unfold gpla
  by_cases e : d = k / 2
  · subst e
    simp only [h, if_true]
    by_cases e2 : k % 2 = 0
    · rw [if_neg (by omega), if_pos (by omega), if_pos (by omega)]
    · rw [if_neg (by omega), if_neg (by omega), if_neg (by omega), if_pos (by omega)]
  · rw [if_neg e, Nat.add_zero]
    split
    · by_cases e3 : k ≤ 2 * d
      · rw [if_pos (by omega), if_pos e3]
      · rw [if_neg (by omega), if_neg (by omega), if_neg (by omega), if_neg (by omega)]
    · rfl
theorem gpla_n {x : Int32} {k : Nat} (h : ¬ bt x (k / 2) = true) (d : Nat) : gpla x (k + 1) d = gpla x k d := by
  unfold gpla
  by_cases e : d = k / 2
  · subst e; rw [if_neg h, if_neg h]
  · split
    · by_cases e3 : k ≤ 2 * d
      · rw [if_pos (by omega), if_pos e3]
      · rw [if_neg (by omega), if_neg (by omega), if_neg (by omega), if_neg (by omega)]
    · rfl
theorem gpla_le {x : Int32} (k d : Nat) : gpla x k d ≤ gdm x d := by
  unfold gpla gdm
  split
  · split
    · omega
    · split <;> omega
  · omega
theorem gpla_24 {x : Int32} {d : Nat} (hd : d < 12) : gpla x 24 d = gdm x d := by
  unfold gpla gdm
  split
  · rw [if_neg (by omega), if_neg (by omega)]
  · rfl
theorem gpla_0 {x : Int32} (d : Nat) : gpla x 0 d = 0 := by
  unfold gpla
  split
  · rw [if_pos (by omega)]
  · rfl
theorem gcov_0 (H d : Nat) : gcov (fun _ _ => false) H d = 0 := by
  unfold gcov
  rw [gcnt_nsum]
  exact nsum_0 H
theorem gld_0 (h : Nat) : gld (fun _ _ => false) h = 0 := by
  unfold gld
  rw [gcnt_nsum]
  exact nsum_0 12
theorem m_canBe {d : Nat} {a0 : Nat → Nat → Int32} {H bd : Nat} (hd : 40 ≤ d) (hH : w 44 49 = nI H) (hH10 : H ≤ 10) (hb : w 44 53 = nI bd) (hb12 : bd ≤ 12) (x : Int32) : gE d 152 [.ref 44, .int x] (n, u, HP w a0 b r q y) (fun v S' => ((gFe H (gcan a0) bd (gdm x) ∧ v = some (.int 1)) ∨ (¬ gFe H (gcan a0) bd (gdm x) ∧ v = some (.int 0))) ∧ ∃ a', gag [81, 82] a0 a' ∧ S' = (n, u, HP w a' b r q y)) := by
  have hk : gMT[152]? = some gro_152 := rfl
  refine r_inQ hk [some (.ref 44), some (.int x), none, none] (Nat.le_of_ble_eq_true rfl) rfl ?_
  intro Q hQ
  have loop : ∀ t, t ≤ 24 → ∀ (a1 : Nat → Nat → Int32) (A : Nat → Nat → Bool) (z : Int32) (l3 : Option Value), z = nI t → gag [81, 82] a0 a1 → gTA a1 A → gVa H (gcan a0) bd A → (∀ d, d < 12 → gcov A H d = gpla x t d) → gX d 152 23 [some (.ref 44), some (.int x), some (.int z), l3] [] (n, u, HP w a1 b r q y) Q := by
    refine g_down ?_ ?_
    · intro a1 A z l3 hz hag hA hv hcv
      subst hz
      iterate 3 refine r_step hk rfl rfl rfl ?_
      refine r_ge (fun _ => ?_) (fun hq9 => absurd (by decide) hq9)
      refine r_step hk rfl rfl rfl ?_
      refine r_iret hk rfl (Or.inr rfl) ?_
      exact hQ _ _ ⟨Or.inl ⟨⟨A, hv.1, hv.2, fun d hd => by rw [hcv d hd, gpla_24 hd]; exact Nat.le_refl _⟩, rfl⟩, a1, hag, rfl⟩
    · intro t ht ih a1 A z l3 hz hag hA hv hcv
      subst hz
      have edv : nI t / 2 = nI (t / 2) := pk_div (d := 2) (by omega) (by decide) (by decide)
      have hbt : ((x >>> (nI (t / 2) &&& 31)) &&& 1 = 1) ↔ bt x (t / 2) = true := bt_test1 (by omega)
      have h26 : ¬ nI 24 ≤ nI t := nI_ge ht (by decide)
      by_cases hbx : bt x (t / 2) = true
      · have fin : ∀ (a2 : Nat → Nat → Int32) (l3 : Option Value), gag [81, 82] a0 a2 → gTA a2 A → gTS a2 (fun _ => false) → gX d 152 61 [some (.ref 44), some (.int x), some (.int (nI t)), l3] [] (n, u, HP w a2 b r q y) Q := by
          intro a2 l3 hag2 hA2 hS2
          iterate 3 refine r_step hk rfl rfl rfl ?_
          refine r_div hk rfl (by decide) ?_
          refine r_callV hk [.ref 44, .int (nI t / 2)] [] rfl rfl rfl rfl rfl rfl rfl (by omega) (by rw [edv]; exact m_finds hH hH10 hb hb12 10 (d - 1) (t / 2) a2 A (fun _ => false) (gcnt_le _ 10) (by omega) (by omega) hag2 hA2 hS2 hv) ?_
          rintro _ _ (⟨a3, A3, S3, hag3, hA3, hS3, hok3, rfl, rfl⟩ | ⟨a3, S3, hag3, hA3, hS3, hnw3, hcl3, rfl, rfl⟩)
          · refine r_step hk rfl rfl rfl ?_
            refine r_ne (fun _ => ?_) (fun hq9 => absurd hq9 (by decide))
            iterate 2 refine r_step hk rfl rfl rfl ?_
            exact ih a3 A3 _ _ (nI_1 t) hag3 hA3 hok3.1 (fun d hd => by rw [hok3.2.1 d hd, hcv d hd, gpla_s hbx])
          · refine r_step hk rfl rfl rfl ?_
            refine r_ne (fun hq9 => absurd (by decide) hq9) (fun _ => ?_)
            refine r_step hk rfl rfl rfl ?_
            refine r_iret hk rfl (Or.inl rfl) ?_
            exact hQ _ _ ⟨Or.inr ⟨gno1 (by omega) hnw3 hcl3 (fun d hd => by rw [hcv d hd, ← gpla_s hbx]; exact gpla_le _ _), rfl⟩, a3, hag3, rfl⟩
        have clr : ∀ k, k ≤ 10 → ∀ (a2 : Nat → Nat → Int32) (z : Int32), z = nI k → gag [81, 82] a0 a2 → gTA a2 A → (∀ i, i < k → a2 82 i = 0) → gX d 152 42 [some (.ref 44), some (.int x), some (.int (nI t)), some (.int z)] [] (n, u, HP w a2 b r q y) Q := by
          refine g_down ?_ ?_
          · intro a2 z hz hag2 hA2 h0
            subst hz
            iterate 3 refine r_step hk rfl rfl rfl ?_
            refine r_ge (fun _ => ?_) (fun hq9 => absurd (by decide) hq9)
            exact fin a2 _ hag2 hA2 (fun h hh => by rw [h0 h hh]; rfl)
          · intro k hk10 ih2 a2 z hz hag2 hA2 h0
            subst hz
            iterate 3 refine r_step hk rfl rfl rfl ?_
            refine r_ge (fun hq9 => absurd hq9 (show ¬ nI 10 ≤ nI k from nI_ge hk10 (by decide))) (fun _ => ?_)
            iterate 4 refine r_step hk rfl rfl rfl ?_
            refine r_zs hk (k) rfl rfl rfl rfl hk10 rfl rfl (Or.inl rfl) ?_
            iterate 2 refine r_step hk rfl rfl rfl ?_
            exact ih2 _ _ (nI_1 k) (gag_up hag2 (by decide)) (gTA_see hA2 k 0) (fun i hi => by rw [upd2_at]; split; rfl; exact h0 i (by omega))
        iterate 3 refine r_step hk rfl rfl rfl ?_
        refine r_ge (fun hq9 => absurd hq9 h26) (fun _ => ?_)
        iterate 3 refine r_step hk rfl rfl rfl ?_
        refine r_div hk rfl (by decide) ?_
        iterate 5 refine r_step hk rfl rfl rfl ?_
        refine r_ne (fun hq9 => absurd (show (x >>> (nI t / 2 &&& 31)) &&& 1 = 1 by rw [edv]; exact hbt.mpr hbx) hq9) (fun _ => ?_)
        iterate 2 refine r_step hk rfl rfl rfl ?_
        exact clr 0 (Nat.zero_le _) a1 _ rfl hag hA (fun i hi => absurd hi (by omega))
      · skip
        iterate 3 refine r_step hk rfl rfl rfl ?_
        refine r_ge (fun hq9 => absurd hq9 h26) (fun _ => ?_)
        iterate 3 refine r_step hk rfl rfl rfl ?_
        refine r_div hk rfl (by decide) ?_
        iterate 5 refine r_step hk rfl rfl rfl ?_
        refine r_ne (fun _ => ?_) (fun hq9 => absurd hq9 (show ¬ (x >>> (nI t / 2 &&& 31)) &&& 1 = 1 by rw [edv]; exact mt hbt.mp hbx))
        iterate 2 refine r_step hk rfl rfl rfl ?_
        exact ih a1 A _ _ (nI_1 t) hag hA hv (fun d hd => by rw [hcv d hd, gpla_n hbx])
  have clr0 : ∀ k, k ≤ 120 → ∀ (a2 : Nat → Nat → Int32) (z : Int32) (l3 : Option Value), z = nI k → gag [81, 82] a0 a2 → (∀ i, i < k → a2 81 i = 0) → gX d 152 2 [some (.ref 44), some (.int x), some (.int z), l3] [] (n, u, HP w a2 b r q y) Q := by
    refine g_down ?_ ?_
    · intro a2 z l3 hz hag2 h0
      subst hz
      iterate 3 refine r_step hk rfl rfl rfl ?_
      refine r_ge (fun _ => ?_) (fun hq9 => absurd (by decide) hq9)
      iterate 2 refine r_step hk rfl rfl rfl ?_
      exact loop 0 (Nat.zero_le _) a2 (fun _ _ => false) _ _ rfl hag2 (fun h hh d hd => by rw [h0 _ (by omega)]; rfl) ⟨fun _ _ _ _ hf => absurd hf Bool.false_ne_true, fun h _ => by rw [gld_0]; exact Nat.zero_le _⟩ (fun d _ => by rw [gcov_0, gpla_0])
    · intro k hk10 ih2 a2 z l3 hz hag2 h0
      subst hz
      iterate 3 refine r_step hk rfl rfl rfl ?_
      refine r_ge (fun hq9 => absurd hq9 (show ¬ nI 120 ≤ nI k from nI_ge hk10 (by decide))) (fun _ => ?_)
      iterate 4 refine r_step hk rfl rfl rfl ?_
      refine r_zs hk (k) rfl rfl rfl rfl hk10 rfl rfl (Or.inl rfl) ?_
      iterate 2 refine r_step hk rfl rfl rfl ?_
      exact ih2 _ _ _ (nI_1 k) (gag_up hag2 (by decide)) (fun i hi => by rw [upd2_at]; split; rfl; exact h0 i (by omega))
  iterate 2 refine r_step hk rfl rfl rfl ?_
  exact clr0 0 (Nat.zero_le _) a0 _ _ rfl gag_rf (fun i hi => absurd hi (by omega))
/-- the least load, as both find it -/
def gLe (H : Nat) (can : Nat → Nat → Bool) (x : Int32) (v : Option Value) : Prop := (∃ bd, bd ≤ 12 ∧ gin x 4096 ∧ gFe H can bd (gdm x) ∧ (∀ b', b' < bd → ¬ gFe H can b' (gdm x)) ∧ v = some (.int (nI bd))) ∨ ((gin x 4096 → ∀ b', b' ≤ 12 → ¬ gFe H can b' (gdm x)) ∧ v = some (.int (-1)))
theorem gLe_eq {H : Nat} {can : Nat → Nat → Bool} {x : Int32} {v v' : Option Value} (h : gLe H can x v) (h' : gLe H can x v') : v = v' := by
  rcases h with ⟨b1, h1, h2, h3, h4, rfl⟩ | ⟨h1, rfl⟩
  · rcases h' with ⟨b2, k1, k2, k3, k4, rfl⟩ | ⟨k1, rfl⟩
    · rcases Nat.lt_trichotomy b1 b2 with hl | hl | hl
      · exact absurd h3 (k4 b1 hl)
      · rw [hl]
      · exact absurd k3 (h4 b2 hl)
    · exact absurd h3 (k1 h2 b1 h1)
  · rcases h' with ⟨b2, k1, k2, k3, k4, rfl⟩ | ⟨k1, rfl⟩
    · exact absurd k3 (h1 k2 b2 k1)
    · rfl
theorem m_least {d : Nat} {a0 : Nat → Nat → Int32} {H : Nat} (hd : 41 ≤ d) (hH : w 44 49 = nI H) (hH10 : H ≤ 10) (x : Int32) : gE d 151 [.ref 44, .int x] (n, u, HP w a0 b r q y) (fun v S' => gLe H (gcan a0) x v ∧ ∃ e a', gag [81, 82] a0 a' ∧ S' = (n, u, HP (upd2 (gTh w) 44 53 e) a' b r q y)) := by
  have hk : gMT[151]? = some gro_151 := rfl
  refine r_inQ hk [some (.ref 44), some (.int x)] (Nat.le_of_ble_eq_true rfl) rfl ?_
  intro Q hQ
  have loop : gin x 4096 → ∀ t, t ≤ 13 → ∀ (a1 : Nat → Nat → Int32), gag [81, 82] a0 a1 → (∀ b', b' < t → ¬ gFe H (gcan a0) b' (gdm x)) → gX d 151 23 [some (.ref 44), some (.int x)] [] (n, u, HP (upd2 (gTh w) 44 53 (nI t)) a1 b r q y) Q := by
    intro hx
    refine g_down ?_ ?_
    · intro a1 hag hno
      iterate 4 refine r_step hk rfl rfl rfl ?_
      refine r_gt (fun _ => ?_) (fun hq9 => absurd (show (12 : Int32) < upd2 (gTh w) 44 53 (nI 13) 44 53 by rw [upd2_same]; decide) hq9)
      refine r_step hk rfl rfl rfl ?_
      refine r_iret hk rfl trivial ?_
      exact hQ _ _ ⟨Or.inr ⟨fun _ b' hb' => hno b' (by omega), rfl⟩, _, a1, hag, rfl⟩
    · intro t ht ih a1 hag hno
      have e80 : gcan a1 = gcan a0 := by unfold gcan; rw [hag 80 (by decide)]
      iterate 4 refine r_step hk rfl rfl rfl ?_
      refine r_gt (fun hq9 => absurd hq9 (show ¬ (12 : Int32) < upd2 (gTh w) 44 53 (nI t) 44 53 by rw [upd2_same]; exact nI_nlt (a := 12) (b := t) (by omega) (by decide))) (fun _ => ?_)
      iterate 2 refine r_step hk rfl rfl rfl ?_
      refine r_callV hk [.ref 44, .int x] [] rfl rfl rfl rfl rfl rfl rfl (by omega) (m_canBe (w := upd2 (gTh w) 44 53 (nI t)) (by omega) hH hH10 rfl (by omega) x) ?_
      rw [e80]
      rintro _ _ ⟨⟨hf, rfl⟩ | ⟨hf, rfl⟩, a2, hag2, rfl⟩
      · refine r_step hk rfl rfl rfl ?_
        refine r_eq (fun hq9 => absurd hq9 (by decide)) (fun _ => ?_)
        iterate 2 refine r_step hk rfl rfl rfl ?_
        refine r_iret hk rfl trivial ?_
        exact hQ _ _ ⟨Or.inl ⟨t, by omega, hx, hf, hno, rfl⟩, _, a2, gag_tr hag hag2, rfl⟩
      · refine r_step hk rfl rfl rfl ?_
        refine r_eq (fun _ => ?_) (fun hq9 => absurd (by decide) hq9)
        iterate 5 refine r_step hk rfl rfl rfl ?_
        refine r_putI hk rfl rfl rfl rfl ?_
        refine r_step hk rfl rfl rfl ?_
        rw [upd2_2, show upd2 (gTh w) 44 53 (nI t) 44 53 + 1 = nI (t + 1) by rw [upd2_same]; exact nI_1 t]
        exact ih a2 (gag_tr hag hag2) (fun b' hb' => by by_cases e : b' = t; (subst e; exact hf); exact hno b' (by omega))
  iterate 2 refine r_step hk rfl rfl rfl ?_
  refine r_putI hk rfl rfl rfl rfl ?_
  iterate 2 refine r_step hk rfl rfl rfl ?_
  refine r_lt (fun h6 => ?_) (fun h6 => ?_)
  · refine r_step hk rfl rfl rfl ?_
    refine r_iret hk rfl trivial ?_
    first | exact hQ _ _ ⟨Or.inr ⟨fun hc => absurd hc (gin_lt h6 (by decide)), rfl⟩, w 44 53, a0, gag_rf, by rw [upd2_id (f := gTh w) (j := 44) (s := 53) (x := w 44 53) rfl]⟩ | exact hQ _ _ ⟨Or.inr ⟨fun hc => absurd hc (gin_gt (M := 4095) (Int32.not_le.mp h13) (by decide)), rfl⟩, w 44 53, a0, gag_rf, by rw [upd2_id (f := gTh w) (j := 44) (s := 53) (x := w 44 53) rfl]⟩
  · iterate 3 refine r_step hk rfl rfl rfl ?_
    refine r_le (fun h13 => ?_) (fun h13 => ?_)
    · iterate 2 refine r_step hk rfl rfl rfl ?_
      refine r_putI hk rfl rfl rfl rfl ?_
      exact loop (gin_of' (M := 4095) h6 (Int32.not_lt.mpr h13) (by decide)) 0 (Nat.zero_le _) a0 gag_rf (fun b' hb' => absurd hb' (by omega))
    · refine r_step hk rfl rfl rfl ?_
      refine r_iret hk rfl trivial ?_
      first | exact hQ _ _ ⟨Or.inr ⟨fun hc => absurd hc (gin_lt h6 (by decide)), rfl⟩, w 44 53, a0, gag_rf, by rw [upd2_id (f := gTh w) (j := 44) (s := 53) (x := w 44 53) rfl]⟩ | exact hQ _ _ ⟨Or.inr ⟨fun hc => absurd hc (gin_gt (M := 4095) (Int32.not_le.mp h13) (by decide)), rfl⟩, w 44 53, a0, gag_rf, by rw [upd2_id (f := gTh w) (j := 44) (s := 53) (x := w 44 53) rfl]⟩
end GM11
end
section
-- deps: 37 38 39
/-! ===== the van's round, and the reference's ===== -/
def gmin5 (c : Nat → Bool) (v : Nat → Nat) : Nat → Nat
  | 0 => 1000000
  | s + 1 => if c s = true then (if v s < gmin5 c v s then v s else gmin5 c v s) else gmin5 c v s
def kG (wy : Nat → Nat → Nat) : Nat → Nat → Nat → Nat
  | 0, p, _ => wy p 5
  | f + 1, p, P => if P = 0 then wy p 5 else gmin5 (fun s => P.testBit s) (fun s => wy p s + kG wy f s (P ^^^ 2 ^ s)) 5
theorem gmin5_congr {c : Nat → Bool} {v v' : Nat → Nat} : ∀ n, (∀ s, s < n → c s = true → v s = v' s) → gmin5 c v n = gmin5 c v' n := by
  intro n
  induction n with
  | zero => intro _; rfl
  | succ n ih =>
    intro h
    simp only [gmin5]
    rw [ih (fun s hs => h s (by omega))]
    by_cases e : c n = true
    · rw [if_pos e, if_pos e, h n (by omega) e]
    · rw [if_neg e, if_neg e]
theorem gmin5_le {c : Nat → Bool} {v : Nat → Nat} {s : Nat} : ∀ n, s < n → c s = true → gmin5 c v n ≤ v s := by
  intro n
  induction n with
  | zero => intro h; omega
  | succ n ih =>
    intro hs hc
    simp only [gmin5]
    by_cases e : s = n
    · subst e; rw [if_pos hc]; split <;> omega
    · have := ih (by omega) hc
      split
      · split <;> omega
      · exact this
theorem gmin5_top {c : Nat → Bool} {v : Nat → Nat} : ∀ n, gmin5 c v n ≤ 1000000 := by
  intro n
  induction n with
  | zero => exact Nat.le_refl _
  | succ n ih =>
    simp only [gmin5]
    split
    · split <;> omega
    · exact ih
theorem gxor_lt : ∀ P, P < 32 → ∀ s, s < 5 → P.testBit s = true → P ^^^ 2 ^ s < P := by decide +kernel
theorem gbit_ex : ∀ P, P < 32 → P ≠ 0 → ∃ s, s < 5 ∧ P.testBit s = true := by decide +kernel
theorem kG_fuel {wy : Nat → Nat → Nat} : ∀ (f f' p P : Nat), P < 32 → P ≤ f → P ≤ f' → kG wy f p P = kG wy f' p P := by
  intro f
  induction f with
  | zero =>
    intro f' p P h32 h1 h2
    have : P = 0 := by omega
    subst this
    cases f' with
    | zero => rfl
    | succ f' => simp only [kG, if_true]
  | succ f ih =>
    intro f' p P h32 h1 h2
    by_cases e : P = 0
    · subst e
      cases f' with
      | zero => simp only [kG, if_true]
      | succ f' => simp only [kG, if_true]
    · cases f' with
      | zero => omega
      | succ f' =>
        simp only [kG, if_neg e]
        refine gmin5_congr 5 (fun s hs hc => ?_)
        have hlt := gxor_lt P h32 s hs hc
        rw [ih f' s (P ^^^ 2 ^ s) (by omega) (by omega) (by omega)]
/-- the way from p through P to the depot -/
def gGo (wy : Nat → Nat → Nat) (p P : Nat) : Nat := kG wy P p P
theorem gGo_0 (wy : Nat → Nat → Nat) (p : Nat) : gGo wy p 0 = wy p 5 := rfl
theorem gGo_s {wy : Nat → Nat → Nat} {p P : Nat} (h32 : P < 32) (h0 : P ≠ 0) : gGo wy p P = gmin5 (fun s => P.testBit s) (fun s => wy p s + gGo wy s (P ^^^ 2 ^ s)) 5 := by
  unfold gGo
  cases P with
  | zero => exact absurd rfl h0
  | succ P =>
    conv => lhs; unfold kG
    rw [if_neg h0]
    refine gmin5_congr 5 (fun s hs hc => ?_)
    have hlt := gxor_lt (P + 1) h32 s hs hc
    rw [kG_fuel P ((P + 1) ^^^ 2 ^ s) s _ (by omega) (by omega) (by omega)]
theorem gGo_le {wy : Nat → Nat → Nat} (hw : ∀ i, i < 6 → ∀ j, j < 6 → wy i j < 100) : ∀ P, P < 32 → ∀ p, p < 6 → gGo wy p P ≤ 100 * (P + 1) := by
  intro P
  induction P using Nat.strongRecOn with
  | _ P ih =>
    intro h32 p hp
    by_cases e : P = 0
    · subst e; rw [gGo_0]; have := hw p hp 5 (by omega); omega
    · rw [gGo_s h32 e]
      obtain ⟨s, hs, hc⟩ := gbit_ex P h32 e
      have h1 := gmin5_le (c := fun s => P.testBit s) (v := fun s => wy p s + gGo wy s (P ^^^ 2 ^ s)) 5 hs hc
      have hlt := gxor_lt P h32 s hs hc
      have h2 := ih (P ^^^ 2 ^ s) hlt (by omega) s (by omega)
      have h3 := hw p hp s (by omega)
      omega
/-- the round, as both find it -/
def gRo (wy : Nat → Nat → Nat) (P : Nat) : Nat := if P = 0 then 0 else gGo wy 5 P
theorem gclr {P s : Nat} (hs : s < 32) (hP : P < 32) (h : P.testBit s = true) : nI P &&& (1 <<< (nI s &&& 31) ^^^ -1) = nI (P ^^^ 2 ^ s) := by
  refine b_ext (fun i hi => ?_)
  rw [bt_clr hs hi, bt_nI hi, bt_nI hi, Nat.testBit_xor, Nat.testBit_two_pow]
  by_cases e : i = s
  · subst e; simp [h]
  · have e2 : ¬ s = i := fun z => e z.symm
    simp [e, e2]
def gwy (a : Nat → Nat → Int32) (row : Nat) (wy : Nat → Nat → Nat) : Prop := ∀ i, i < 6 → ∀ j, j < 6 → a row (6 * i + j) = nI (wy i j)
section GM12
variable {w a : Nat → Nat → Int32} {b : Nat → Nat → Int64} {r : Nat → Nat → Nat} {q : Nat → Nat → Option Nat} {y : gH} {n u : Nat}
theorem m_goes {wy : Nat → Nat → Nat} (hwy : gwy a 79 wy) (hw : ∀ i, i < 6 → ∀ j, j < 6 → wy i j < 100) : ∀ P, P < 32 → ∀ (d p : Nat), P + 1 ≤ d → p < 6 → (P = 0 → p ≠ 5) → gE d 149 [.ref 44, .int (nI p), .int (nI P)] (n, u, HP w a b r q y) (gre (nI (gGo wy p P)) (n, u, HP w a b r q y)) := by
  intro P
  induction P using Nat.strongRecOn with
  | _ P ih =>
    intro h32 d p hd hp hp0
    have hk : gMT[149]? = some gro_149 := rfl
    refine r_in hk [some (.ref 44), some (.int (nI p)), some (.int (nI P)), none, none, none] (Nat.le_of_ble_eq_true rfl) rfl ?_
    by_cases e : P = 0
    · subst e
      have hp5 : ¬ nI p = 5 := fun z => hp0 rfl (nI_inj (j := 5) z (by omega) (by omega))
      iterate 2 refine r_step hk rfl rfl rfl ?_
      refine r_ne (fun hq9 => absurd (show nI 0 = 0 from rfl) hq9) (fun _ => ?_)
      iterate 3 refine r_step hk rfl rfl rfl ?_
      refine r_ne (fun _ => ?_) (fun hq9 => absurd hq9 hp5)
      iterate 7 refine r_step hk rfl rfl rfl ?_
      refine r_ia hk (6 * p + 5) rfl rfl (nI_6 p 5) (by omega) rfl ?_
      refine r_iret hk rfl trivial ?_
      exact ⟨by rw [hwy p hp 5 (by omega), gGo_0], rfl⟩
    · have hP0 : ¬ nI P = 0 := nI_ne0 (by omega) (by omega)
      have hval : ∀ s, s < 5 → P.testBit s = true → wy p s + gGo wy s (P ^^^ 2 ^ s) < 1000000 := by
        intro s hs hc
        have hlt := gxor_lt P h32 s hs hc
        have h2 := gGo_le hw (P ^^^ 2 ^ s) (by omega) s (by omega)
        have h3 := hw p hp s (by omega)
        omega
      have loop : ∀ s, s ≤ 5 → ∀ (x z : Int32) (l5 : Option Value), z = nI s → x = (if gmin5 (fun s => P.testBit s) (fun s => wy p s + gGo wy s (P ^^^ 2 ^ s)) s = 1000000 then -1 else nI (gmin5 (fun s => P.testBit s) (fun s => wy p s + gGo wy s (P ^^^ 2 ^ s)) s)) → gX d 149 30 [some (.ref 44), some (.int (nI p)), some (.int (nI P)), some (.int x), some (.int z), l5] [] (n, u, HP w a b r q y) (gre (nI (gGo wy p P)) (n, u, HP w a b r q y)) := by
        refine g_down ?_ ?_
        · intro x z l5 hz hx
          subst hz
          obtain ⟨s, hs, hc⟩ := gbit_ex P h32 e
          have h1 := gmin5_le (c := fun s => P.testBit s) (v := fun s => wy p s + gGo wy s (P ^^^ 2 ^ s)) 5 hs hc
          have h2 := hval s hs hc
          rw [if_neg (by omega), ← gGo_s h32 e] at hx
          iterate 3 refine r_step hk rfl rfl rfl ?_
          refine r_ge (fun _ => ?_) (fun hq9 => absurd (by decide) hq9)
          refine r_step hk rfl rfl rfl ?_
          refine r_iret hk rfl trivial ?_
          exact ⟨by rw [hx], rfl⟩
        · intro s hs ih2 x z l5 hz hx
          subst hz
          have htp := gmin5_top (c := fun s => P.testBit s) (v := fun s => wy p s + gGo wy s (P ^^^ 2 ^ s)) s
          have h33 : ¬ (5 : Int32) ≤ nI s := nI_ge (b := 5) hs (by decide)
          have hbt : ((nI P >>> (nI s &&& 31)) &&& 1 = 1) ↔ P.testBit s = true := by rw [bt_test1 (by omega), bt_nI (by omega)]
          by_cases hc : P.testBit s = true
          · have hlt := gxor_lt P h32 s hs hc
            have hv := hval s hs hc
            have hm : gmin5 (fun s => P.testBit s) (fun s => wy p s + gGo wy s (P ^^^ 2 ^ s)) (s + 1) = if wy p s + gGo wy s (P ^^^ 2 ^ s) < gmin5 (fun s => P.testBit s) (fun s => wy p s + gGo wy s (P ^^^ 2 ^ s)) s then wy p s + gGo wy s (P ^^^ 2 ^ s) else gmin5 (fun s => P.testBit s) (fun s => wy p s + gGo wy s (P ^^^ 2 ^ s)) s := by
              conv => lhs; unfold gmin5
              simp only [hc, if_true]
            generalize hM : gmin5 (fun s => P.testBit s) (fun s => wy p s + gGo wy s (P ^^^ 2 ^ s)) s = M at *
            generalize hV : wy p s + gGo wy s (P ^^^ 2 ^ s) = V at *
            have esum : a 79 (6 * p + s) + nI (gGo wy s (P ^^^ 2 ^ s)) = nI V := by rw [hwy p hp s (by omega), nI_add, hV]
            have hE : gE (d - 1) 149 [.ref 44, .int (nI s), .int (nI P &&& (1 <<< (nI s &&& 31) ^^^ -1))] (n, u, HP w a b r q y) (gre (nI (gGo wy s (P ^^^ 2 ^ s))) (n, u, HP w a b r q y)) := by
              rw [gclr (by omega) h32 hc]
              exact ih (P ^^^ 2 ^ s) hlt (by omega) (d - 1) s (by omega) (by omega) (fun _ => by omega)
            iterate 3 refine r_step hk rfl rfl rfl ?_
            refine r_ge (fun hq9 => absurd hq9 h33) (fun _ => ?_)
            iterate 7 refine r_step hk rfl rfl rfl ?_
            refine r_ne (fun hq9 => absurd (hbt.mpr hc) hq9) (fun _ => ?_)
            iterate 7 refine r_step hk rfl rfl rfl ?_
            refine r_ia hk (6 * p + s) rfl rfl (nI_6 p s) (by omega) rfl ?_
            iterate 9 refine r_step hk rfl rfl rfl ?_
            refine r_callV hk [.ref 44, .int (nI s), .int (nI P &&& (1 <<< (nI s &&& 31) ^^^ -1))] [.int (a 79 (6 * p + s))] rfl rfl rfl rfl rfl rfl rfl (by omega) hE ?_
            rintro _ _ ⟨rfl, rfl⟩
            iterate 4 refine r_step hk rfl rfl rfl ?_
            refine r_lt (fun h76 => ?_) (fun h76 => ?_)
            · iterate 5 refine r_step hk rfl rfl rfl ?_
              refine ih2 _ _ _ (nI_1 s) ?_
              rw [hm]
              first | (rw [esum]; by_cases hMt : M = 1000000; (rw [if_pos (by omega : V < M), if_neg (by omega : ¬ V = 1000000)]); (exfalso; rw [if_neg hMt] at hx; rw [hx] at h76; exact nI_pos (by omega) h76)) | (by_cases hMt : M = 1000000; (exfalso; rw [if_pos hMt] at hx; rw [hx] at h76; exact h76 (by decide)); (have hge : M ≤ V := (by rw [if_neg hMt] at hx; have h82' : x ≤ a 79 (6 * p + s) + nI (gGo wy s (P ^^^ 2 ^ s)) := h82; rw [esum, hx] at h82'; exact (nI_leI (by omega) (by omega)).mp h82'); rw [if_neg (by omega : ¬ V < M), if_neg hMt, hx, if_neg hMt])) | (rw [esum]; by_cases hMt : M = 1000000; (exfalso; rw [if_pos hMt] at hx; rw [hx] at h76; exact h76 (by decide)); (have hlt2 : V < M := (by rw [if_neg hMt] at hx; have h82' : ¬ x ≤ a 79 (6 * p + s) + nI (gGo wy s (P ^^^ 2 ^ s)) := h82; rw [esum, hx] at h82'; exact Nat.lt_of_not_le (fun hle => h82' (nI_le hle (by omega)))); rw [if_pos hlt2, if_neg (by omega : ¬ V = 1000000)]))
            · iterate 3 refine r_step hk rfl rfl rfl ?_
              refine r_ge (fun h82 => ?_) (fun h82 => ?_)
              · iterate 4 refine r_step hk rfl rfl rfl ?_
                refine ih2 _ _ _ (nI_1 s) ?_
                rw [hm]
                first | (rw [esum]; by_cases hMt : M = 1000000; (rw [if_pos (by omega : V < M), if_neg (by omega : ¬ V = 1000000)]); (exfalso; rw [if_neg hMt] at hx; rw [hx] at h76; exact nI_pos (by omega) h76)) | (by_cases hMt : M = 1000000; (exfalso; rw [if_pos hMt] at hx; rw [hx] at h76; exact h76 (by decide)); (have hge : M ≤ V := (by rw [if_neg hMt] at hx; have h82' : x ≤ a 79 (6 * p + s) + nI (gGo wy s (P ^^^ 2 ^ s)) := h82; rw [esum, hx] at h82'; exact (nI_leI (by omega) (by omega)).mp h82'); rw [if_neg (by omega : ¬ V < M), if_neg hMt, hx, if_neg hMt])) | (rw [esum]; by_cases hMt : M = 1000000; (exfalso; rw [if_pos hMt] at hx; rw [hx] at h76; exact h76 (by decide)); (have hlt2 : V < M := (by rw [if_neg hMt] at hx; have h82' : ¬ x ≤ a 79 (6 * p + s) + nI (gGo wy s (P ^^^ 2 ^ s)) := h82; rw [esum, hx] at h82'; exact Nat.lt_of_not_le (fun hle => h82' (nI_le hle (by omega)))); rw [if_pos hlt2, if_neg (by omega : ¬ V = 1000000)]))
              · iterate 5 refine r_step hk rfl rfl rfl ?_
                refine ih2 _ _ _ (nI_1 s) ?_
                rw [hm]
                first | (rw [esum]; by_cases hMt : M = 1000000; (rw [if_pos (by omega : V < M), if_neg (by omega : ¬ V = 1000000)]); (exfalso; rw [if_neg hMt] at hx; rw [hx] at h76; exact nI_pos (by omega) h76)) | (by_cases hMt : M = 1000000; (exfalso; rw [if_pos hMt] at hx; rw [hx] at h76; exact h76 (by decide)); (have hge : M ≤ V := (by rw [if_neg hMt] at hx; have h82' : x ≤ a 79 (6 * p + s) + nI (gGo wy s (P ^^^ 2 ^ s)) := h82; rw [esum, hx] at h82'; exact (nI_leI (by omega) (by omega)).mp h82'); rw [if_neg (by omega : ¬ V < M), if_neg hMt, hx, if_neg hMt])) | (rw [esum]; by_cases hMt : M = 1000000; (exfalso; rw [if_pos hMt] at hx; rw [hx] at h76; exact h76 (by decide)); (have hlt2 : V < M := (by rw [if_neg hMt] at hx; have h82' : ¬ x ≤ a 79 (6 * p + s) + nI (gGo wy s (P ^^^ 2 ^ s)) := h82; rw [esum, hx] at h82'; exact Nat.lt_of_not_le (fun hle => h82' (nI_le hle (by omega)))); rw [if_pos hlt2, if_neg (by omega : ¬ V = 1000000)]))
          · have hm : gmin5 (fun s => P.testBit s) (fun s => wy p s + gGo wy s (P ^^^ 2 ^ s)) (s + 1) = gmin5 (fun s => P.testBit s) (fun s => wy p s + gGo wy s (P ^^^ 2 ^ s)) s := by
              conv => lhs; unfold gmin5
              rw [if_neg hc]
            iterate 3 refine r_step hk rfl rfl rfl ?_
            refine r_ge (fun hq9 => absurd hq9 h33) (fun _ => ?_)
            iterate 7 refine r_step hk rfl rfl rfl ?_
            refine r_ne (fun _ => ?_) (fun hq9 => absurd hq9 (mt hbt.mp hc))
            iterate 2 refine r_step hk rfl rfl rfl ?_
            exact ih2 _ _ _ (nI_1 s) (by rw [hm]; exact hx)
      iterate 2 refine r_step hk rfl rfl rfl ?_
      refine r_ne (fun _ => ?_) (fun hq9 => absurd hq9 hP0)
      iterate 4 refine r_step hk rfl rfl rfl ?_
      exact loop 0 (Nat.zero_le _) _ _ _ rfl rfl
theorem m_round {d : Nat} (hd : 40 ≤ d) {wy : Nat → Nat → Nat} (hwy : gwy a 79 wy) (hw : ∀ i, i < 6 → ∀ j, j < 6 → wy i j < 100) (x : Int32) : gE d 148 [.ref 44, .int x] (n, u, HP w a b r q y) (fun v S' => S' = (n, u, HP (gTh w) a b r q y) ∧ ((∃ P, P < 32 ∧ x = nI P ∧ v = some (.int (nI (gRo wy P)))) ∨ (¬ gin x 32 ∧ v = some (.int (-1))))) := by
  have hk : gMT[148]? = some gro_148 := rfl
  refine r_in hk [some (.ref 44), some (.int x)] (Nat.le_of_ble_eq_true rfl) rfl ?_
  have go : ∀ P, P < 32 → x = nI P → gE (d - 1) 149 [.ref 44, .int 5, .int x] (n, u, HP (gTh w) a b r q y) (gre (nI (gRo wy P)) (n, u, HP (gTh w) a b r q y)) := by
    intro P hP hx
    subst hx
    by_cases e : P = 0
    · subst e
      have hk : gMT[149]? = some gro_149 := rfl
      refine r_in hk [some (.ref 44), some (.int 5), some (.int (nI 0)), none, none, none] (Nat.le_of_ble_eq_true rfl) rfl ?_
      iterate 2 refine r_step hk rfl rfl rfl ?_
      refine r_ne (fun hq9 => absurd (show nI 0 = 0 from rfl) hq9) (fun _ => ?_)
      iterate 3 refine r_step hk rfl rfl rfl ?_
      refine r_ne (fun hq9 => absurd (show (5 : Int32) = 5 from rfl) hq9) (fun _ => ?_)
      iterate 2 refine r_step hk rfl rfl rfl ?_
      refine r_iret hk rfl trivial ?_
      exact ⟨rfl, rfl⟩
    · unfold gRo
      rw [if_neg e]
      exact m_goes hwy hw P hP (d - 1) 5 (by omega) (by omega) (fun z => absurd z e)
  iterate 2 refine r_step hk rfl rfl rfl ?_
  refine r_putI hk rfl rfl rfl rfl ?_
  iterate 2 refine r_step hk rfl rfl rfl ?_
  refine r_lt (fun h6 => ?_) (fun h6 => ?_)
  · iterate 2 refine r_step hk rfl rfl rfl ?_
    refine r_iret hk rfl trivial ?_
    first | exact ⟨rfl, Or.inr ⟨gin_lt h6 (by decide), rfl⟩⟩ | exact ⟨rfl, Or.inr ⟨gin_gt (M := 31) (Int32.not_le.mp h12) (by decide), rfl⟩⟩
  · iterate 3 refine r_step hk rfl rfl rfl ?_
    refine r_le (fun h12 => ?_) (fun h12 => ?_)
    · obtain ⟨P, hP, hx⟩ := gin_of' (M := 31) h6 (Int32.not_lt.mpr h12) (by decide)
      skip
      iterate 3 refine r_step hk rfl rfl rfl ?_
      refine r_callV hk [.ref 44, .int 5, .int x] [] rfl rfl rfl rfl rfl rfl rfl (by omega) (go P hP hx) ?_
      rintro _ _ ⟨rfl, rfl⟩
      refine r_iret hk rfl trivial ?_
      exact ⟨rfl, Or.inl ⟨P, hP, hx, rfl⟩⟩
    · iterate 2 refine r_step hk rfl rfl rfl ?_
      refine r_iret hk rfl trivial ?_
      first | exact ⟨rfl, Or.inr ⟨gin_lt h6 (by decide), rfl⟩⟩ | exact ⟨rfl, Or.inr ⟨gin_gt (M := 31) (Int32.not_le.mp h12) (by decide), rfl⟩⟩
end GM12
end
section
-- deps: 37 38 39
/-! ===== a text: tokens, and a small machine that reads them ===== -/
abbrev kTok : Type := Nat × Nat × Nat
abbrev kWt : Type := Nat × Nat × Nat
abbrev kLs : Type := List (Nat × List Nat)
/-- tag, waits, tokens, codes of the line, lines, way or fault -/
abbrev kSt : Type := Nat × List kWt × List kTok × List Nat × kLs × Nat
def khd (ts : List kTok) : kTok := ts.headD (301, 0, 0)
def kF (f : Nat) : kSt := (3, [], [], [], [], f)
def kfl (k : Nat) (ts : List kTok) : kSt := kF (k + 16 * (khd ts).2.2)
abbrev kIsPart (c : Nat) : Prop := c = 40 ∨ c = 300 ∨ (206 ≤ c ∧ c < 212)
def kcode (t : kTok) : Nat := if t.1 = 300 then t.2.1 else 10000 + (t.1 - 206)
def kA (stk : List kWt) (ts : List kTok) (cs : List Nat) (ls : kLs) (wy : Nat) : kSt := (0, stk, ts, cs, ls, wy)
def kB (stk : List kWt) (ts : List kTok) (cs : List Nat) (ls : kLs) (wy : Nat) : kSt := (1, stk, ts, cs, ls, wy)
def kC (stk : List kWt) (ts : List kTok) (cs : List Nat) (ls : kLs) (wy : Nat) : kSt := (4, stk, ts, cs, ls, wy)
def kD (stk : List kWt) (ts : List kTok) (cs : List Nat) (ls : kLs) (wy : Nat) : kSt := (5, stk, ts, cs, ls, wy)
def kX (ts : List kTok) (cs : List Nat) (ls : kLs) (wy : Nat) : kSt := (2, [], ts, cs, ls, wy)
def kT (ts : List kTok) (ls : kLs) : kSt := (6, [], ts, [], ls, 0)
def kE (ls : kLs) : kSt := (7, [], [], [], ls, 0)
def kstep : kSt → kSt
  | (0, stk, ts, cs, ls, wy) => if ¬ kIsPart (khd ts).1 then kfl 1 ts else if stk.length = 6 then kfl 5 ts else if (khd ts).1 = 40 then kA ((0, 0, 0) :: stk) ts.tail cs ls wy else kB stk ts.tail (cs ++ [kcode (khd ts)]) ls wy
  | (1, (s, c, a) :: stk, ts, cs, ls, wy) => if s ≠ 0 then kB ((0, c, a) :: stk) ts (cs ++ [s]) ls wy else if (khd ts).1 = 43 ∨ (khd ts).1 = 45 then kA ((if (khd ts).1 = 43 then 10010 else 10011, c, a) :: stk) ts.tail cs ls wy else kC ((s, c, a) :: stk) ts cs ls wy
  | (4, (s, c, a) :: stk, ts, cs, ls, wy) => if c ≠ 0 then kD ((s, 0, a) :: stk) ts (cs ++ [c]) ls wy else if (khd ts).1 = 60 ∨ (khd ts).1 = 61 then kA ((s, if (khd ts).1 = 60 then 10012 else 10013, a) :: stk) ts.tail cs ls wy else kD ((s, c, a) :: stk) ts cs ls wy
  | (5, (s, c, a) :: stk, ts, cs, ls, wy) => if a ≠ 0 then kD ((s, c, 0) :: stk) ts (cs ++ [10014]) ls wy else if (khd ts).1 = 205 then kA ((s, c, 10014) :: stk) ts.tail cs ls wy else if stk = [] then kX ts cs ls wy else if (khd ts).1 = 41 then kB stk ts.tail cs ls wy else kfl 1 ts
  | (2, _, ts, cs, ls, wy) => if (khd ts).1 = 59 then kT ts.tail (ls ++ [(wy, cs)]) else kfl 1 ts
  | (6, _, ts, _, ls, _) => if (khd ts).1 = 301 then kE ls else if ¬ (200 ≤ (khd ts).1 ∧ (khd ts).1 < 204) then kfl 1 ts else if ls.length = 16 then kfl 5 ts else if ¬ (khd ts.tail).1 = 204 then kfl 1 ts.tail else kA [(0, 0, 0)] ts.tail.tail [] ls ((khd ts).1 - 199)
  | s => s
def kit : Nat → kSt → kSt
  | 0, s => s
  | n + 1, s => kit n (kstep s)
def kR (s t : kSt) : Prop := ∃ n, kit n s = t
theorem kR_rf (s : kSt) : kR s s := ⟨0, rfl⟩
theorem kR_st {s s' t : kSt} (h : kstep s = s') (h2 : kR s' t) : kR s t := by
  obtain ⟨n, hn⟩ := h2
  exact ⟨n + 1, by subst h; exact hn⟩
theorem kit_add : ∀ (n m : Nat) (s : kSt), kit (n + m) s = kit m (kit n s) := by
  intro n
  induction n with
  | zero => intro m s; rw [Nat.zero_add]; rfl
  | succ n ih => intro m s; rw [Nat.succ_add]; exact ih m (kstep s)
theorem kR_tr {s t v : kSt} (h1 : kR s t) (h2 : kR t v) : kR s v := by
  obtain ⟨n, hn⟩ := h1
  obtain ⟨m, hm⟩ := h2
  exact ⟨n + m, by rw [kit_add, hn, hm]⟩
theorem kR_end {s t t' : kSt} (h1 : kR s t) (h2 : kstep t = t') : kR s t' := kR_tr h1 (kR_st h2 (kR_rf _))
theorem kit_fin {t : kSt} (h : kstep t = t) : ∀ n, kit n t = t := by
  intro n
  induction n with
  | zero => rfl
  | succ n ih => show kit n (kstep t) = t; rw [h, ih]
theorem kR_det {s t1 t2 : kSt} (h1 : kR s t1) (h2 : kR s t2) (f1 : kstep t1 = t1) (f2 : kstep t2 = t2) : t1 = t2 := by
  obtain ⟨n, hn⟩ := h1
  obtain ⟨m, hm⟩ := h2
  have e1 : kit (n + m) s = t1 := by rw [kit_add, hn, kit_fin f1]
  have e2 : kit (m + n) s = t2 := by rw [kit_add, hm, kit_fin f2]
  rw [← e1, ← e2, Nat.add_comm]
theorem kF_fin (f : Nat) : kstep (kF f) = kF f := rfl
theorem kE_fin (ls : kLs) : kstep (kE ls) = kE ls := rfl
/-! what holds of every state -/
def kw : Nat → List Nat → Option Nat
  | n, [] => some n
  | n, e :: p => if e < 10006 ∧ n < 16 then kw (n + 1) p else if 10010 ≤ e ∧ e < 10015 ∧ 2 ≤ n then kw (n - 1) p else none
theorem kw_gwf : ∀ (p : List Nat) (n : Nat), kw n p = some 1 → gwf n p := by
  intro p
  induction p with
  | nil => intro n h; simpa [kw, gwf] using h
  | cons e p ih =>
    intro n h
    simp only [kw] at h
    split at h
    · rename_i hc; exact Or.inl ⟨hc.1, hc.2, ih _ h⟩
    · split at h
      · rename_i hc; exact Or.inr ⟨hc.1, hc.2.1, hc.2.2, ih _ h⟩
      · cases h
theorem kw_app : ∀ (p : List Nat) (n m : Nat) (p2 : List Nat), kw n p = some m → kw n (p ++ p2) = kw m p2 := by
  intro p
  induction p with
  | nil => intro n m p2 h; cases h; rfl
  | cons e p ih =>
    intro n m p2 h
    simp only [kw, List.cons_append] at h ⊢
    split at h
    · rename_i hc; rw [if_pos hc]; exact ih _ _ _ h
    · rename_i hc
      rw [if_neg hc]
      split at h
      · rename_i hc2; rw [if_pos hc2]; exact ih _ _ _ h
      · cases h
theorem kw_push {p : List Nat} {n m e : Nat} (h : kw n p = some m) (he : e < 10006) (hm : m < 16) : kw n (p ++ [e]) = some (m + 1) := by
  rw [kw_app p n m [e] h]
  simp only [kw]
  rw [if_pos ⟨he, hm⟩]
theorem kw_op {p : List Nat} {n m e : Nat} (h : kw n p = some m) (he : 10010 ≤ e ∧ e < 10015) (hm : 2 ≤ m) : kw n (p ++ [e]) = some (m - 1) := by
  rw [kw_app p n m [e] h]
  simp only [kw]
  rw [if_neg (by omega), if_pos ⟨he.1, he.2, hm⟩]
def kwc (t : kWt) : Nat := (if t.1 = 0 then 0 else 1) + (if t.2.1 = 0 then 0 else 1) + (if t.2.2 = 0 then 0 else 1)
def kws : List kWt → Nat
  | [] => 0
  | t :: r => kwc t + kws r
def kwok (t : kWt) : Prop := (t.1 = 0 ∨ t.1 = 10010 ∨ t.1 = 10011) ∧ (t.2.1 = 0 ∨ t.2.1 = 10012 ∨ t.2.1 = 10013) ∧ (t.2.2 = 0 ∨ t.2.2 = 10014)
def klen : kLs → Nat
  | [] => 0
  | l :: r => l.2.length + klen r
theorem klen_app (l1 l2 : kLs) : klen (l1 ++ l2) = klen l1 + klen l2 := by
  induction l1 with
  | nil => simp [klen]
  | cons a t ih => simp only [List.cons_append, klen, ih]; omega
def kTsok (ts : List kTok) : Prop := ts ≠ [] ∧ (∀ t ∈ ts, t.1 = 300 → t.2.1 < 10000) ∧ ∀ (h : ts ≠ []), (ts.getLast h).1 = 301 ∧ ∀ t ∈ ts.dropLast, t.1 ≠ 301
def kLsok (ls : kLs) : Prop := ls.length ≤ 16 ∧ ∀ l ∈ ls, 1 ≤ l.1 ∧ l.1 ≤ 4 ∧ kw 0 l.2 = some 1
theorem kws_le : ∀ stk : List kWt, kws stk ≤ 3 * stk.length := by
  intro stk
  induction stk with
  | nil => exact Nat.le_refl _
  | cons t r ih =>
    have : kwc t ≤ 3 := by unfold kwc; repeat (first | omega | split)
    simp only [kws, List.length_cons]; omega
/-- the ledger of a state; K bounds codes and tokens -/
def kinv (K : Nat) : kSt → Prop
  | (0, stk, ts, cs, ls, wy) => kLsok ls ∧ ls.length < 16 ∧ 1 ≤ wy ∧ wy ≤ 4 ∧ stk ≠ [] ∧ stk.length ≤ 6 ∧ (∀ t ∈ stk, kwok t) ∧ kw 0 cs = some (kws stk) ∧ kTsok ts ∧ klen ls + ls.length + 1 + cs.length + kws stk + ts.length ≤ K
  | (1, stk, ts, cs, ls, wy) => kLsok ls ∧ ls.length < 16 ∧ 1 ≤ wy ∧ wy ≤ 4 ∧ stk ≠ [] ∧ stk.length ≤ 5 ∧ (∀ t ∈ stk, kwok t) ∧ kw 0 cs = some (kws stk + 1) ∧ kTsok ts ∧ klen ls + ls.length + 1 + cs.length + kws stk + ts.length ≤ K
  | (4, stk, ts, cs, ls, wy) => kLsok ls ∧ ls.length < 16 ∧ 1 ≤ wy ∧ wy ≤ 4 ∧ (∃ c a r, stk = (0, c, a) :: r) ∧ stk.length ≤ 5 ∧ (∀ t ∈ stk, kwok t) ∧ kw 0 cs = some (kws stk + 1) ∧ kTsok ts ∧ klen ls + ls.length + 1 + cs.length + kws stk + ts.length ≤ K
  | (5, stk, ts, cs, ls, wy) => kLsok ls ∧ ls.length < 16 ∧ 1 ≤ wy ∧ wy ≤ 4 ∧ (∃ a r, stk = (0, 0, a) :: r) ∧ stk.length ≤ 5 ∧ (∀ t ∈ stk, kwok t) ∧ kw 0 cs = some (kws stk + 1) ∧ kTsok ts ∧ klen ls + ls.length + 1 + cs.length + kws stk + ts.length ≤ K
  | (2, _, ts, cs, ls, wy) => kLsok ls ∧ ls.length < 16 ∧ 1 ≤ wy ∧ wy ≤ 4 ∧ kw 0 cs = some 1 ∧ kTsok ts ∧ klen ls + ls.length + 1 + cs.length + ts.length ≤ K
  | (6, _, ts, _, ls, _) => kLsok ls ∧ kTsok ts ∧ klen ls + ls.length + ts.length ≤ K
  | (7, _, _, _, ls, _) => kLsok ls
  | _ => True
theorem kTsok_tl {ts : List kTok} (h : kTsok ts) (hh : (khd ts).1 ≠ 301) : kTsok ts.tail := by
  obtain ⟨h1, h2, h3⟩ := h
  cases ts with
  | nil => exact absurd rfl h1
  | cons t r =>
    cases r with
    | nil =>
      have := (h3 (by simp)).1
      exact absurd this hh
    | cons t2 r2 =>
      refine ⟨by simp, fun x hx => h2 x (List.mem_cons_of_mem _ hx), fun _ => ?_⟩
      obtain ⟨q1, q2⟩ := h3 (by simp)
      refine ⟨by simpa using q1, fun x hx => q2 x ?_⟩
      simp only [List.dropLast_cons₂, List.mem_cons]
      exact Or.inr hx
theorem klen_tl {ts : List kTok} (h : kTsok ts) : ts.length = ts.tail.length + 1 := by
  cases ts with
  | nil => exact absurd rfl h.1
  | cons t r => rfl
theorem khd_mem {ts : List kTok} (h : kTsok ts) : khd ts ∈ ts := by
  cases ts with
  | nil => exact absurd rfl h.1
  | cons t r => simp [khd]
theorem kcode_lt {ts : List kTok} (h : kTsok ts) (hp : kIsPart (khd ts).1) (h40 : ¬ (khd ts).1 = 40) : kcode (khd ts) < 10006 := by
  unfold kcode
  split
  · rename_i e; have := h.2.1 _ (khd_mem h) e; omega
  · rename_i e
    rcases hp with z | z | z
    · exact absurd z h40
    · exact absurd z e
    · omega
theorem kinv_st {K : Nat} {s : kSt} (h : kinv K s) : kinv K (kstep s) := by
  obtain ⟨tag, stk, ts, cs, ls, wy⟩ := s
  match tag with
  | 0 =>
    obtain ⟨i1, i2, i3, i4, i5, i6, i7, i8, i9, i10⟩ := h
    have hws := kws_le stk
    have hl := klen_tl i9
    show kinv K (if _ then _ else _)
    split
    · trivial
    rename_i hp
    have hp := Decidable.of_not_not hp
    have hne : (khd ts).1 ≠ 301 := by unfold kIsPart at hp; omega
    split
    · trivial
    rename_i h6
    split
    · exact ⟨i1, i2, i3, i4, by simp, by simp; omega, fun t ht => by
        simp only [List.mem_cons] at ht
        rcases ht with rfl | ht
        · exact ⟨Or.inl rfl, Or.inl rfl, Or.inl rfl⟩
        · exact i7 t ht, by rw [i8]; simp [kws, kwc], kTsok_tl i9 hne, by simp [kws, kwc]; omega⟩
    · rename_i h40
      exact ⟨i1, i2, i3, i4, i5, by omega, i7, kw_push i8 (kcode_lt i9 hp h40) (by omega), kTsok_tl i9 hne, by simp; omega⟩
  | 1 =>
    obtain ⟨i1, i2, i3, i4, i5, i6, i7, i8, i9, i10⟩ := h
    cases stk with
    | nil => exact absurd rfl i5
    | cons t r =>
      obtain ⟨s, c, a⟩ := t
      have ht := i7 (s, c, a) (by simp)
      have hr : ∀ t ∈ r, kwok t := fun t ht => i7 t (List.mem_cons_of_mem _ ht)
      have hl := klen_tl i9
      show kinv K (if _ then _ else _)
      split
      · rename_i hs
        have e1 : kws ((s, c, a) :: r) = kws ((0, c, a) :: r) + 1 := by simp only [kws, kwc, hs, eq_self, if_true, if_false]; omega
        refine ⟨i1, i2, i3, i4, by simp, i6, fun t ht2 => ?_, ?_, i9, ?_⟩
        · simp only [List.mem_cons] at ht2
          rcases ht2 with rfl | ht2
          · exact ⟨Or.inl rfl, ht.2⟩
          · exact hr t ht2
        · have := kw_op (e := s) i8 (by rcases ht.1 with z | z | z <;> simp only at z <;> omega) (by omega)
          rw [this, e1]; rfl
        · simp only [List.length_append, List.length_cons, List.length_nil]; rw [e1] at i10; omega
      · rename_i hs
        have hs : s = 0 := Decidable.of_not_not hs
        subst hs
        split
        · rename_i hq
          have hne : (khd ts).1 ≠ 301 := by omega
          have e1 : ∀ x, x ≠ 0 → kws ((x, c, a) :: r) = kws ((0, c, a) :: r) + 1 := by intro x hx; simp only [kws, kwc, hx, eq_self, if_true, if_false]; omega
          have hx : (if (khd ts).1 = 43 then 10010 else 10011) ≠ 0 := by split <;> omega
          refine ⟨i1, i2, i3, i4, by simp, by simp at i6 ⊢; omega, fun t ht2 => ?_, ?_, kTsok_tl i9 hne, ?_⟩
          · simp only [List.mem_cons] at ht2
            rcases ht2 with rfl | ht2
            · exact ⟨by show _ = _ ∨ _; split <;> simp, ht.2⟩
            · exact hr t ht2
          · rw [e1 _ hx, i8]
          · rw [e1 _ hx]; omega
        · exact ⟨i1, i2, i3, i4, ⟨c, a, r, rfl⟩, i6, i7, i8, i9, i10⟩
  | 4 =>
    obtain ⟨i1, i2, i3, i4, ⟨c, a, r, rfl⟩, i6, i7, i8, i9, i10⟩ := h
    have ht := i7 (0, c, a) (by simp)
    have hr : ∀ t ∈ r, kwok t := fun t ht => i7 t (List.mem_cons_of_mem _ ht)
    have hl := klen_tl i9
    show kinv K (if _ then _ else _)
    split
    · rename_i hs
      have e1 : kws ((0, c, a) :: r) = kws ((0, 0, a) :: r) + 1 := by simp only [kws, kwc, hs, eq_self, if_true, if_false]; omega
      refine ⟨i1, i2, i3, i4, ⟨a, r, rfl⟩, i6, fun t ht2 => ?_, ?_, i9, ?_⟩
      · simp only [List.mem_cons] at ht2
        rcases ht2 with rfl | ht2
        · exact ⟨Or.inl rfl, Or.inl rfl, ht.2.2⟩
        · exact hr t ht2
      · have := kw_op (e := c) i8 (by rcases ht.2.1 with z | z | z <;> simp only at z <;> omega) (by omega)
        rw [this, e1]; rfl
      · simp only [List.length_append, List.length_cons, List.length_nil]; rw [e1] at i10; omega
    · rename_i hs
      have hs : c = 0 := Decidable.of_not_not hs
      subst hs
      split
      · rename_i hq
        have hne : (khd ts).1 ≠ 301 := by omega
        have e1 : ∀ x, x ≠ 0 → kws ((0, x, a) :: r) = kws ((0, 0, a) :: r) + 1 := by intro x hx; simp only [kws, kwc, hx, eq_self, if_true, if_false]; omega
        have hx : (if (khd ts).1 = 60 then 10012 else 10013) ≠ 0 := by split <;> omega
        refine ⟨i1, i2, i3, i4, by simp, by simp at i6 ⊢; omega, fun t ht2 => ?_, ?_, kTsok_tl i9 hne, ?_⟩
        · simp only [List.mem_cons] at ht2
          rcases ht2 with rfl | ht2
          · exact ⟨Or.inl rfl, by show _ = _ ∨ _; split <;> simp, ht.2.2⟩
          · exact hr t ht2
        · rw [e1 _ hx, i8]
        · rw [e1 _ hx]; omega
      · exact ⟨i1, i2, i3, i4, ⟨a, r, rfl⟩, i6, i7, i8, i9, i10⟩
  | 5 =>
    obtain ⟨i1, i2, i3, i4, ⟨a, r, rfl⟩, i6, i7, i8, i9, i10⟩ := h
    have ht := i7 (0, 0, a) (by simp)
    have hr : ∀ t ∈ r, kwok t := fun t ht => i7 t (List.mem_cons_of_mem _ ht)
    have hl := klen_tl i9
    have e1 : ∀ x, x ≠ 0 → kws ((0, 0, x) :: r) = kws ((0, 0, 0) :: r) + 1 := by intro x hx; simp only [kws, kwc, hx, eq_self, if_true, if_false]; omega
    show kinv K (if _ then _ else _)
    split
    · rename_i hs
      refine ⟨i1, i2, i3, i4, ⟨0, r, rfl⟩, i6, fun t ht2 => ?_, ?_, i9, ?_⟩
      · simp only [List.mem_cons] at ht2
        rcases ht2 with rfl | ht2
        · exact ⟨Or.inl rfl, Or.inl rfl, Or.inl rfl⟩
        · exact hr t ht2
      · have := kw_op (e := 10014) i8 (by omega) (by rw [e1 a hs]; omega)
        rw [this, e1 a hs]; rfl
      · simp only [List.length_append, List.length_cons, List.length_nil]; rw [e1 a hs] at i10; omega
    · rename_i hs
      have hs : a = 0 := Decidable.of_not_not hs
      subst hs
      have e0 : kws ((0, 0, 0) :: r) = kws r := by simp [kws, kwc]
      split
      · rename_i hq
        have hne : (khd ts).1 ≠ 301 := by omega
        refine ⟨i1, i2, i3, i4, by simp, by simp at i6 ⊢; omega, fun t ht2 => ?_, ?_, kTsok_tl i9 hne, ?_⟩
        · simp only [List.mem_cons] at ht2
          rcases ht2 with rfl | ht2
          · exact ⟨Or.inl rfl, Or.inl rfl, Or.inr rfl⟩
          · exact hr t ht2
        · rw [e1 _ (by omega), i8]
        · rw [e1 _ (by omega)]; omega
      · split
        · rename_i hrn
          subst hrn
          exact ⟨i1, i2, i3, i4, i8, i9, by simp only [kws, kwc] at i10; simp at i10; omega⟩
        · rename_i hrn
          split
          · rename_i hq
            have hne : (khd ts).1 ≠ 301 := by omega
            exact ⟨i1, i2, i3, i4, hrn, by simp at i6; omega, hr, by rw [e0] at i8; exact i8, kTsok_tl i9 hne, by rw [e0] at i10; omega⟩
          · trivial
  | 2 =>
    obtain ⟨i1, i2, i3, i4, i8, i9, i10⟩ := h
    have hl := klen_tl i9
    show kinv K (if _ then _ else _)
    split
    · rename_i hq
      have hne : (khd ts).1 ≠ 301 := by omega
      refine ⟨⟨by simp; omega, fun l hl2 => ?_⟩, kTsok_tl i9 hne, ?_⟩
      · simp only [List.mem_append, List.mem_singleton] at hl2
        rcases hl2 with hl2 | rfl
        · exact i1.2 l hl2
        · exact ⟨i3, i4, i8⟩
      · rw [klen_app]; simp [klen]; omega
    · trivial
  | 6 =>
    obtain ⟨i1, i9, i10⟩ := h
    have hl := klen_tl i9
    show kinv K (if _ then _ else _)
    split
    · exact i1
    rename_i hne
    split
    · trivial
    rename_i hw
    have hw := Decidable.of_not_not hw
    split
    · trivial
    rename_i h16
    have ht := kTsok_tl i9 hne
    have hl2 := klen_tl ht
    split
    · trivial
    rename_i hwh
    have hwh := Decidable.of_not_not hwh
    have := i1.1
    exact ⟨i1, by omega, by omega, by omega, by simp, by simp, fun t ht2 => by
      simp only [List.mem_cons, List.not_mem_nil, or_false] at ht2
      subst ht2
      exact ⟨Or.inl rfl, Or.inl rfl, Or.inl rfl⟩, rfl, kTsok_tl ht (by omega), by simp [kws, kwc]; omega⟩
  | 7 => exact h
  | 3 => exact h
  | k + 8 => exact h
theorem kinv_R {K : Nat} {s t : kSt} (h : kinv K s) (hr : kR s t) : kinv K t := by
  obtain ⟨n, rfl⟩ := hr
  induction n generalizing s with
  | zero => exact h
  | succ n ih => exact ih (kinv_st h)
end
section
-- deps: 37 38 39 43
/-! ===== tokens of a tape ===== -/
def kbl (c : Nat) : Bool := decide (c = 10 ∨ c = 32)
def klt (c : Nat) : Bool := decide (97 ≤ c ∧ c ≤ 122)
def kdg (c : Nat) : Bool := decide (48 ≤ c ∧ c ≤ 57)
def ksg (c : Nat) : Bool := decide (c = 40 ∨ c = 41 ∨ c = 60 ∨ c = 61 ∨ c = 43 ∨ c = 45 ∨ c = 59)
def krun (P : Nat → Bool) (f : Nat → Nat) : Nat → Nat → Nat
  | 0, p => p
  | n + 1, p => if P (f p) = true then krun P f n (p + 1) else p
def kend (P : Nat → Bool) (f : Nat → Nat) (len p : Nat) : Nat := krun P f (len - p) p
theorem kend_ge {P : Nat → Bool} {f : Nat → Nat} {len p : Nat} (h : len ≤ p) : kend P f len p = p := by
  unfold kend
  rw [show len - p = 0 by omega]; rfl
theorem kend_t {P : Nat → Bool} {f : Nat → Nat} {len p : Nat} (h : p < len) (hp : P (f p) = true) : kend P f len p = kend P f len (p + 1) := by
  unfold kend
  rw [show len - p = (len - (p + 1)) + 1 by omega]
  simp only [krun]
  rw [if_pos hp]
theorem kend_f {P : Nat → Bool} {f : Nat → Nat} {len p : Nat} (h : p < len) (hp : ¬ P (f p) = true) : kend P f len p = p := by
  unfold kend
  rw [show len - p = (len - (p + 1)) + 1 by omega]
  simp only [krun]
  rw [if_neg hp]
theorem kend_b {P : Nat → Bool} {f : Nat → Nat} {len : Nat} : ∀ (k p : Nat), len - p = k → p ≤ len → p ≤ kend P f len p ∧ kend P f len p ≤ len ∧ (∀ i, p ≤ i → i < kend P f len p → P (f i) = true) ∧ (kend P f len p < len → ¬ P (f (kend P f len p)) = true) := by
  intro k
  induction k with
  | zero =>
    intro p hk hp
    rw [kend_ge (by omega)]
    exact ⟨by omega, by omega, fun i h1 h2 => by omega, fun h => by omega⟩
  | succ k ih =>
    intro p hk hp
    by_cases e : P (f p) = true
    · rw [kend_t (by omega) e]
      obtain ⟨h1, h2, h3, h4⟩ := ih (p + 1) (by omega) (by omega)
      refine ⟨by omega, h2, fun i hi1 hi2 => ?_, h4⟩
      by_cases e2 : i = p
      · subst e2; exact e
      · exact h3 i (by omega) hi2
    · rw [kend_f (by omega) e]
      exact ⟨by omega, by omega, fun i h1 h2 => by omega, fun _ => e⟩
abbrev kspell (f : Nat → Nat) (p e i : Nat) : Prop := ∀ j, j < 8 → (if p + j < e then f (p + j) else 32) = gtx1.getD (8 * i + j) 0
def kfw (f : Nat → Nat) (p e : Nat) : Nat → Nat
  | 0 => 302
  | n + 1 => if kspell f p e (11 - n) then 200 + (11 - n) else kfw f p e n
def kword (f : Nat → Nat) (p e : Nat) : Nat := if 8 < e - p then 302 else kfw f p e 12
def knum (f : Nat → Nat) (p : Nat) : Nat → Nat
  | 0 => 0
  | n + 1 => 10 * knum f p n + (f (p + n) - 48)
def ktk (f : Nat → Nat) (len p : Nat) : kTok × Nat :=
  if len ≤ kend kbl f len p then ((301, 0, len), len)
  else if klt (f (kend kbl f len p)) = true then ((kword f (kend kbl f len p) (kend klt f len (kend kbl f len p)), 0, kend kbl f len p), kend klt f len (kend kbl f len p))
  else if kdg (f (kend kbl f len p)) = true then ((if 4 < kend kdg f len (kend kbl f len p) - kend kbl f len p then 302 else 300, (if 4 < kend kdg f len (kend kbl f len p) - kend kbl f len p then 0 else knum f (kend kbl f len p) (kend kdg f len (kend kbl f len p) - kend kbl f len p)), kend kbl f len p), kend kdg f len (kend kbl f len p))
  else ((if ksg (f (kend kbl f len p)) = true then f (kend kbl f len p) else 302, 0, kend kbl f len p), kend kbl f len p + 1)
def ktoks (f : Nat → Nat) (len : Nat) : Nat → Nat → List kTok
  | 0, _ => [(301, 0, len)]
  | n + 1, p => if (ktk f len p).1.1 = 301 then [(ktk f len p).1] else (ktk f len p).1 :: ktoks f len n (ktk f len p).2
def ktl (f : Nat → Nat) (len p : Nat) : List kTok := ktoks f len (len + 1 - p) p
theorem kfw_r (f : Nat → Nat) (p e : Nat) : ∀ n, n ≤ 12 → kfw f p e n = 302 ∨ (200 ≤ kfw f p e n ∧ kfw f p e n < 212) := by
  intro n
  induction n with
  | zero => intro _; exact Or.inl rfl
  | succ n ih =>
    intro h
    simp only [kfw]
    split
    · exact Or.inr ⟨by omega, by omega⟩
    · exact ih (by omega)
theorem kword_r (f : Nat → Nat) (p e : Nat) : kword f p e = 302 ∨ (200 ≤ kword f p e ∧ kword f p e < 212) := by
  unfold kword
  split
  · exact Or.inl rfl
  · exact kfw_r f p e 12 (Nat.le_refl _)
theorem ktk_end {f : Nat → Nat} {len p : Nat} (h : len ≤ kend kbl f len p) : ktk f len p = ((301, 0, len), len) := by
  unfold ktk; rw [if_pos h]
theorem ktk_ne {f : Nat → Nat} {len p : Nat} (hp : p ≤ len) (h : ¬ len ≤ kend kbl f len p) : (ktk f len p).1.1 ≠ 301 ∧ p < (ktk f len p).2 ∧ (ktk f len p).2 ≤ len := by
  obtain ⟨b1, b2, b3, b4⟩ := kend_b (P := kbl) (f := f) (len := len) (len - p) p rfl hp
  unfold ktk
  rw [if_neg h]
  generalize kend kbl f len p = q at *
  split
  · rename_i hl
    obtain ⟨c1, c2, c3, c4⟩ := kend_b (P := klt) (f := f) (len := len) (len - (q + 1)) (q + 1) rfl (by omega)
    rw [kend_t (by omega) hl]
    have := kword_r f q (kend klt f len (q + 1))
    exact ⟨by simp only; omega, by simp only; omega, by simp only; omega⟩
  · split
    · rename_i hl
      obtain ⟨c1, c2, c3, c4⟩ := kend_b (P := kdg) (f := f) (len := len) (len - (q + 1)) (q + 1) rfl (by omega)
      rw [kend_t (by omega) hl]
      exact ⟨by simp only; split <;> omega, by simp only; omega, by simp only; omega⟩
    · refine ⟨?_, by simp only; omega, by simp only; omega⟩
      simp only
      split
      · rename_i hs
        have := of_decide_eq_true hs
        omega
      · omega
theorem ktoks_fuel {f : Nat → Nat} {len : Nat} : ∀ (n m p : Nat), p ≤ len → len + 1 - p ≤ n → len + 1 - p ≤ m → ktoks f len n p = ktoks f len m p := by
  intro n
  induction n with
  | zero => intro m p h1 h2 h3; omega
  | succ n ih =>
    intro m p h1 h2 h3
    cases m with
    | zero => omega
    | succ m =>
      simp only [ktoks]
      by_cases e : len ≤ kend kbl f len p
      · rw [ktk_end e, if_pos rfl, if_pos rfl]
      · obtain ⟨k1, k2, k3⟩ := ktk_ne h1 e
        rw [if_neg k1, if_neg k1, ih m _ k3 (by omega) (by omega)]
theorem ktl_e {f : Nat → Nat} {len p : Nat} (hp : p ≤ len) (h : len ≤ kend kbl f len p) : ktl f len p = [(301, 0, len)] := by
  unfold ktl
  rw [show len + 1 - p = (len - p) + 1 by omega]
  simp only [ktoks]
  rw [ktk_end h, if_pos rfl]
theorem ktl_c {f : Nat → Nat} {len p : Nat} (hp : p ≤ len) (h : ¬ len ≤ kend kbl f len p) : ktl f len p = (ktk f len p).1 :: ktl f len (ktk f len p).2 := by
  obtain ⟨k1, k2, k3⟩ := ktk_ne hp h
  unfold ktl
  rw [show len + 1 - p = (len - p) + 1 by omega]
  conv => lhs; unfold ktoks
  rw [if_neg k1, ktoks_fuel (len - p) (len + 1 - (ktk f len p).2) _ k3 (by omega) (by omega)]
theorem knum_lt {f : Nat → Nat} {p : Nat} : ∀ n, (∀ j, j < n → kdg (f (p + j)) = true) → knum f p n < 10 ^ n := by
  intro n
  induction n with
  | zero => intro _; exact Nat.one_pos
  | succ n ih =>
    intro h
    have h1 := ih (fun j hj => h j (by omega))
    have h2 := of_decide_eq_true (h n (by omega))
    simp only [knum]
    rw [Nat.pow_succ]
    omega
theorem ktk_num {f : Nat → Nat} {len p : Nat} (hp : p ≤ len) : (ktk f len p).1.1 = 300 → (ktk f len p).1.2.1 < 10000 := by
  obtain ⟨b1, b2, b3, b4⟩ := kend_b (P := kbl) (f := f) (len := len) (len - p) p rfl hp
  unfold ktk
  generalize kend kbl f len p = q at *
  split
  · intro h; simp at h
  · split
    · intro h
      have := kword_r f q (kend klt f len q)
      simp only at h
      omega
    · split
      · intro h
        simp only at h ⊢
        split
        · omega
        · rename_i h4
          obtain ⟨c1, c2, c3, c4⟩ := kend_b (P := kdg) (f := f) (len := len) (len - q) q rfl b2
          have := knum_lt (f := f) (p := q) (kend kdg f len q - q) (fun j hj => c3 (q + j) (by omega) (by omega))
          have h5 : 10 ^ (kend kdg f len q - q) ≤ 10 ^ 4 := Nat.pow_le_pow_right (by omega) (by omega)
          have : (10 : Nat) ^ 4 = 10000 := by decide
          omega
      · intro h
        simp only at h
        split at h
        · rename_i hs
          have := of_decide_eq_true hs
          omega
        · omega
theorem ktl_ok {f : Nat → Nat} {len : Nat} : ∀ (k p : Nat), p ≤ len → len - p ≤ k → kTsok (ktl f len p) ∧ (ktl f len p).length ≤ len - p + 1 := by
  intro k
  induction k using Nat.strongRecOn with
  | _ k ih =>
    intro p hp hk
    by_cases e : len ≤ kend kbl f len p
    · rw [ktl_e hp e]
      refine ⟨⟨by simp, fun t ht h => ?_, fun _ => ⟨rfl, fun t ht => by simp at ht⟩⟩, by simp⟩
      simp only [List.mem_singleton] at ht
      subst ht
      simp at h
    · obtain ⟨k1, k2, k3⟩ := ktk_ne hp e
      rw [ktl_c hp e]
      obtain ⟨⟨q1, q2, q3⟩, q4⟩ := ih (len - (ktk f len p).2) (by omega) (ktk f len p).2 k3 (Nat.le_refl _)
      refine ⟨⟨by simp, fun t ht h => ?_, fun _ => ?_⟩, by simp only [List.length_cons]; omega⟩
      · simp only [List.mem_cons] at ht
        rcases ht with rfl | ht
        · exact ktk_num hp h
        · exact q2 t ht h
      · obtain ⟨r1, r2⟩ := q3 q1
        refine ⟨by rw [List.getLast_cons q1]; exact r1, fun t ht => ?_⟩
        rw [List.dropLast_cons_of_ne_nil q1] at ht
        simp only [List.mem_cons] at ht
        rcases ht with rfl | ht
        · exact k1
        · exact r2 t ht
theorem ktl_ne {f : Nat → Nat} {len p : Nat} (hp : p ≤ len) : kTsok (ktl f len p) ∧ (ktl f len p).length ≤ len - p + 1 := ktl_ok (len - p) p hp (Nat.le_refl _)
/-! words by a number -/
def khs (g : Nat → Nat) : Nat → Nat
  | 0 => 0
  | n + 1 => 37 * khs g n + g n
theorem khs_inj {g g' : Nat → Nat} : ∀ (n m : Nat), (∀ j, j < n → 1 ≤ g j ∧ g j < 37) → (∀ j, j < m → 1 ≤ g' j ∧ g' j < 37) → khs g n = khs g' m → n = m ∧ ∀ j, j < n → g j = g' j := by
  intro n
  induction n with
  | zero =>
    intro m _ h2 h
    cases m with
    | zero => exact ⟨rfl, fun j hj => by omega⟩
    | succ m =>
      have := h2 m (by omega)
      simp only [khs] at h
      omega
  | succ n ih =>
    intro m h1 h2 h
    cases m with
    | zero =>
      have := h1 n (by omega)
      simp only [khs] at h
      omega
    | succ m =>
      have e1 := h1 n (by omega)
      have e2 := h2 m (by omega)
      simp only [khs] at h
      obtain ⟨q1, q2⟩ := ih m (fun j hj => h1 j (by omega)) (fun j hj => h2 j (by omega)) (by omega)
      subst q1
      refine ⟨rfl, fun j hj => ?_⟩
      by_cases e : j = n
      · subst e; omega
      · exact q2 j (by omega)
theorem khs_congr {g g' : Nat → Nat} : ∀ (n : Nat), (∀ j, j < n → g j = g' j) → khs g n = khs g' n := by
  intro n
  induction n with
  | zero => intro _; rfl
  | succ n ih => intro h; simp only [khs]; rw [ih (fun j hj => h j (by omega)), h n (by omega)]
theorem khs_lt {g : Nat → Nat} : ∀ (n : Nat), (∀ j, j < n → g j < 37) → khs g n < 37 ^ n := by
  intro n
  induction n with
  | zero => intro _; exact Nat.one_pos
  | succ n ih =>
    intro h
    have h1 := ih (fun j hj => h j (by omega))
    have h2 := h n (by omega)
    simp only [khs]
    rw [Nat.pow_succ]
    omega
def kwl : List Nat := [5, 5, 3, 4, 4, 3, 4, 5, 6, 3, 4, 5]
def kwd : List Nat := [36021578, 36643325, 24686, 628937, 1176170, 1891, 570026, 36624233, 1326983221, 19744, 103383, 13605325]
theorem kwl_8 : ∀ i, i < 12 → 0 < kwl.getD i 0 ∧ kwl.getD i 0 < 8 := by decide +kernel
theorem kwl_t : ∀ i, i < 12 → ∀ j, j < 8 → (j < kwl.getD i 0 → 97 ≤ gtx1.getD (8 * i + j) 0 ∧ gtx1.getD (8 * i + j) 0 ≤ 122) ∧ (¬ j < kwl.getD i 0 → gtx1.getD (8 * i + j) 0 = 32) := by decide +kernel
theorem kwd_h : ∀ i, i < 12 → khs (fun j => gtx1.getD (8 * i + j) 0 - 96) (kwl.getD i 0) = kwd.getD i 0 := by decide +kernel
theorem kwd_ne : ∀ i, i < 12 → ∀ j, j < 12 → kwd.getD i 0 = kwd.getD j 0 → i = j := by decide +kernel
theorem kspell_iff {f : Nat → Nat} {p e i : Nat} (hi : i < 12) (h8 : e - p ≤ 8) (hpe : p ≤ e) (hl : ∀ j, j < e - p → klt (f (p + j)) = true) : kspell f p e i ↔ khs (fun j => f (p + j) - 96) (e - p) = kwd.getD i 0 := by
  have hw := kwl_8 i hi
  constructor
  · intro h
    have e1 : e - p = kwl.getD i 0 := by
      rcases Nat.lt_trichotomy (e - p) (kwl.getD i 0) with hlt | heq | hgt
      · have h1 := h (e - p) (by omega)
        rw [if_neg (by omega)] at h1
        have := (kwl_t i hi (e - p) (by omega)).1 hlt
        omega
      · exact heq
      · have h1 := h (kwl.getD i 0) hw.2
        rw [if_pos (by omega)] at h1
        have h2 := of_decide_eq_true (hl (kwl.getD i 0) (by omega))
        have := (kwl_t i hi (kwl.getD i 0) hw.2).2 (by omega)
        omega
    rw [← kwd_h i hi, e1]
    refine khs_congr _ (fun j hj => ?_)
    have h1 := h j (by omega)
    rw [if_pos (by omega)] at h1
    rw [h1]
  · intro h
    rw [← kwd_h i hi] at h
    obtain ⟨q1, q2⟩ := khs_inj (e - p) (kwl.getD i 0) (fun j hj => by have := of_decide_eq_true (hl j hj); omega) (fun j hj => by have := (kwl_t i hi j (by omega)).1 hj; omega) h
    intro j hj
    by_cases e2 : p + j < e
    · rw [if_pos e2]
      have h1 := q2 j (by omega)
      have h2 := of_decide_eq_true (hl j (by omega))
      have h3 := (kwl_t i hi j hj).1 (by omega)
      omega
    · rw [if_neg e2, (kwl_t i hi j hj).2 (by omega)]
theorem kfw_iff {f : Nat → Nat} {p e i : Nat} (hi : i < 12) (h8 : e - p ≤ 8) (hpe : p ≤ e) (hl : ∀ j, j < e - p → klt (f (p + j)) = true) : ∀ n, n ≤ 12 → 12 - n ≤ i → (kfw f p e n = 200 + i ↔ khs (fun j => f (p + j) - 96) (e - p) = kwd.getD i 0) := by
  intro n
  induction n with
  | zero => intro _ h; omega
  | succ n ih =>
    intro hn hle
    simp only [kfw]
    have hk := kspell_iff (f := f) (p := p) (e := e) (i := 11 - n) (by omega) h8 hpe hl
    by_cases e2 : kspell f p e (11 - n)
    · rw [if_pos e2]
      constructor
      · intro h
        have : i = 11 - n := by omega
        rw [this]; exact hk.mp e2
      · intro h
        have := kwd_ne i hi (11 - n) (by omega) (h.symm.trans (hk.mp e2))
        omega
    · rw [if_neg e2]
      by_cases e3 : 12 - n ≤ i
      · exact ih (by omega) e3
      · have e4 : i = 11 - n := by omega
        constructor
        · intro h
          exfalso
          -- a later word would have to be i
          have : ∀ m, m ≤ n → kfw f p e m ≠ 200 + i := by
            intro m
            induction m with
            | zero => intro _ h; simp only [kfw] at h; omega
            | succ m ihm =>
              intro hm h
              simp only [kfw] at h
              split at h
              · omega
              · exact ihm (by omega) h
          exact this n (Nat.le_refl _) h
        · intro h
          exact absurd (hk.mpr (e4 ▸ h)) e2
theorem kword_iff {f : Nat → Nat} {p e i : Nat} (hi : i < 12) (h8 : e - p ≤ 8) (hpe : p ≤ e) (hl : ∀ j, j < e - p → klt (f (p + j)) = true) : kword f p e = 200 + i ↔ khs (fun j => f (p + j) - 96) (e - p) = kwd.getD i 0 := by
  unfold kword
  rw [if_neg (by omega)]
  exact kfw_iff hi h8 hpe hl 12 (Nat.le_refl _) (by omega)
end
section
-- deps: 37 38 39 43 44
/-! ===== the reference: feed, and cutting the tape ===== -/
def kby (v : Int64) (k : Nat) : Int32 := (v >>> ((nI k).toInt64 &&& 63)).toInt32 &&& 255
def kput (st : Nat × (Nat → Int32)) (c : Int32) : Nat × (Nat → Int32) := if (c = 10 ∨ (¬ c < 32 ∧ ¬ 126 < c)) ∧ st.1 < 600 then (st.1 + 1, gu st.2 st.1 c) else st
def klay (v : Int64) : Nat → Nat × (Nat → Int32) → Nat × (Nat → Int32)
  | 0, st => st
  | j + 1, st => klay v j (kput st (kby v (8 * j)))
theorem kput_le {st : Nat × (Nat → Int32)} {c : Int32} (h : st.1 ≤ 600) : (kput st c).1 ≤ 600 := by
  unfold kput
  split
  · rename_i hc; simp only; omega
  · exact h
theorem klay_le (v : Int64) : ∀ (j : Nat) (st : Nat × (Nat → Int32)), st.1 ≤ 600 → (klay v j st).1 ≤ 600 := by
  intro j
  induction j with
  | zero => intro st h; exact h
  | succ j ih => intro st h; exact ih _ (kput_le h)
theorem kdec (j : Nat) : nI (8 * (j + 1)) + -8 = nI (8 * j) := by
  rw [show 8 * (j + 1) = 8 * j + 8 by omega, ← nI_add, Int32.add_assoc]
  show nI (8 * j) + 0 = _
  exact Int32.add_zero _
section GM13
variable {w a : Nat → Nat → Int32} {b : Nat → Nat → Int64} {r : Nat → Nat → Nat} {q : Nat → Nat → Option Nat} {y : gH} {n u : Nat} {d : Nat}
theorem m_lay {len : Nat} (hl : w 44 2 = nI len) (hl6 : len ≤ 600) (v : Int64) : gE d 94 [.ref 44, .long v] (n, u, HP w a b r q y) (fun v' S' => v' = none ∧ ∃ a', gag [45] a a' ∧ a' 45 = (klay v 8 (len, a 45)).2 ∧ S' = (n, u, HP (upd2 w 44 2 (nI (klay v 8 (len, a 45)).1)) a' b r q y)) := by
  have hk : gMT[94]? = some gro_94 := rfl
  refine r_inQ hk [some (.ref 44), some (.long v), none, none, none] (Nat.le_of_ble_eq_true rfl) rfl ?_
  intro Q hQ
  have loop : ∀ (j : Nat), j ≤ 8 → ∀ (len1 : Nat) (a1 : Nat → Nat → Int32) (z : Int32) (l4 : Option Value), z = nI (8 * j) + -8 → len1 ≤ 600 → gag [45] a a1 → klay v j (len1, a1 45) = klay v 8 (len, a 45) → gX d 94 3 [some (.ref 44), some (.long v), none, some (.int z), l4] [] (n, u, HP (upd2 w 44 2 (nI len1)) a1 b r q y) Q := by
    intro j
    induction j with
    | zero =>
      intro _ len1 a1 z l4 hz h6 hag hk8
      subst hz
      iterate 2 refine r_step hk rfl rfl rfl ?_
      refine r_lt (fun _ => ?_) (fun hq9 => absurd (show nI (8 * 0) + -8 < 0 by decide) hq9)
      refine r_ret hk rfl rfl ?_
      refine hQ _ _ ⟨rfl, a1, hag, ?_, ?_⟩
      (rw [← hk8]; rfl)
      rw [← hk8]; rfl
    | succ j ih =>
      intro hj len1 a1 z l4 hz h6 hag hk8
      rw [kdec] at hz
      subst hz
      have h4 : ¬ nI (8 * j) < 0 := nI_pos (by omega)
      have hnx : ∀ (len2 : Nat) (a2 : Nat → Nat → Int32) (l4 : Option Value), len2 ≤ 600 → gag [45] a a2 → kput (len1, a1 45) (kby v (8 * j)) = (len2, a2 45) → gX d 94 3 [some (.ref 44), some (.long v), none, some (.int (nI (8 * j) + -8)), l4] [] (n, u, HP (upd2 w 44 2 (nI len2)) a2 b r q y) Q := by
        intro len2 a2 l4 h62 hag2 hp
        refine ih (by omega) len2 a2 _ _ rfl h62 hag2 ?_
        rw [← hk8, ← hp]; rfl
      have h600 : (600 : Int32) ≤ upd2 w 44 2 (nI len1) 44 2 ↔ ¬ len1 < 600 := by
        rw [upd2_same, show (600 : Int32) = nI 600 from rfl, nI_leI (by omega) (by omega)]; omega
      have hno : ¬ ((kby v (8 * j) = 10 ∨ (¬ kby v (8 * j) < 32 ∧ ¬ 126 < kby v (8 * j))) ∧ len1 < 600) → kput (len1, a1 45) (kby v (8 * j)) = (len1, a1 45) := fun h => if_neg h
      have hyes : ((kby v (8 * j) = 10 ∨ (¬ kby v (8 * j) < 32 ∧ ¬ 126 < kby v (8 * j))) ∧ len1 < 600) → kput (len1, a1 45) (kby v (8 * j)) = (len1 + 1, upd2 a1 45 len1 (kby v (8 * j)) 45) := by
        intro h
        rw [gu_row]
        exact if_pos h
      iterate 2 refine r_step hk rfl rfl rfl ?_
      refine r_lt (fun hq9 => absurd hq9 h4) (fun _ => ?_)
      iterate 10 refine r_step hk rfl rfl rfl ?_
      refine r_eq (fun h21 => ?_) (fun h21 => ?_)
      · iterate 4 refine r_step hk rfl rfl rfl ?_
        refine r_ge (fun h45 => ?_) (fun h45 => ?_)
        · iterate 2 refine r_step hk rfl rfl rfl ?_
          first | exact hnx len1 a1 _ h6 hag (hno (fun hc => hc.1.elim h21 (fun z => z.1 h28))) | exact hnx len1 a1 _ h6 hag (hno (fun hc => hc.1.elim h21 (fun z => z.2 h35))) | exact hnx len1 a1 _ h6 hag (hno (fun hc => h600.mp h45 hc.2)) | (rw [upd2_2, show upd2 w 44 2 (nI len1) 44 2 + 1 = nI (len1 + 1) by rw [upd2_same]; exact nI_1 _]; exact hnx (len1 + 1) _ _ (by have := mt h600.mpr h45; omega) (gag_up hag (by decide)) (hyes ⟨by first | exact Or.inl h21 | exact Or.inr ⟨h28, h35⟩, by have := mt h600.mpr h45; omega⟩))
        · iterate 5 refine r_step hk rfl rfl rfl ?_
          refine r_is hk (len1) rfl rfl rfl (show upd2 w 44 2 (nI len1) 44 2 = nI len1 from upd2_same _ _ _ _) (by have := mt h600.mpr h45; omega) rfl rfl ?_
          iterate 5 refine r_step hk rfl rfl rfl ?_
          refine r_putI hk rfl rfl rfl rfl ?_
          iterate 2 refine r_step hk rfl rfl rfl ?_
          first | exact hnx len1 a1 _ h6 hag (hno (fun hc => hc.1.elim h21 (fun z => z.1 h28))) | exact hnx len1 a1 _ h6 hag (hno (fun hc => hc.1.elim h21 (fun z => z.2 h35))) | exact hnx len1 a1 _ h6 hag (hno (fun hc => h600.mp h45 hc.2)) | (rw [upd2_2, show upd2 w 44 2 (nI len1) 44 2 + 1 = nI (len1 + 1) by rw [upd2_same]; exact nI_1 _]; exact hnx (len1 + 1) _ _ (by have := mt h600.mpr h45; omega) (gag_up hag (by decide)) (hyes ⟨by first | exact Or.inl h21 | exact Or.inr ⟨h28, h35⟩, by have := mt h600.mpr h45; omega⟩))
      · iterate 3 refine r_step hk rfl rfl rfl ?_
        refine r_lt (fun h28 => ?_) (fun h28 => ?_)
        · iterate 2 refine r_step hk rfl rfl rfl ?_
          first | exact hnx len1 a1 _ h6 hag (hno (fun hc => hc.1.elim h21 (fun z => z.1 h28))) | exact hnx len1 a1 _ h6 hag (hno (fun hc => hc.1.elim h21 (fun z => z.2 h35))) | exact hnx len1 a1 _ h6 hag (hno (fun hc => h600.mp h45 hc.2)) | (rw [upd2_2, show upd2 w 44 2 (nI len1) 44 2 + 1 = nI (len1 + 1) by rw [upd2_same]; exact nI_1 _]; exact hnx (len1 + 1) _ _ (by have := mt h600.mpr h45; omega) (gag_up hag (by decide)) (hyes ⟨by first | exact Or.inl h21 | exact Or.inr ⟨h28, h35⟩, by have := mt h600.mpr h45; omega⟩))
        · iterate 3 refine r_step hk rfl rfl rfl ?_
          refine r_gt (fun h35 => ?_) (fun h35 => ?_)
          · iterate 2 refine r_step hk rfl rfl rfl ?_
            first | exact hnx len1 a1 _ h6 hag (hno (fun hc => hc.1.elim h21 (fun z => z.1 h28))) | exact hnx len1 a1 _ h6 hag (hno (fun hc => hc.1.elim h21 (fun z => z.2 h35))) | exact hnx len1 a1 _ h6 hag (hno (fun hc => h600.mp h45 hc.2)) | (rw [upd2_2, show upd2 w 44 2 (nI len1) 44 2 + 1 = nI (len1 + 1) by rw [upd2_same]; exact nI_1 _]; exact hnx (len1 + 1) _ _ (by have := mt h600.mpr h45; omega) (gag_up hag (by decide)) (hyes ⟨by first | exact Or.inl h21 | exact Or.inr ⟨h28, h35⟩, by have := mt h600.mpr h45; omega⟩))
          · iterate 4 refine r_step hk rfl rfl rfl ?_
            refine r_ge (fun h45 => ?_) (fun h45 => ?_)
            · iterate 2 refine r_step hk rfl rfl rfl ?_
              first | exact hnx len1 a1 _ h6 hag (hno (fun hc => hc.1.elim h21 (fun z => z.1 h28))) | exact hnx len1 a1 _ h6 hag (hno (fun hc => hc.1.elim h21 (fun z => z.2 h35))) | exact hnx len1 a1 _ h6 hag (hno (fun hc => h600.mp h45 hc.2)) | (rw [upd2_2, show upd2 w 44 2 (nI len1) 44 2 + 1 = nI (len1 + 1) by rw [upd2_same]; exact nI_1 _]; exact hnx (len1 + 1) _ _ (by have := mt h600.mpr h45; omega) (gag_up hag (by decide)) (hyes ⟨by first | exact Or.inl h21 | exact Or.inr ⟨h28, h35⟩, by have := mt h600.mpr h45; omega⟩))
            · iterate 5 refine r_step hk rfl rfl rfl ?_
              refine r_is hk (len1) rfl rfl rfl (show upd2 w 44 2 (nI len1) 44 2 = nI len1 from upd2_same _ _ _ _) (by have := mt h600.mpr h45; omega) rfl rfl ?_
              iterate 5 refine r_step hk rfl rfl rfl ?_
              refine r_putI hk rfl rfl rfl rfl ?_
              iterate 2 refine r_step hk rfl rfl rfl ?_
              first | exact hnx len1 a1 _ h6 hag (hno (fun hc => hc.1.elim h21 (fun z => z.1 h28))) | exact hnx len1 a1 _ h6 hag (hno (fun hc => hc.1.elim h21 (fun z => z.2 h35))) | exact hnx len1 a1 _ h6 hag (hno (fun hc => h600.mp h45 hc.2)) | (rw [upd2_2, show upd2 w 44 2 (nI len1) 44 2 + 1 = nI (len1 + 1) by rw [upd2_same]; exact nI_1 _]; exact hnx (len1 + 1) _ _ (by have := mt h600.mpr h45; omega) (gag_up hag (by decide)) (hyes ⟨by first | exact Or.inl h21 | exact Or.inr ⟨h28, h35⟩, by have := mt h600.mpr h45; omega⟩))
  iterate 2 refine r_step hk rfl rfl rfl ?_
  have hl0 := loop 8 (Nat.le_refl _) len a _ none rfl hl6 gag_rf rfl
  rw [upd2_id hl] at hl0
  exact hl0
def kfeed (v1 v2 v3 : Int64) (st : Nat × (Nat → Int32)) : Nat × (Nat → Int32) := klay v3 8 (klay v2 8 (klay v1 8 st))
theorem m_feed (hd : 1 ≤ d) {len : Nat} (hl : w 44 2 = nI len) (hl6 : len ≤ 600) (v1 v2 v3 : Int64) : gE d 93 [.ref 44, .long v1, .long v2, .long v3] (n, u, HP w a b r q y) (fun v' S' => v' = some (.int (nI (kfeed v1 v2 v3 (len, a 45)).1)) ∧ ∃ a', gag [45] a a' ∧ a' 45 = (kfeed v1 v2 v3 (len, a 45)).2 ∧ S' = (n, u, HP (upd2 (gTh w) 44 2 (nI (kfeed v1 v2 v3 (len, a 45)).1)) a' b r q y)) := by
  have hk : gMT[93]? = some gro_93 := rfl
  refine r_inQ hk [some (.ref 44), some (.long v1), none, some (.long v2), none, some (.long v3), none] (Nat.le_of_ble_eq_true rfl) rfl ?_
  intro Q hQ
  have e1 := klay_le v1 8 (len, a 45) hl6
  generalize hs1 : klay v1 8 (len, a 45) = s1 at e1
  have e2 := klay_le v2 8 s1 e1
  generalize hs2 : klay v2 8 s1 = s2 at e2
  iterate 2 refine r_step hk rfl rfl rfl ?_
  refine r_putI hk rfl rfl rfl rfl ?_
  iterate 2 refine r_step hk rfl rfl rfl ?_
  refine r_callV hk [.ref 44, .long v1] [] rfl rfl rfl rfl rfl rfl rfl hd (m_lay (w := gTh w) hl hl6 v1) ?_
  rw [hs1]
  rintro _ _ ⟨rfl, a1, hag1, h45, rfl⟩
  have q1 : klay v2 8 (s1.1, a1 45) = s2 := by rw [h45, ← hs2]
  iterate 2 refine r_step hk rfl rfl rfl ?_
  refine r_callV hk [.ref 44, .long v2] [] rfl rfl rfl rfl rfl rfl rfl hd (m_lay (w := upd2 (gTh w) 44 2 (nI s1.1)) (upd2_same _ _ _ _) e1 v2) ?_
  rw [q1, upd2_2]
  rintro _ _ ⟨rfl, a2, hag2, h452, rfl⟩
  have q2 : klay v3 8 (s2.1, a2 45) = kfeed v1 v2 v3 (len, a 45) := by rw [h452]; unfold kfeed; rw [hs1, hs2]
  iterate 2 refine r_step hk rfl rfl rfl ?_
  refine r_callV hk [.ref 44, .long v3] [] rfl rfl rfl rfl rfl rfl rfl hd (m_lay (w := upd2 (gTh w) 44 2 (nI s2.1)) (upd2_same _ _ _ _) e2 v3) ?_
  rw [q2, upd2_2]
  rintro _ _ ⟨rfl, a3, hag3, h453, rfl⟩
  iterate 2 refine r_step hk rfl rfl rfl ?_
  refine r_iret hk rfl trivial ?_
  exact hQ _ _ ⟨rfl, a3, gag_tr (gag_tr hag1 hag2) hag3, h453, rfl⟩
theorem m_isLetter {c : Nat} (hc : c < 1000) (S : gS) : gE d 98 [.int (nI c)] S (gbo (klt c = true) S) := by
  have hk : gMT[98]? = some gro_98 := rfl
  refine r_in hk [some (.int (nI c))] (Nat.le_of_ble_eq_true rfl) rfl ?_
  have e1 : nI c < 97 ↔ c < 97 := nI_ltI (b := 97) (by omega) (by omega)
  have e2 : 122 < nI c ↔ 122 < c := nI_ltI (a := 122) (by omega) (by omega)
  iterate 3 refine r_step hk rfl rfl rfl ?_
  refine r_lt (fun h3 => ?_) (fun h3 => ?_)
  · refine r_step hk rfl rfl rfl ?_
    refine r_iret hk rfl (Or.inl rfl) ?_
    first | exact gbo_f (fun h => by have := of_decide_eq_true h; have := e1.mp h3; omega) | exact gbo_f (fun h => by have := of_decide_eq_true h; have := e2.mp h9; omega) | exact gbo_t (decide_eq_true ⟨by have := mt e1.mpr h3; omega, by have := mt e2.mpr h9; omega⟩)
  · iterate 3 refine r_step hk rfl rfl rfl ?_
    refine r_gt (fun h9 => ?_) (fun h9 => ?_)
    · refine r_step hk rfl rfl rfl ?_
      refine r_iret hk rfl (Or.inl rfl) ?_
      first | exact gbo_f (fun h => by have := of_decide_eq_true h; have := e1.mp h3; omega) | exact gbo_f (fun h => by have := of_decide_eq_true h; have := e2.mp h9; omega) | exact gbo_t (decide_eq_true ⟨by have := mt e1.mpr h3; omega, by have := mt e2.mpr h9; omega⟩)
    · iterate 2 refine r_step hk rfl rfl rfl ?_
      refine r_iret hk rfl (Or.inr rfl) ?_
      first | exact gbo_f (fun h => by have := of_decide_eq_true h; have := e1.mp h3; omega) | exact gbo_f (fun h => by have := of_decide_eq_true h; have := e2.mp h9; omega) | exact gbo_t (decide_eq_true ⟨by have := mt e1.mpr h3; omega, by have := mt e2.mpr h9; omega⟩)
theorem m_isDigit {c : Nat} (hc : c < 1000) (S : gS) : gE d 100 [.int (nI c)] S (gbo (kdg c = true) S) := by
  have hk : gMT[100]? = some gro_100 := rfl
  refine r_in hk [some (.int (nI c))] (Nat.le_of_ble_eq_true rfl) rfl ?_
  have e1 : nI c < 48 ↔ c < 48 := nI_ltI (b := 48) (by omega) (by omega)
  have e2 : 57 < nI c ↔ 57 < c := nI_ltI (a := 57) (by omega) (by omega)
  iterate 3 refine r_step hk rfl rfl rfl ?_
  refine r_lt (fun h3 => ?_) (fun h3 => ?_)
  · refine r_step hk rfl rfl rfl ?_
    refine r_iret hk rfl (Or.inl rfl) ?_
    first | exact gbo_f (fun h => by have := of_decide_eq_true h; have := e1.mp h3; omega) | exact gbo_f (fun h => by have := of_decide_eq_true h; have := e2.mp h9; omega) | exact gbo_t (decide_eq_true ⟨by have := mt e1.mpr h3; omega, by have := mt e2.mpr h9; omega⟩)
  · iterate 3 refine r_step hk rfl rfl rfl ?_
    refine r_gt (fun h9 => ?_) (fun h9 => ?_)
    · refine r_step hk rfl rfl rfl ?_
      refine r_iret hk rfl (Or.inl rfl) ?_
      first | exact gbo_f (fun h => by have := of_decide_eq_true h; have := e1.mp h3; omega) | exact gbo_f (fun h => by have := of_decide_eq_true h; have := e2.mp h9; omega) | exact gbo_t (decide_eq_true ⟨by have := mt e1.mpr h3; omega, by have := mt e2.mpr h9; omega⟩)
    · iterate 2 refine r_step hk rfl rfl rfl ?_
      refine r_iret hk rfl (Or.inr rfl) ?_
      first | exact gbo_f (fun h => by have := of_decide_eq_true h; have := e1.mp h3; omega) | exact gbo_f (fun h => by have := of_decide_eq_true h; have := e2.mp h9; omega) | exact gbo_t (decide_eq_true ⟨by have := mt e1.mpr h3; omega, by have := mt e2.mpr h9; omega⟩)
theorem m_rank (hd : 1 ≤ d) {c : Nat} (hc : c < 1000) (hl : klt c = true) (S : gS) : gE d 99 [.int (nI c)] S (gre (nI (c - 96)) S) := by
  have hk : gMT[99]? = some gro_99 := rfl
  refine r_in hk [some (.int (nI c))] (Nat.le_of_ble_eq_true rfl) rfl ?_
  have h1 := of_decide_eq_true hl
  refine r_step hk rfl rfl rfl ?_
  refine r_callS hk [.int (nI c)] [] rfl rfl rfl rfl rfl hd (m_isLetter hc _) ?_
  rintro _ _ ⟨⟨hs, rfl⟩ | ⟨hs, rfl⟩, rfl⟩
  · refine r_step hk rfl rfl rfl ?_
    refine r_eq (fun hq9 => absurd hq9 (by decide)) (fun _ => ?_)
    iterate 4 refine r_step hk rfl rfl rfl ?_
    refine r_iret hk rfl trivial ?_
    exact ⟨congrArg (fun z => some (Value.int z)) (show nI c - 96 = _ from pk_sub (a := c) (b := 96) (by omega)), rfl⟩
  · exact absurd hl hs
theorem m_isSignOf {c : Nat} (hc : c < 1000) (S : gS) : gE d 101 [.int (nI c)] S (gbo (ksg c = true) S) := by
  have hk : gMT[101]? = some gro_101 := rfl
  refine r_in hk [some (.int (nI c))] (Nat.le_of_ble_eq_true rfl) rfl ?_
  have e : ∀ k, k < 1000 → (nI c = nI k ↔ c = k) := fun k hk => nI_eq (by omega) (by omega)
  have e1 : nI c = 40 ↔ c = 40 := e 40 (by omega)
  have e2 : nI c = 41 ↔ c = 41 := e 41 (by omega)
  have e3 : nI c = 59 ↔ c = 59 := e 59 (by omega)
  have e4 : nI c = 61 ↔ c = 61 := e 61 (by omega)
  have e5 : nI c = 60 ↔ c = 60 := e 60 (by omega)
  have e6 : nI c = 43 ↔ c = 43 := e 43 (by omega)
  have e7 : nI c = 45 ↔ c = 45 := e 45 (by omega)
  unfold ksg
  iterate 3 refine r_step hk rfl rfl rfl ?_
  refine r_eq (fun h3 => ?_) (fun h3 => ?_)
  · iterate 2 refine r_step hk rfl rfl rfl ?_
    refine r_iret hk rfl (Or.inr rfl) ?_
    first | exact gbo_t (decide_eq_true (by have := e1.mp h3; omega)) | exact gbo_t (decide_eq_true (by have := e2.mp h9; omega)) | exact gbo_t (decide_eq_true (by have := e3.mp h15; omega)) | exact gbo_t (decide_eq_true (by have := e4.mp h21; omega)) | exact gbo_t (decide_eq_true (by have := e5.mp h27; omega)) | exact gbo_t (decide_eq_true (by have := e6.mp h33; omega)) | exact gbo_t (decide_eq_true (by have := e7.mp h39; omega)) | exact gbo_f (fun h => by have h := of_decide_eq_true h; have := mt e1.mpr h3; have := mt e2.mpr h9; have := mt e3.mpr h15; have := mt e4.mpr h21; have := mt e5.mpr h27; have := mt e6.mpr h33; have := mt e7.mpr h39; omega)
  · iterate 3 refine r_step hk rfl rfl rfl ?_
    refine r_eq (fun h9 => ?_) (fun h9 => ?_)
    · iterate 2 refine r_step hk rfl rfl rfl ?_
      refine r_iret hk rfl (Or.inr rfl) ?_
      first | exact gbo_t (decide_eq_true (by have := e1.mp h3; omega)) | exact gbo_t (decide_eq_true (by have := e2.mp h9; omega)) | exact gbo_t (decide_eq_true (by have := e3.mp h15; omega)) | exact gbo_t (decide_eq_true (by have := e4.mp h21; omega)) | exact gbo_t (decide_eq_true (by have := e5.mp h27; omega)) | exact gbo_t (decide_eq_true (by have := e6.mp h33; omega)) | exact gbo_t (decide_eq_true (by have := e7.mp h39; omega)) | exact gbo_f (fun h => by have h := of_decide_eq_true h; have := mt e1.mpr h3; have := mt e2.mpr h9; have := mt e3.mpr h15; have := mt e4.mpr h21; have := mt e5.mpr h27; have := mt e6.mpr h33; have := mt e7.mpr h39; omega)
    · iterate 3 refine r_step hk rfl rfl rfl ?_
      refine r_eq (fun h15 => ?_) (fun h15 => ?_)
      · iterate 2 refine r_step hk rfl rfl rfl ?_
        refine r_iret hk rfl (Or.inr rfl) ?_
        first | exact gbo_t (decide_eq_true (by have := e1.mp h3; omega)) | exact gbo_t (decide_eq_true (by have := e2.mp h9; omega)) | exact gbo_t (decide_eq_true (by have := e3.mp h15; omega)) | exact gbo_t (decide_eq_true (by have := e4.mp h21; omega)) | exact gbo_t (decide_eq_true (by have := e5.mp h27; omega)) | exact gbo_t (decide_eq_true (by have := e6.mp h33; omega)) | exact gbo_t (decide_eq_true (by have := e7.mp h39; omega)) | exact gbo_f (fun h => by have h := of_decide_eq_true h; have := mt e1.mpr h3; have := mt e2.mpr h9; have := mt e3.mpr h15; have := mt e4.mpr h21; have := mt e5.mpr h27; have := mt e6.mpr h33; have := mt e7.mpr h39; omega)
      · iterate 3 refine r_step hk rfl rfl rfl ?_
        refine r_eq (fun h21 => ?_) (fun h21 => ?_)
        · iterate 2 refine r_step hk rfl rfl rfl ?_
          refine r_iret hk rfl (Or.inr rfl) ?_
          first | exact gbo_t (decide_eq_true (by have := e1.mp h3; omega)) | exact gbo_t (decide_eq_true (by have := e2.mp h9; omega)) | exact gbo_t (decide_eq_true (by have := e3.mp h15; omega)) | exact gbo_t (decide_eq_true (by have := e4.mp h21; omega)) | exact gbo_t (decide_eq_true (by have := e5.mp h27; omega)) | exact gbo_t (decide_eq_true (by have := e6.mp h33; omega)) | exact gbo_t (decide_eq_true (by have := e7.mp h39; omega)) | exact gbo_f (fun h => by have h := of_decide_eq_true h; have := mt e1.mpr h3; have := mt e2.mpr h9; have := mt e3.mpr h15; have := mt e4.mpr h21; have := mt e5.mpr h27; have := mt e6.mpr h33; have := mt e7.mpr h39; omega)
        · iterate 3 refine r_step hk rfl rfl rfl ?_
          refine r_eq (fun h27 => ?_) (fun h27 => ?_)
          · iterate 2 refine r_step hk rfl rfl rfl ?_
            refine r_iret hk rfl (Or.inr rfl) ?_
            first | exact gbo_t (decide_eq_true (by have := e1.mp h3; omega)) | exact gbo_t (decide_eq_true (by have := e2.mp h9; omega)) | exact gbo_t (decide_eq_true (by have := e3.mp h15; omega)) | exact gbo_t (decide_eq_true (by have := e4.mp h21; omega)) | exact gbo_t (decide_eq_true (by have := e5.mp h27; omega)) | exact gbo_t (decide_eq_true (by have := e6.mp h33; omega)) | exact gbo_t (decide_eq_true (by have := e7.mp h39; omega)) | exact gbo_f (fun h => by have h := of_decide_eq_true h; have := mt e1.mpr h3; have := mt e2.mpr h9; have := mt e3.mpr h15; have := mt e4.mpr h21; have := mt e5.mpr h27; have := mt e6.mpr h33; have := mt e7.mpr h39; omega)
          · iterate 3 refine r_step hk rfl rfl rfl ?_
            refine r_eq (fun h33 => ?_) (fun h33 => ?_)
            · iterate 2 refine r_step hk rfl rfl rfl ?_
              refine r_iret hk rfl (Or.inr rfl) ?_
              first | exact gbo_t (decide_eq_true (by have := e1.mp h3; omega)) | exact gbo_t (decide_eq_true (by have := e2.mp h9; omega)) | exact gbo_t (decide_eq_true (by have := e3.mp h15; omega)) | exact gbo_t (decide_eq_true (by have := e4.mp h21; omega)) | exact gbo_t (decide_eq_true (by have := e5.mp h27; omega)) | exact gbo_t (decide_eq_true (by have := e6.mp h33; omega)) | exact gbo_t (decide_eq_true (by have := e7.mp h39; omega)) | exact gbo_f (fun h => by have h := of_decide_eq_true h; have := mt e1.mpr h3; have := mt e2.mpr h9; have := mt e3.mpr h15; have := mt e4.mpr h21; have := mt e5.mpr h27; have := mt e6.mpr h33; have := mt e7.mpr h39; omega)
            · iterate 3 refine r_step hk rfl rfl rfl ?_
              refine r_ne (fun h39 => ?_) (fun h39 => ?_)
              · refine r_step hk rfl rfl rfl ?_
                refine r_iret hk rfl (Or.inl rfl) ?_
                first | exact gbo_t (decide_eq_true (by have := e1.mp h3; omega)) | exact gbo_t (decide_eq_true (by have := e2.mp h9; omega)) | exact gbo_t (decide_eq_true (by have := e3.mp h15; omega)) | exact gbo_t (decide_eq_true (by have := e4.mp h21; omega)) | exact gbo_t (decide_eq_true (by have := e5.mp h27; omega)) | exact gbo_t (decide_eq_true (by have := e6.mp h33; omega)) | exact gbo_t (decide_eq_true (by have := e7.mp h39; omega)) | exact gbo_f (fun h => by have h := of_decide_eq_true h; have := mt e1.mpr h3; have := mt e2.mpr h9; have := mt e3.mpr h15; have := mt e4.mpr h21; have := mt e5.mpr h27; have := mt e6.mpr h33; have := mt e7.mpr h39; omega)
              · iterate 2 refine r_step hk rfl rfl rfl ?_
                refine r_iret hk rfl (Or.inr rfl) ?_
                first | exact gbo_t (decide_eq_true (by have := e1.mp h3; omega)) | exact gbo_t (decide_eq_true (by have := e2.mp h9; omega)) | exact gbo_t (decide_eq_true (by have := e3.mp h15; omega)) | exact gbo_t (decide_eq_true (by have := e4.mp h21; omega)) | exact gbo_t (decide_eq_true (by have := e5.mp h27; omega)) | exact gbo_t (decide_eq_true (by have := e6.mp h33; omega)) | exact gbo_t (decide_eq_true (by have := e7.mp h39; omega)) | exact gbo_f (fun h => by have h := of_decide_eq_true h; have := mt e1.mpr h3; have := mt e2.mpr h9; have := mt e3.mpr h15; have := mt e4.mpr h21; have := mt e5.mpr h27; have := mt e6.mpr h33; have := mt e7.mpr h39; omega)
end GM13
end
section
-- deps: 37 38 39 43 44 45
/-! ===== the reference: tokens in its rows ===== -/
theorem lN_inj {m n : Nat} (h : lN m = lN n) (hm : m < 2 ^ 64) (hn : n < 2 ^ 64) : m = n := by
  have e : ∀ k, k < 2 ^ 64 → (lN k).toBitVec.toNat = k := by
    intro k hk
    show (BitVec.ofNat 64 k).toNat = k
    rw [BitVec.toNat_ofNat]; exact Nat.mod_eq_of_lt hk
  rw [← e m hm, ← e n hn, h]
def gagb (X : List Nat) (b b' : Nat → Nat → Int64) : Prop := ∀ j, j ∉ X → b' j = b j
theorem gagb_rf {X : List Nat} {b : Nat → Nat → Int64} : gagb X b b := fun _ _ => rfl
theorem gagb_up {X : List Nat} {b b1 : Nat → Nat → Int64} (h1 : gagb X b b1) {j s : Nat} {x : Int64} (hj : j ∈ X) : gagb X b (upd2 b1 j s x) := fun i hi => by
  have : i ≠ j := fun e => hi (e ▸ hj)
  rw [upd2_row _ _ _ _ this]; exact h1 i hi
def kTr (a : Nat → Nat → Int32) (b : Nat → Nat → Int64) (i : Nat) (t : kTok) : Prop := a 47 i = nI t.2.2 ∧ ((t.1 = 301 ∧ a 46 i = 0) ∨ (∃ k, k < 12 ∧ t.1 = 200 + k ∧ a 46 i = 1 ∧ b 48 i = lN (kwd.getD k 0)) ∨ (t.1 = 302 ∧ (a 46 i = 4 ∨ (a 46 i = 1 ∧ ∃ v, v < 2 ^ 62 ∧ b 48 i = lN v ∧ ∀ k, k < 12 → v ≠ kwd.getD k 0))) ∨ (t.1 = 300 ∧ a 46 i = 2 ∧ b 48 i = lN t.2.1) ∨ (ksg t.1 = true ∧ a 46 i = 3 ∧ b 48 i = lN t.1))
def kTrs (a : Nat → Nat → Int32) (b : Nat → Nat → Int64) : Nat → List kTok → Prop
  | _, [] => True
  | i, t :: r => kTr a b i t ∧ kTrs a b (i + 1) r
theorem kwd_lt : ∀ k, k < 12 → kwd.getD k 0 < 2 ^ 62 := by decide +kernel
theorem ksg_r {c : Nat} (h : ksg c = true) : c < 62 ∧ 40 ≤ c := by have := of_decide_eq_true h; omega
theorem kTr_sign {a : Nat → Nat → Int32} {b : Nat → Nat → Int64} {i : Nat} {t : kTok} (h : kTr a b i t) {c : Nat} (hc : ksg c = true) : (a 46 i = 3 ∧ b 48 i = lN c) ↔ t.1 = c := by
  have hr := ksg_r hc
  obtain ⟨-, ⟨h1, h2⟩ | ⟨k, hk, h1, h2, h3⟩ | ⟨h1, h2⟩ | ⟨h1, h2, h3⟩ | ⟨h1, h2, h3⟩⟩ := h
  · rw [h2]; exact ⟨fun z => absurd z.1 (by decide), fun z => by omega⟩
  · rw [h2]; exact ⟨fun z => absurd z.1 (by decide), fun z => by omega⟩
  · refine ⟨fun z => ?_, fun z => by omega⟩
    rcases h2 with h2 | h2
    · rw [h2] at z; exact absurd z.1 (by decide)
    · rw [h2.1] at z; exact absurd z.1 (by decide)
  · rw [h2]; exact ⟨fun z => absurd z.1 (by decide), fun z => by omega⟩
  · have := ksg_r h1
    refine ⟨fun z => ?_, fun z => ⟨h2, by rw [h3, z]⟩⟩
    exact lN_inj (h3.symm.trans z.2) (by omega) (by omega)
theorem kTr_word {a : Nat → Nat → Int32} {b : Nat → Nat → Int64} {i : Nat} {t : kTok} (h : kTr a b i t) {c : Nat} (hc : c < 12) : (a 46 i = 1 ∧ b 48 i = lN (kwd.getD c 0)) ↔ t.1 = 200 + c := by
  obtain ⟨-, ⟨h1, h2⟩ | ⟨k, hk, h1, h2, h3⟩ | ⟨h1, h2⟩ | ⟨h1, h2, h3⟩ | ⟨h1, h2, h3⟩⟩ := h
  · rw [h2]; exact ⟨fun z => absurd z.1 (by decide), fun z => by omega⟩
  · have e1 := kwd_lt k hk
    have e2 := kwd_lt c hc
    refine ⟨fun z => ?_, fun z => ⟨h2, ?_⟩⟩
    · have := kwd_ne k hk c hc (lN_inj (h3.symm.trans z.2) (by omega) (by omega))
      omega
    · have : k = c := by omega
      rw [h3, this]
  · refine ⟨fun z => ?_, fun z => by omega⟩
    rcases h2 with h2 | ⟨h2, v, hv, h3, h4⟩
    · rw [h2] at z; exact absurd z.1 (by decide)
    · have e2 := kwd_lt c hc
      exact absurd (lN_inj (h3.symm.trans z.2) (by omega) (by omega)) (h4 c hc)
  · rw [h2]; exact ⟨fun z => absurd z.1 (by decide), fun z => by omega⟩
  · have := ksg_r h1
    rw [h2]; exact ⟨fun z => absurd z.1 (by decide), fun z => by omega⟩
theorem kTr_num {a : Nat → Nat → Int32} {b : Nat → Nat → Int64} {i : Nat} {t : kTok} (h : kTr a b i t) : (a 46 i = 2 ↔ t.1 = 300) ∧ (t.1 = 300 → b 48 i = lN t.2.1) := by
  obtain ⟨-, ⟨h1, h2⟩ | ⟨k, hk, h1, h2, h3⟩ | ⟨h1, h2⟩ | ⟨h1, h2, h3⟩ | ⟨h1, h2, h3⟩⟩ := h
  · rw [h2]; exact ⟨⟨fun z => absurd z (by decide), fun z => by omega⟩, fun z => by omega⟩
  · rw [h2]; exact ⟨⟨fun z => absurd z (by decide), fun z => by omega⟩, fun z => by omega⟩
  · refine ⟨⟨fun z => ?_, fun z => by omega⟩, fun z => by omega⟩
    rcases h2 with h2 | h2
    · rw [h2] at z; exact absurd z (by decide)
    · rw [h2.1] at z; exact absurd z (by decide)
  · exact ⟨⟨fun _ => h1, fun _ => h2⟩, fun _ => h3⟩
  · have := ksg_r h1
    rw [h2]; exact ⟨⟨fun z => absurd z (by decide), fun z => by omega⟩, fun z => by omega⟩
theorem kTr_end {a : Nat → Nat → Int32} {b : Nat → Nat → Int64} {i : Nat} {t : kTok} (h : kTr a b i t) : a 46 i = 0 ↔ t.1 = 301 := by
  obtain ⟨-, ⟨h1, h2⟩ | ⟨k, hk, h1, h2, h3⟩ | ⟨h1, h2⟩ | ⟨h1, h2, h3⟩ | ⟨h1, h2, h3⟩⟩ := h
  · exact ⟨fun _ => h1, fun _ => h2⟩
  · rw [h2]; exact ⟨fun z => absurd z (by decide), fun z => by omega⟩
  · refine ⟨fun z => ?_, fun z => by omega⟩
    rcases h2 with h2 | h2
    · rw [h2] at z; exact absurd z (by decide)
    · rw [h2.1] at z; exact absurd z (by decide)
  · rw [h2]; exact ⟨fun z => absurd z (by decide), fun z => by omega⟩
  · have := ksg_r h1
    rw [h2]; exact ⟨fun z => absurd z (by decide), fun z => by omega⟩
theorem kTr_cg {a a' : Nat → Nat → Int32} {b b' : Nat → Nat → Int64} {i : Nat} {t : kTok} (e1 : a' 46 i = a 46 i) (e2 : a' 47 i = a 47 i) (e3 : b' 48 i = b 48 i) (h : kTr a b i t) : kTr a' b' i t := by
  unfold kTr
  rw [e1, e2, e3]; exact h
theorem kTrs_cg {a a' : Nat → Nat → Int32} {b b' : Nat → Nat → Int64} : ∀ (ts : List kTok) (i : Nat), (∀ j, i ≤ j → j < i + ts.length → a' 46 j = a 46 j ∧ a' 47 j = a 47 j ∧ b' 48 j = b 48 j) → kTrs a b i ts → kTrs a' b' i ts := by
  intro ts
  induction ts with
  | nil => intro i _ _; trivial
  | cons t r ih =>
    intro i h ht
    obtain ⟨e1, e2, e3⟩ := h i (Nat.le_refl _) (by simp)
    exact ⟨kTr_cg e1 e2 e3 ht.1, ih (i + 1) (fun j h1 h2 => h j (by omega) (by simp; omega)) ht.2⟩
theorem kTrs_app {a : Nat → Nat → Int32} {b : Nat → Nat → Int64} {t : kTok} : ∀ (ts : List kTok) (i : Nat), kTrs a b i ts → kTr a b (i + ts.length) t → kTrs a b i (ts ++ [t]) := by
  intro ts
  induction ts with
  | nil => intro i _ h; exact ⟨h, trivial⟩
  | cons x r ih =>
    intro i h ht
    refine ⟨h.1, ih (i + 1) h.2 ?_⟩
    have e : i + 1 + r.length = i + (x :: r).length := by simp; omega
    rw [e]; exact ht
theorem ktl_bl {f : Nat → Nat} {len p : Nat} (hp : p < len) (h : kbl (f p) = true) : ktl f len p = ktl f len (p + 1) := by
  have e := kend_t (P := kbl) hp h
  have ek : ktk f len p = ktk f len (p + 1) := by unfold ktk; rw [e]
  by_cases e2 : len ≤ kend kbl f len p
  · rw [ktl_e (p := p) (by omega) e2, ktl_e (p := p + 1) (by omega) (by rw [← e]; exact e2)]
  · rw [ktl_c (p := p) (by omega) e2, ktl_c (p := p + 1) (by omega) (by rw [← e]; exact e2), ek]
section GM14
variable {w a : Nat → Nat → Int32} {b : Nat → Nat → Int64} {r : Nat → Nat → Nat} {q : Nat → Nat → Option Nat} {y : gH} {n u : Nat} {d : Nat}
set_option maxRecDepth 2000 in
theorem m_cutAll (hd : 2 ≤ d) {len : Nat} {f : Nat → Nat} (hl : w 44 2 = nI len) (hl6 : len ≤ 600) (hf : ∀ i, i < len → a 45 i = nI (f i) ∧ f i < 128) : gE d 97 [.ref 44] (n, u, HP w a b r q y) (fun v' S' => v' = none ∧ ∃ a' b', gag [46, 47] a a' ∧ gagb [48] b b' ∧ kTrs a' b' 0 (ktl f len 0) ∧ S' = (n, u, HP (upd2 (upd2 (upd2 (upd2 w 44 3 (nI len)) 44 2 0) 44 7 0) 44 8 0) a' b' r q y)) := by
  have hk : gMT[97]? = some gro_97 := rfl
  refine r_inQ hk [some (.ref 44), none, none, none, none, none, none] (Nat.le_of_ble_eq_true rfl) rfl ?_
  intro Q hQ
  have e3 : upd2 (upd2 w 44 3 (nI len)) 44 2 0 44 3 = nI len := by rw [upd2_col _ _ _ _ (by decide), upd2_same]
  -- the loop over the tape
  have loop : ∀ (k p : Nat), len - p ≤ k → p ≤ len → ∀ (a1 : Nat → Nat → Int32) (b1 : Nat → Nat → Int64) (done : List kTok) (l3 l4 l5 l6 : Option Value), gwide l3 = false → gwide l4 = false → done.length ≤ p → gag [46, 47] a a1 → gagb [48] b b1 → kTrs a1 b1 0 done → done ++ ktl f len p = ktl f len 0 →
      gX d 97 17 [some (.ref 44), some (.int (nI done.length)), some (.int (nI p)), l3, l4, l5, l6] [] (n, u, HP (upd2 (upd2 w 44 3 (nI len)) 44 2 0) a1 b1 r q y) Q := by
    intro k
    induction k with
    | zero =>
      intro p hk0 hp a1 b1 done l3 l4 l5 l6 hw3 hw4 hdn hag hagb hts happ
      have ep : p = len := by omega
      rw [ktl_e hp (by rw [kend_ge (by omega)]; omega)] at happ
      iterate 4 refine r_step hk rfl rfl rfl ?_
      refine r_ge (fun _ => ?_) (fun hq9 => absurd (show nI len ≤ nI p from nI_le (by omega) (by omega)) hq9)
      iterate 4 refine r_step hk rfl rfl rfl ?_
      refine r_is hk (done.length) rfl rfl rfl rfl (by omega) rfl rfl ?_
      iterate 5 refine r_step hk rfl rfl rfl ?_
      refine r_is hk (done.length) rfl rfl rfl rfl (by omega) rfl rfl ?_
      iterate 2 refine r_step hk rfl rfl rfl ?_
      refine r_putI hk rfl rfl rfl rfl ?_
      iterate 2 refine r_step hk rfl rfl rfl ?_
      refine r_putI hk rfl rfl rfl rfl ?_
      refine r_ret hk rfl rfl ?_
      refine hQ _ _ ⟨rfl, _, b1, gag_up (gag_up hag (by decide)) (by decide), hagb, ?_, rfl⟩
      rw [← happ]
      refine kTrs_app done 0 (kTrs_cg done 0 (fun j h1 h2 => ?_) hts) ?_
      (have hne : ¬ j = done.length := (by omega); refine ⟨?_, ?_, rfl⟩; (rw [upd2_row _ _ _ _ (by decide), upd2_at, if_neg hne]); (rw [upd2_at, if_neg hne, upd2_row _ _ _ _ (by decide)]))
      rw [Nat.zero_add]
      exact ⟨upd2_same _ _ _ _, Or.inl ⟨rfl, by rw [upd2_row _ _ _ _ (by decide)]; exact upd2_same _ _ _ _⟩⟩
    | succ k ih =>
      intro p hk0 hp a1 b1 done l3 l4 l5 l6 hw3 hw4 hdn hag hagb hts happ
      by_cases hpl : p = len
      · exact ih p (by omega) hp a1 b1 done l3 l4 l5 l6 hw3 hw4 hdn hag hagb hts happ
      have hp2 : p < len := by omega
      obtain ⟨hfp, hf8⟩ := hf p hp2
      have e45 : a1 45 = a 45 := hag 45 (by decide)
      have h45 : a1 45 p = nI (f p) := by rw [e45]; exact hfp
      have h22 : ¬ nI len ≤ nI p := nI_ge hp2 (by omega)
      have q10 : nI (f p) = 10 ↔ f p = 10 := nI_eq (b := 10) (by omega) (by omega)
      have q32 : nI (f p) = 32 ↔ f p = 32 := nI_eq (b := 32) (by omega) (by omega)
      by_cases hbl : kbl (f p) = true
      · have happ2 : done ++ ktl f len (p + 1) = ktl f len 0 := by rw [← ktl_bl hp2 hbl]; exact happ
        have hor := of_decide_eq_true hbl
        iterate 4 refine r_step hk rfl rfl rfl ?_
        refine r_ge (fun hq9 => absurd hq9 h22) (fun _ => ?_)
        iterate 3 refine r_step hk rfl rfl rfl ?_
        refine r_ia hk (p) rfl rfl rfl (by omega) rfl ?_
        iterate 4 refine r_step hk rfl rfl rfl ?_
        refine r_eq (fun h35 => ?_) (fun h35 => ?_)
        · iterate 2 refine r_step hk rfl rfl rfl ?_
          first | exact ih (p + 1) (by omega) (by omega) a1 b1 done _ _ _ _ rfl hw4 (by omega) hag hagb hts happ2 | (rw [nI_1]; exact ih (p + 1) (by omega) (by omega) a1 b1 done _ _ _ _ rfl hw4 (by omega) hag hagb hts happ2)
        · iterate 3 refine r_step hk rfl rfl rfl ?_
          refine r_ne (fun h41 => ?_) (fun h41 => ?_)
          · exfalso
            rcases hor with h | h
            exact h35 (h45.trans (q10.mpr h))
            exact h41 (h45.trans (q32.mpr h))
          · iterate 2 refine r_step hk rfl rfl rfl ?_
            first | exact ih (p + 1) (by omega) (by omega) a1 b1 done _ _ _ _ rfl hw4 (by omega) hag hagb hts happ2 | (rw [nI_1]; exact ih (p + 1) (by omega) (by omega) a1 b1 done _ _ _ _ rfl hw4 (by omega) hag hagb hts happ2)
      · have hke : kend kbl f len p = p := kend_f hp2 hbl
        have hnb : ¬ (f p = 10 ∨ f p = 32) := fun z => hbl (decide_eq_true z)
        have htl : ktl f len p = (ktk f len p).1 :: ktl f len (ktk f len p).2 := ktl_c hp (by rw [hke]; omega)
        have hkb := ktk_ne hp (by rw [hke]; omega)
        have fin : ∀ (e : Nat) (a3 : Nat → Nat → Int32) (v : Int64) (l3 l4 : Option Value), gwide l3 = false → gwide l4 = false → (ktk f len p).2 = e → gag [46, 47] a a3 → (∀ j, j ≠ done.length → a3 46 j = a1 46 j ∧ a3 47 j = a1 47 j) → kTr a3 (upd2 b1 48 done.length v) done.length (ktk f len p).1 →
            gX d 97 265 [some (.ref 44), some (.int (nI done.length)), some (.int (nI e)), l3, l4, some (.long v), none] [] (n, u, HP (upd2 (upd2 w 44 3 (nI len)) 44 2 0) a3 b1 r q y) Q := by
          intro e a3 v l3 l4 hw3 hw4 he hag3 hoth htr
          iterate 4 refine r_step hk rfl rfl rfl ?_
          refine r_ls hk (done.length) rfl rfl rfl rfl (by omega) rfl rfl ?_
          iterate 2 refine r_step hk rfl rfl rfl ?_
          have hih := ih e (by omega) (by omega) a3 (upd2 b1 48 done.length v) (done ++ [(ktk f len p).1]) l3 l4 (some (.long v)) none hw3 hw4 (by simp; omega) hag3 (gagb_up hagb (by decide)) (kTrs_app done 0 (kTrs_cg done 0 (fun j h1 h2 => ⟨(hoth j (by omega)).1, (hoth j (by omega)).2, by rw [upd2_at, if_neg (by omega)]⟩) hts) (by rw [Nat.zero_add]; exact htr)) (by rw [← happ, htl, ← he]; simp)
          rw [List.length_append, List.length_singleton, ← nI_1] at hih
          exact hih
        have hsub : ∀ z, p ≤ z → nI z - nI p = nI (z - p) := fun z hz => pk_sub hz
        -- letters
        have lt : klt (f p) = true → gX d 97 70 [some (.ref 44), some (.int (nI done.length)), some (.int (nI p)), some (.int (a1 45 p)), some (.int (nI p)), some (.long (lN 0)), none] [] (n, u, HP (upd2 (upd2 w 44 3 (nI len)) 44 2 0) (upd2 a1 47 done.length (nI p)) b1 r q y) Q := by
          intro hlp
          have htk : ktk f len p = ((kword f p (kend klt f len p), 0, p), kend klt f len p) := by
            unfold ktk
            rw [hke, if_neg (by omega), if_pos hlp]
          have ex : ∀ z, p ≤ z → z ≤ len → (∀ i, p ≤ i → i < z → klt (f i) = true) → kend klt f len p = z → gX d 97 129 [some (.ref 44), some (.int (nI done.length)), some (.int (nI z)), some (.int (a1 45 p)), some (.int (nI p)), some (.long (lN (khs (fun j => f (p + j) - 96) (if z - p < 8 then z - p else 8)))), none] [] (n, u, HP (upd2 (upd2 w 44 3 (nI len)) 44 2 0) (upd2 a1 47 done.length (nI p)) b1 r q y) Q := by
            intro z hpz hzl hall hkz
            have h8 : nI z - nI p ≤ 8 ↔ z - p ≤ 8 := by rw [hsub z hpz]; exact nI_leI (b := 8) (by omega) (by omega)
            rw [hkz] at htk
            iterate 8 refine r_step hk rfl rfl rfl ?_
            refine r_le (fun h140 => ?_) (fun h140 => ?_)
            · refine r_step hk rfl rfl rfl ?_
              refine r_is hk (done.length) rfl rfl rfl rfl (by omega) rfl rfl ?_
              refine r_step hk rfl rfl rfl ?_
              refine fin z _ _ _ _ rfl rfl (by rw [htk]) (gag_up (gag_up hag (by decide)) (by decide)) (fun j hj => ?_) ?_
              (refine ⟨?_, ?_⟩; (rw [upd2_at, if_neg hj, upd2_row _ _ _ _ (by decide)]); (rw [upd2_row _ _ _ _ (by decide), upd2_at, if_neg hj]))
              rw [htk]
              refine ⟨by rw [upd2_row _ _ _ _ (by decide)]; exact upd2_same _ _ _ _, ?_⟩
              first | (have h8' : ¬ z - p ≤ 8 := mt h8.mpr h140; refine Or.inr (Or.inr (Or.inl ⟨?_, Or.inl (upd2_same _ _ _ _)⟩)); show kword f p z = 302; unfold kword; rw [if_pos (by omega)]) | (have h8' : z - p ≤ 8 := h8.mp h140; have hlj : ∀ j, j < z - p → klt (f (p + j)) = true := (fun j hj => hall (p + j) (by omega) (by omega)); have hv : (if z - p < 8 then z - p else 8) = z - p := (by split <;> omega); have hlt := khs_lt (g := fun j => f (p + j) - 96) (z - p) (fun j hj => by have := of_decide_eq_true (hlj j hj); omega); have hpw : 37 ^ (z - p) ≤ 37 ^ 8 := Nat.pow_le_pow_right (by omega) h8'; have h378 : (37 : Nat) ^ 8 < 2 ^ 62 := (by decide); rcases kword_r f p z with hk3 | hk3; (refine Or.inr (Or.inr (Or.inl ⟨hk3, Or.inr ⟨upd2_same _ _ _ _, khs (fun j => f (p + j) - 96) (z - p), by omega, by rw [upd2_same, hv], fun k hk2 hkk => ?_⟩⟩)); have := (kword_iff (f := f) (p := p) (e := z) hk2 h8' hpz hlj).mpr hkk; omega); (refine Or.inr (Or.inl ⟨kword f p z - 200, by omega, by show kword f p z = _; omega, upd2_same _ _ _ _, ?_⟩); rw [upd2_same, hv, (kword_iff (f := f) (p := p) (e := z) (i := kword f p z - 200) (by omega) h8' hpz hlj).mp (by omega)]))
            · iterate 2 refine r_step hk rfl rfl rfl ?_
              refine r_is hk (done.length) rfl rfl rfl rfl (by omega) rfl rfl ?_
              refine r_step hk rfl rfl rfl ?_
              refine fin z _ _ _ _ rfl rfl (by rw [htk]) (gag_up (gag_up hag (by decide)) (by decide)) (fun j hj => ?_) ?_
              (refine ⟨?_, ?_⟩; (rw [upd2_at, if_neg hj, upd2_row _ _ _ _ (by decide)]); (rw [upd2_row _ _ _ _ (by decide), upd2_at, if_neg hj]))
              rw [htk]
              refine ⟨by rw [upd2_row _ _ _ _ (by decide)]; exact upd2_same _ _ _ _, ?_⟩
              first | (have h8' : ¬ z - p ≤ 8 := mt h8.mpr h140; refine Or.inr (Or.inr (Or.inl ⟨?_, Or.inl (upd2_same _ _ _ _)⟩)); show kword f p z = 302; unfold kword; rw [if_pos (by omega)]) | (have h8' : z - p ≤ 8 := h8.mp h140; have hlj : ∀ j, j < z - p → klt (f (p + j)) = true := (fun j hj => hall (p + j) (by omega) (by omega)); have hv : (if z - p < 8 then z - p else 8) = z - p := (by split <;> omega); have hlt := khs_lt (g := fun j => f (p + j) - 96) (z - p) (fun j hj => by have := of_decide_eq_true (hlj j hj); omega); have hpw : 37 ^ (z - p) ≤ 37 ^ 8 := Nat.pow_le_pow_right (by omega) h8'; have h378 : (37 : Nat) ^ 8 < 2 ^ 62 := (by decide); rcases kword_r f p z with hk3 | hk3; (refine Or.inr (Or.inr (Or.inl ⟨hk3, Or.inr ⟨upd2_same _ _ _ _, khs (fun j => f (p + j) - 96) (z - p), by omega, by rw [upd2_same, hv], fun k hk2 hkk => ?_⟩⟩)); have := (kword_iff (f := f) (p := p) (e := z) hk2 h8' hpz hlj).mpr hkk; omega); (refine Or.inr (Or.inl ⟨kword f p z - 200, by omega, by show kword f p z = _; omega, upd2_same _ _ _ _, ?_⟩); rw [upd2_same, hv, (kword_iff (f := f) (p := p) (e := z) (i := kword f p z - 200) (by omega) h8' hpz hlj).mp (by omega)]))
          have lp : ∀ (kk z : Nat), len - z ≤ kk → p ≤ z → z ≤ len → (∀ i, p ≤ i → i < z → klt (f i) = true) → kend klt f len p = kend klt f len z → gX d 97 70 [some (.ref 44), some (.int (nI done.length)), some (.int (nI z)), some (.int (a1 45 p)), some (.int (nI p)), some (.long (lN (khs (fun j => f (p + j) - 96) (if z - p < 8 then z - p else 8)))), none] [] (n, u, HP (upd2 (upd2 w 44 3 (nI len)) 44 2 0) (upd2 a1 47 done.length (nI p)) b1 r q y) Q := by
            intro kk
            induction kk with
            | zero =>
              intro z hk1 hpz hzl hall hkz
              have ez : z = len := by omega
              subst ez
              iterate 4 refine r_step hk rfl rfl rfl ?_
              refine r_ge (fun _ => ?_) (fun hq9 => absurd (show nI z ≤ nI z from nI_le (Nat.le_refl _) (by omega)) hq9)
              exact ex z hpz hzl hall (by rw [hkz, kend_ge (Nat.le_refl _)])
            | succ kk ihk =>
              intro z hk1 hpz hzl hall hkz
              by_cases hzz : z = len
              · exact ihk z (by omega) hpz hzl hall hkz
              have hz2 : z < len := by omega
              obtain ⟨hfz, hfz8⟩ := hf z hz2
              have h45z : upd2 a1 47 done.length (nI p) 45 z = nI (f z) := by rw [upd2_row _ _ _ _ (by decide), e45]; exact hfz
              have h75 : ¬ nI len ≤ nI z := nI_ge hz2 (by omega)
              have h8 : (8 : Int32) ≤ nI z - nI p ↔ 8 ≤ z - p := by rw [hsub z hpz]; exact nI_leI (a := 8) (by omega) (by omega)
              iterate 4 refine r_step hk rfl rfl rfl ?_
              refine r_ge (fun hq9 => absurd hq9 h75) (fun _ => ?_)
              iterate 3 refine r_step hk rfl rfl rfl ?_
              refine r_ia hk (z) rfl rfl rfl (by omega) rfl ?_
              refine r_callS hk [.int (upd2 a1 47 done.length (nI p) 45 z)] [] rfl rfl rfl rfl rfl (by omega) (by rw [h45z]; exact m_isLetter (by omega) _) ?_
              rintro _ _ ⟨⟨hl2, rfl⟩ | ⟨hl2, rfl⟩, rfl⟩
              · refine r_step hk rfl rfl rfl ?_
                refine r_eq (fun hq9 => absurd hq9 (by decide)) (fun _ => ?_)
                iterate 5 refine r_step hk rfl rfl rfl ?_
                refine r_ge (fun h96 => ?_) (fun h96 => ?_)
                · iterate 4 refine r_step hk rfl rfl rfl ?_
                  have hnx := ihk (z + 1) (by omega) (by omega) (by omega) (fun i h1 h2 => by by_cases e : i = z; (subst e; exact hl2); exact hall i h1 (by omega)) (by rw [hkz, kend_t hz2 hl2])
                  rw [← nI_1] at hnx
                  first | (have h8' : 8 ≤ z - p := h8.mp h96; rw [if_neg (by omega)] at hnx ⊢; exact hnx) | (have h8' : ¬ 8 ≤ z - p := mt h8.mpr h96; have hst : khs (fun j => f (p + j) - 96) (if z + 1 - p < 8 then z + 1 - p else 8) = 37 * khs (fun j => f (p + j) - 96) (if z - p < 8 then z - p else 8) + (f z - 96) := (by rw [show (if z + 1 - p < 8 then z + 1 - p else 8) = (z - p) + 1 by split <;> omega, if_pos (by omega)]; simp only [khs]; rw [show p + (z - p) = z by omega]); rw [hst, ← lN_add, ← lN_mul, ← nI_l (n := f z - 96) (by omega)] at hnx; exact hnx)
                · iterate 6 refine r_step hk rfl rfl rfl ?_
                  refine r_ia hk (z) rfl rfl rfl (by omega) rfl ?_
                  refine r_callS hk [.int (upd2 a1 47 done.length (nI p) 45 z)] [.long (37 * lN (khs (fun j => f (p + j) - 96) (if z - p < 8 then z - p else 8)))] rfl rfl rfl rfl rfl (by omega) (by rw [h45z]; exact m_rank (by omega) (by omega) hl2 _) ?_
                  rintro _ _ ⟨rfl, rfl⟩
                  iterate 6 refine r_step hk rfl rfl rfl ?_
                  have hnx := ihk (z + 1) (by omega) (by omega) (by omega) (fun i h1 h2 => by by_cases e : i = z; (subst e; exact hl2); exact hall i h1 (by omega)) (by rw [hkz, kend_t hz2 hl2])
                  rw [← nI_1] at hnx
                  first | (have h8' : 8 ≤ z - p := h8.mp h96; rw [if_neg (by omega)] at hnx ⊢; exact hnx) | (have h8' : ¬ 8 ≤ z - p := mt h8.mpr h96; have hst : khs (fun j => f (p + j) - 96) (if z + 1 - p < 8 then z + 1 - p else 8) = 37 * khs (fun j => f (p + j) - 96) (if z - p < 8 then z - p else 8) + (f z - 96) := (by rw [show (if z + 1 - p < 8 then z + 1 - p else 8) = (z - p) + 1 by split <;> omega, if_pos (by omega)]; simp only [khs]; rw [show p + (z - p) = z by omega]); rw [hst, ← lN_add, ← lN_mul, ← nI_l (n := f z - 96) (by omega)] at hnx; exact hnx)
              · refine r_step hk rfl rfl rfl ?_
                refine r_eq (fun _ => ?_) (fun hq9 => absurd (by decide) hq9)
                exact ex z hpz hzl hall (by rw [hkz, kend_f hz2 hl2])
          have h0 := lp len p (by omega) (Nat.le_refl _) hp (fun i h1 h2 => by omega) rfl
          rw [show (if p - p < 8 then p - p else 8) = 0 by rw [Nat.sub_self]; rfl] at h0
          exact h0
        -- digits
        have dg : ¬ klt (f p) = true → kdg (f p) = true → gX d 97 159 [some (.ref 44), some (.int (nI done.length)), some (.int (nI p)), some (.int (a1 45 p)), some (.int (nI p)), some (.long (lN 0)), none] [] (n, u, HP (upd2 (upd2 w 44 3 (nI len)) 44 2 0) (upd2 a1 47 done.length (nI p)) b1 r q y) Q := by
          intro hlp hdp
          have htk : ktk f len p = ((if 4 < kend kdg f len p - p then 302 else 300, (if 4 < kend kdg f len p - p then 0 else knum f p (kend kdg f len p - p)), p), kend kdg f len p) := by
            unfold ktk
            rw [hke, if_neg (by omega), if_neg hlp, if_pos hdp]
          have ex : ∀ z, p ≤ z → z ≤ len → kend kdg f len p = z → gX d 97 218 [some (.ref 44), some (.int (nI done.length)), some (.int (nI z)), some (.int (a1 45 p)), some (.int (nI p)), some (.long (lN (knum f p (if z - p < 4 then z - p else 4)))), none] [] (n, u, HP (upd2 (upd2 w 44 3 (nI len)) 44 2 0) (upd2 a1 47 done.length (nI p)) b1 r q y) Q := by
            intro z hpz hzl hkz
            have h8 : nI z - nI p ≤ 4 ↔ z - p ≤ 4 := by rw [hsub z hpz]; exact nI_leI (b := 4) (by omega) (by omega)
            rw [hkz] at htk
            iterate 8 refine r_step hk rfl rfl rfl ?_
            refine r_le (fun h228 => ?_) (fun h228 => ?_)
            · refine r_step hk rfl rfl rfl ?_
              refine r_is hk (done.length) rfl rfl rfl rfl (by omega) rfl rfl ?_
              refine r_step hk rfl rfl rfl ?_
              refine fin z _ _ _ _ rfl rfl (by rw [htk]) (gag_up (gag_up hag (by decide)) (by decide)) (fun j hj => ?_) ?_
              (refine ⟨?_, ?_⟩; (rw [upd2_at, if_neg hj, upd2_row _ _ _ _ (by decide)]); (rw [upd2_row _ _ _ _ (by decide), upd2_at, if_neg hj]))
              rw [htk]
              refine ⟨by rw [upd2_row _ _ _ _ (by decide)]; exact upd2_same _ _ _ _, ?_⟩
              first | (have h8' : ¬ z - p ≤ 4 := mt h8.mpr h228; exact Or.inr (Or.inr (Or.inl ⟨if_pos (by omega), Or.inl (upd2_same _ _ _ _)⟩))) | (have h8' : z - p ≤ 4 := h8.mp h228; refine Or.inr (Or.inr (Or.inr (Or.inl ⟨if_neg (by omega), upd2_same _ _ _ _, ?_⟩))); rw [upd2_same, show (if z - p < 4 then z - p else 4) = z - p by split <;> omega]; show _ = lN (if 4 < z - p then 0 else knum f p (z - p)); rw [if_neg (by omega)])
            · iterate 2 refine r_step hk rfl rfl rfl ?_
              refine r_is hk (done.length) rfl rfl rfl rfl (by omega) rfl rfl ?_
              refine r_step hk rfl rfl rfl ?_
              refine fin z _ _ _ _ rfl rfl (by rw [htk]) (gag_up (gag_up hag (by decide)) (by decide)) (fun j hj => ?_) ?_
              (refine ⟨?_, ?_⟩; (rw [upd2_at, if_neg hj, upd2_row _ _ _ _ (by decide)]); (rw [upd2_row _ _ _ _ (by decide), upd2_at, if_neg hj]))
              rw [htk]
              refine ⟨by rw [upd2_row _ _ _ _ (by decide)]; exact upd2_same _ _ _ _, ?_⟩
              first | (have h8' : ¬ z - p ≤ 4 := mt h8.mpr h228; exact Or.inr (Or.inr (Or.inl ⟨if_pos (by omega), Or.inl (upd2_same _ _ _ _)⟩))) | (have h8' : z - p ≤ 4 := h8.mp h228; refine Or.inr (Or.inr (Or.inr (Or.inl ⟨if_neg (by omega), upd2_same _ _ _ _, ?_⟩))); rw [upd2_same, show (if z - p < 4 then z - p else 4) = z - p by split <;> omega]; show _ = lN (if 4 < z - p then 0 else knum f p (z - p)); rw [if_neg (by omega)])
          have lp : ∀ (kk z : Nat), len - z ≤ kk → p ≤ z → z ≤ len → (∀ i, p ≤ i → i < z → kdg (f i) = true) → kend kdg f len p = kend kdg f len z → gX d 97 159 [some (.ref 44), some (.int (nI done.length)), some (.int (nI z)), some (.int (a1 45 p)), some (.int (nI p)), some (.long (lN (knum f p (if z - p < 4 then z - p else 4)))), none] [] (n, u, HP (upd2 (upd2 w 44 3 (nI len)) 44 2 0) (upd2 a1 47 done.length (nI p)) b1 r q y) Q := by
            intro kk
            induction kk with
            | zero =>
              intro z hk1 hpz hzl hall hkz
              have ez : z = len := by omega
              subst ez
              iterate 4 refine r_step hk rfl rfl rfl ?_
              refine r_ge (fun _ => ?_) (fun hq9 => absurd (show nI z ≤ nI z from nI_le (Nat.le_refl _) (by omega)) hq9)
              exact ex z hpz hzl (by rw [hkz, kend_ge (Nat.le_refl _)])
            | succ kk ihk =>
              intro z hk1 hpz hzl hall hkz
              by_cases hzz : z = len
              · exact ihk z (by omega) hpz hzl hall hkz
              have hz2 : z < len := by omega
              obtain ⟨hfz, hfz8⟩ := hf z hz2
              have h45z : upd2 a1 47 done.length (nI p) 45 z = nI (f z) := by rw [upd2_row _ _ _ _ (by decide), e45]; exact hfz
              have h75 : ¬ nI len ≤ nI z := nI_ge hz2 (by omega)
              have h8 : (4 : Int32) ≤ nI z - nI p ↔ 4 ≤ z - p := by rw [hsub z hpz]; exact nI_leI (a := 4) (by omega) (by omega)
              iterate 4 refine r_step hk rfl rfl rfl ?_
              refine r_ge (fun hq9 => absurd hq9 h75) (fun _ => ?_)
              iterate 3 refine r_step hk rfl rfl rfl ?_
              refine r_ia hk (z) rfl rfl rfl (by omega) rfl ?_
              refine r_callS hk [.int (upd2 a1 47 done.length (nI p) 45 z)] [] rfl rfl rfl rfl rfl (by omega) (by rw [h45z]; exact m_isDigit (by omega) _) ?_
              rintro _ _ ⟨⟨hl2, rfl⟩ | ⟨hl2, rfl⟩, rfl⟩
              · refine r_step hk rfl rfl rfl ?_
                refine r_eq (fun hq9 => absurd hq9 (by decide)) (fun _ => ?_)
                iterate 5 refine r_step hk rfl rfl rfl ?_
                refine r_ge (fun h184 => ?_) (fun h184 => ?_)
                · iterate 4 refine r_step hk rfl rfl rfl ?_
                  have hnx := ihk (z + 1) (by omega) (by omega) (by omega) (fun i h1 h2 => by by_cases e : i = z; (subst e; exact hl2); exact hall i h1 (by omega)) (by rw [hkz, kend_t hz2 hl2])
                  rw [← nI_1] at hnx
                  first | (have h8' : 4 ≤ z - p := h8.mp h184; rw [if_neg (by omega)] at hnx ⊢; exact hnx) | (have h8' : ¬ 4 ≤ z - p := mt h8.mpr h184; have hdz := of_decide_eq_true hl2; have hst : knum f p (if z + 1 - p < 4 then z + 1 - p else 4) = 10 * knum f p (if z - p < 4 then z - p else 4) + f z - 48 := (by rw [show (if z + 1 - p < 4 then z + 1 - p else 4) = (z - p) + 1 by split <;> omega, if_pos (by omega)]; simp only [knum]; rw [show p + (z - p) = z by omega]; omega); rw [hst, ← lN_sub (by omega), ← lN_add, ← lN_mul, ← nI_l (n := f z) (by omega), ← h45z] at hnx; exact hnx)
                · iterate 6 refine r_step hk rfl rfl rfl ?_
                  refine r_ia hk (z) rfl rfl rfl (by omega) rfl ?_
                  iterate 8 refine r_step hk rfl rfl rfl ?_
                  have hnx := ihk (z + 1) (by omega) (by omega) (by omega) (fun i h1 h2 => by by_cases e : i = z; (subst e; exact hl2); exact hall i h1 (by omega)) (by rw [hkz, kend_t hz2 hl2])
                  rw [← nI_1] at hnx
                  first | (have h8' : 4 ≤ z - p := h8.mp h184; rw [if_neg (by omega)] at hnx ⊢; exact hnx) | (have h8' : ¬ 4 ≤ z - p := mt h8.mpr h184; have hdz := of_decide_eq_true hl2; have hst : knum f p (if z + 1 - p < 4 then z + 1 - p else 4) = 10 * knum f p (if z - p < 4 then z - p else 4) + f z - 48 := (by rw [show (if z + 1 - p < 4 then z + 1 - p else 4) = (z - p) + 1 by split <;> omega, if_pos (by omega)]; simp only [knum]; rw [show p + (z - p) = z by omega]; omega); rw [hst, ← lN_sub (by omega), ← lN_add, ← lN_mul, ← nI_l (n := f z) (by omega), ← h45z] at hnx; exact hnx)
              · refine r_step hk rfl rfl rfl ?_
                refine r_eq (fun _ => ?_) (fun hq9 => absurd (by decide) hq9)
                exact ex z hpz hzl (by rw [hkz, kend_f hz2 hl2])
          have h0 := lp len p (by omega) (Nat.le_refl _) hp (fun i h1 h2 => by omega) rfl
          rw [show (if p - p < 4 then p - p else 4) = 0 by rw [Nat.sub_self]; rfl] at h0
          exact h0
        iterate 4 refine r_step hk rfl rfl rfl ?_
        refine r_ge (fun hq9 => absurd hq9 h22) (fun _ => ?_)
        iterate 3 refine r_step hk rfl rfl rfl ?_
        refine r_ia hk (p) rfl rfl rfl (by omega) rfl ?_
        iterate 4 refine r_step hk rfl rfl rfl ?_
        refine r_eq (fun hq9 => absurd hq9 (fun z => hnb (Or.inl (q10.mp (h45.symm.trans z))))) (fun _ => ?_)
        iterate 3 refine r_step hk rfl rfl rfl ?_
        refine r_ne (fun _ => ?_) (fun hq9 => absurd hq9 (fun z => hnb (Or.inr (q32.mp (h45.symm.trans z)))))
        iterate 8 refine r_step hk rfl rfl rfl ?_
        refine r_is hk (done.length) rfl rfl rfl rfl (by omega) rfl rfl ?_
        refine r_step hk rfl rfl rfl ?_
        refine r_callS hk [.int (a1 45 p)] [] rfl rfl rfl rfl rfl (by omega) (by rw [h45]; exact m_isLetter (by omega) _) ?_
        rintro _ _ ⟨⟨hlp, rfl⟩ | ⟨hlp, rfl⟩, rfl⟩
        · refine r_step hk rfl rfl rfl ?_
          refine r_eq (fun hq9 => absurd hq9 (by decide)) (fun _ => ?_)
          exact lt hlp
        · refine r_step hk rfl rfl rfl ?_
          refine r_eq (fun _ => ?_) (fun hq9 => absurd (by decide) hq9)
          refine r_step hk rfl rfl rfl ?_
          refine r_callS hk [.int (a1 45 p)] [] rfl rfl rfl rfl rfl (by omega) (by rw [h45]; exact m_isDigit (by omega) _) ?_
          rintro _ _ ⟨⟨hdp, rfl⟩ | ⟨hdp, rfl⟩, rfl⟩
          · refine r_step hk rfl rfl rfl ?_
            refine r_eq (fun hq9 => absurd hq9 (by decide)) (fun _ => ?_)
            exact dg hlp hdp
          · refine r_step hk rfl rfl rfl ?_
            refine r_eq (fun _ => ?_) (fun hq9 => absurd (by decide) hq9)
            iterate 7 refine r_step hk rfl rfl rfl ?_
            refine r_callS hk [.int (a1 45 p)] [.int (nI done.length), .ref 46] rfl rfl rfl rfl rfl (by omega) (by rw [h45]; exact m_isSignOf (by omega) _) ?_
            rintro _ _ ⟨⟨hsg, rfl⟩ | ⟨hsg, rfl⟩, rfl⟩
            · refine r_step hk rfl rfl rfl ?_
              refine r_eq (fun hq9 => absurd hq9 (by decide)) (fun _ => ?_)
              iterate 2 refine r_step hk rfl rfl rfl ?_
              refine r_is hk (done.length) rfl rfl rfl rfl (by omega) rfl rfl ?_
              refine r_step hk rfl rfl rfl ?_
              have htk : ktk f len p = ((if ksg (f p) = true then f p else 302, 0, p), p + 1) := (by unfold ktk; rw [hke, if_neg (by omega), if_neg hlp, if_neg hdp])
              rw [nI_1]
              refine fin (p + 1) _ _ _ _ rfl rfl (by rw [htk]) (gag_up (gag_up hag (by decide)) (by decide)) (fun j hj => ?_) ?_
              (refine ⟨?_, ?_⟩; (rw [upd2_at, if_neg hj, upd2_row _ _ _ _ (by decide)]); (rw [upd2_row _ _ _ _ (by decide), upd2_at, if_neg hj]))
              rw [htk]
              refine ⟨by rw [upd2_row _ _ _ _ (by decide)]; exact upd2_same _ _ _ _, ?_⟩
              first | exact Or.inr (Or.inr (Or.inr (Or.inr ⟨by rw [if_pos hsg]; exact hsg, upd2_same _ _ _ _, by rw [upd2_same, h45, nI_l (by omega), if_pos hsg]⟩))) | exact Or.inr (Or.inr (Or.inl ⟨if_neg hsg, Or.inl (upd2_same _ _ _ _)⟩))
            · refine r_step hk rfl rfl rfl ?_
              refine r_eq (fun _ => ?_) (fun hq9 => absurd (by decide) hq9)
              refine r_step hk rfl rfl rfl ?_
              refine r_is hk (done.length) rfl rfl rfl rfl (by omega) rfl rfl ?_
              refine r_step hk rfl rfl rfl ?_
              have htk : ktk f len p = ((if ksg (f p) = true then f p else 302, 0, p), p + 1) := (by unfold ktk; rw [hke, if_neg (by omega), if_neg hlp, if_neg hdp])
              rw [nI_1]
              refine fin (p + 1) _ _ _ _ rfl rfl (by rw [htk]) (gag_up (gag_up hag (by decide)) (by decide)) (fun j hj => ?_) ?_
              (refine ⟨?_, ?_⟩; (rw [upd2_at, if_neg hj, upd2_row _ _ _ _ (by decide)]); (rw [upd2_row _ _ _ _ (by decide), upd2_at, if_neg hj]))
              rw [htk]
              refine ⟨by rw [upd2_row _ _ _ _ (by decide)]; exact upd2_same _ _ _ _, ?_⟩
              first | exact Or.inr (Or.inr (Or.inr (Or.inr ⟨by rw [if_pos hsg]; exact hsg, upd2_same _ _ _ _, by rw [upd2_same, h45, nI_l (by omega), if_pos hsg]⟩))) | exact Or.inr (Or.inr (Or.inl ⟨if_neg hsg, Or.inl (upd2_same _ _ _ _)⟩))
  iterate 3 refine r_step hk rfl rfl rfl ?_
  refine r_putI hk rfl rfl rfl rfl ?_
  iterate 2 refine r_step hk rfl rfl rfl ?_
  refine r_putI hk rfl rfl rfl rfl ?_
  iterate 4 refine r_step hk rfl rfl rfl ?_
  rw [hl]
  exact loop len 0 (by omega) (by omega) a b [] _ _ _ _ rfl rfl (Nat.le_refl _) gag_rf gagb_rf trivial rfl
end GM14
end
