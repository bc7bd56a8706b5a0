section
-- ===== PART A: goes FIRST, ahead of the names: the tables' words, and 'selects' of the private methods out of them =====
/-- a private method of a class that the tables say can be made, by its rows of tables_1 -/
def lw_okq (q : MethodName × Nat) : Prop := (q.1.cls ≠ "java/lang/invoke/MethodHandle" ∧ q.1.cls ≠ "java/lang/invoke/VarHandle") ∧ Cond.instantiable q.1.cls q.2 ∈ tables_1 ∧ Cond.privateMethod q.1 ∈ tables_1 ∧ Cond.instanceMethod q.1 ∈ tables_1
theorem lw_p0 : lw_okq (⟨"BlossomTours$Valley", "bloomOn", "(I)I"⟩, 5) := ⟨⟨by decide +kernel, by decide +kernel⟩, List.mem_of_getElem? (i := 63) (by decide +kernel), List.mem_of_getElem? (i := 140) (by decide +kernel), List.mem_of_getElem? (i := 141) (by decide +kernel)⟩
theorem lw_p1 : lw_okq (⟨"BlossomTours", "toursThatCanGo", "()I"⟩, 9) := ⟨⟨by decide +kernel, by decide +kernel⟩, List.mem_of_getElem? (i := 15) (by decide +kernel), List.mem_of_getElem? (i := 156) (by decide +kernel), List.mem_of_getElem? (i := 157) (by decide +kernel)⟩
theorem lw_p2 : lw_okq (⟨"BlossomTours$Tour", "canGo", "()Z"⟩, 4) := ⟨⟨by decide +kernel, by decide +kernel⟩, List.mem_of_getElem? (i := 86) (by decide +kernel), List.mem_of_getElem? (i := 160) (by decide +kernel), List.mem_of_getElem? (i := 161) (by decide +kernel)⟩
theorem lw_p3 : lw_okq (⟨"BlossomTours", "valleysInBloomOn", "(I)I"⟩, 9) := ⟨⟨by decide +kernel, by decide +kernel⟩, List.mem_of_getElem? (i := 15) (by decide +kernel), List.mem_of_getElem? (i := 167) (by decide +kernel), List.mem_of_getElem? (i := 168) (by decide +kernel)⟩
theorem lw_p4 : lw_okq (⟨"java/lang/Throwable", "fillInStackTrace", "(I)Ljava/lang/Throwable;"⟩, 6) := ⟨⟨by decide +kernel, by decide +kernel⟩, List.mem_of_getElem? (i := 209) (by decide +kernel), List.mem_of_getElem? (i := 207) (by decide +kernel), List.mem_of_getElem? (i := 208) (by decide +kernel)⟩
theorem lw_p5 : lw_okq (⟨"BlossomTours", "mixedWithValley", "(JI)J"⟩, 9) := ⟨⟨by decide +kernel, by decide +kernel⟩, List.mem_of_getElem? (i := 15) (by decide +kernel), List.mem_of_getElem? (i := 243) (by decide +kernel), List.mem_of_getElem? (i := 244) (by decide +kernel)⟩
theorem lw_p6 : lw_okq (⟨"BlossomTours", "checkValley", "(I)V"⟩, 9) := ⟨⟨by decide +kernel, by decide +kernel⟩, List.mem_of_getElem? (i := 15) (by decide +kernel), List.mem_of_getElem? (i := 251) (by decide +kernel), List.mem_of_getElem? (i := 252) (by decide +kernel)⟩
theorem lw_p7 : lw_okq (⟨"BlossomTours$Roads", "minutesBetween", "(II)I"⟩, 2) := ⟨⟨by decide +kernel, by decide +kernel⟩, List.mem_of_getElem? (i := 27) (by decide +kernel), List.mem_of_getElem? (i := 257) (by decide +kernel), List.mem_of_getElem? (i := 258) (by decide +kernel)⟩
theorem lw_p8 : lw_okq (⟨"BlossomTours", "mixedWithTour", "(JI)J"⟩, 9) := ⟨⟨by decide +kernel, by decide +kernel⟩, List.mem_of_getElem? (i := 15) (by decide +kernel), List.mem_of_getElem? (i := 265) (by decide +kernel), List.mem_of_getElem? (i := 266) (by decide +kernel)⟩
theorem lw_p9 : lw_okq (⟨"BlossomTours", "checkTour", "(I)V"⟩, 9) := ⟨⟨by decide +kernel, by decide +kernel⟩, List.mem_of_getElem? (i := 15) (by decide +kernel), List.mem_of_getElem? (i := 273) (by decide +kernel), List.mem_of_getElem? (i := 274) (by decide +kernel)⟩
theorem lw_p10 : lw_okq (⟨"BlossomTours", "joyOn", "(LBlossomTours$Tour;I)I"⟩, 9) := ⟨⟨by decide +kernel, by decide +kernel⟩, List.mem_of_getElem? (i := 15) (by decide +kernel), List.mem_of_getElem? (i := 278) (by decide +kernel), List.mem_of_getElem? (i := 279) (by decide +kernel)⟩
theorem lw_p11 : lw_okq (⟨"BlossomTours$Tour", "visits", "(I)Z"⟩, 4) := ⟨⟨by decide +kernel, by decide +kernel⟩, List.mem_of_getElem? (i := 86) (by decide +kernel), List.mem_of_getElem? (i := 282) (by decide +kernel), List.mem_of_getElem? (i := 283) (by decide +kernel)⟩
theorem lw_p12 : lw_okq (⟨"BlossomTours", "stingsOn", "(LBlossomTours$Tour;I)I"⟩, 9) := ⟨⟨by decide +kernel, by decide +kernel⟩, List.mem_of_getElem? (i := 15) (by decide +kernel), List.mem_of_getElem? (i := 289) (by decide +kernel), List.mem_of_getElem? (i := 290) (by decide +kernel)⟩
theorem lw_p13 : lw_okq (⟨"BlossomTours$Roads", "lay", "(III)V"⟩, 2) := ⟨⟨by decide +kernel, by decide +kernel⟩, List.mem_of_getElem? (i := 27) (by decide +kernel), List.mem_of_getElem? (i := 348) (by decide +kernel), List.mem_of_getElem? (i := 349) (by decide +kernel)⟩
theorem lw_p14 : lw_okq (⟨"BlossomTours", "reckonCrowds", "()V"⟩, 9) := ⟨⟨by decide +kernel, by decide +kernel⟩, List.mem_of_getElem? (i := 15) (by decide +kernel), List.mem_of_getElem? (i := 353) (by decide +kernel), List.mem_of_getElem? (i := 354) (by decide +kernel)⟩
theorem lw_p15 : lw_okq (⟨"BlossomTours$Tour", "measure", "(LBlossomTours$Roads;)V"⟩, 4) := ⟨⟨by decide +kernel, by decide +kernel⟩, List.mem_of_getElem? (i := 86) (by decide +kernel), List.mem_of_getElem? (i := 357) (by decide +kernel), List.mem_of_getElem? (i := 358) (by decide +kernel)⟩
def lw_privs_1 : List (MethodName × Nat) := [(⟨"BlossomTours$Valley", "bloomOn", "(I)I"⟩, 5), (⟨"BlossomTours", "toursThatCanGo", "()I"⟩, 9), (⟨"BlossomTours$Tour", "canGo", "()Z"⟩, 4), (⟨"BlossomTours", "valleysInBloomOn", "(I)I"⟩, 9), (⟨"java/lang/Throwable", "fillInStackTrace", "(I)Ljava/lang/Throwable;"⟩, 6), (⟨"BlossomTours", "mixedWithValley", "(JI)J"⟩, 9), (⟨"BlossomTours", "checkValley", "(I)V"⟩, 9), (⟨"BlossomTours$Roads", "minutesBetween", "(II)I"⟩, 2), (⟨"BlossomTours", "mixedWithTour", "(JI)J"⟩, 9), (⟨"BlossomTours", "checkTour", "(I)V"⟩, 9), (⟨"BlossomTours", "joyOn", "(LBlossomTours$Tour;I)I"⟩, 9), (⟨"BlossomTours$Tour", "visits", "(I)Z"⟩, 4), (⟨"BlossomTours", "stingsOn", "(LBlossomTours$Tour;I)I"⟩, 9), (⟨"BlossomTours$Roads", "lay", "(III)V"⟩, 2), (⟨"BlossomTours", "reckonCrowds", "()V"⟩, 9), (⟨"BlossomTours$Tour", "measure", "(LBlossomTours$Roads;)V"⟩, 4)]
theorem lw_r1 : ∀ q ∈ lw_privs_1, lw_okq q := List.forall_mem_cons.mpr ⟨lw_p0, List.forall_mem_cons.mpr ⟨lw_p1, List.forall_mem_cons.mpr ⟨lw_p2, List.forall_mem_cons.mpr ⟨lw_p3, List.forall_mem_cons.mpr ⟨lw_p4, List.forall_mem_cons.mpr ⟨lw_p5, List.forall_mem_cons.mpr ⟨lw_p6, List.forall_mem_cons.mpr ⟨lw_p7, List.forall_mem_cons.mpr ⟨lw_p8, List.forall_mem_cons.mpr ⟨lw_p9, List.forall_mem_cons.mpr ⟨lw_p10, List.forall_mem_cons.mpr ⟨lw_p11, List.forall_mem_cons.mpr ⟨lw_p12, List.forall_mem_cons.mpr ⟨lw_p13, List.forall_mem_cons.mpr ⟨lw_p14, List.forall_mem_cons.mpr ⟨lw_p15, fun _ h => absurd h List.not_mem_nil⟩⟩⟩⟩⟩⟩⟩⟩⟩⟩⟩⟩⟩⟩⟩⟩
theorem lw_p16 : lw_okq (⟨"BlossomTours", "joinCrowds", "(LBlossomTours$Tour;)V"⟩, 9) := ⟨⟨by decide +kernel, by decide +kernel⟩, List.mem_of_getElem? (i := 15) (by decide +kernel), List.mem_of_getElem? (i := 362) (by decide +kernel), List.mem_of_getElem? (i := 363) (by decide +kernel)⟩
theorem lw_p17 : lw_okq (⟨"BlossomTours$Tour", "isFull", "()Z"⟩, 4) := ⟨⟨by decide +kernel, by decide +kernel⟩, List.mem_of_getElem? (i := 86) (by decide +kernel), List.mem_of_getElem? (i := 409) (by decide +kernel), List.mem_of_getElem? (i := 410) (by decide +kernel)⟩
theorem lw_p18 : lw_okq (⟨"BlossomTours$Tour", "append", "(I)V"⟩, 4) := ⟨⟨by decide +kernel, by decide +kernel⟩, List.mem_of_getElem? (i := 86) (by decide +kernel), List.mem_of_getElem? (i := 415) (by decide +kernel), List.mem_of_getElem? (i := 416) (by decide +kernel)⟩
theorem lw_p19 : lw_okq (⟨"BlossomTours$Tour", "takeLast", "()I"⟩, 4) := ⟨⟨by decide +kernel, by decide +kernel⟩, List.mem_of_getElem? (i := 86) (by decide +kernel), List.mem_of_getElem? (i := 428) (by decide +kernel), List.mem_of_getElem? (i := 429) (by decide +kernel)⟩
theorem lw_p20 : lw_okq (⟨"BlossomTours", "enterDays", "(LBlossomTours$Books;I)V"⟩, 9) := ⟨⟨by decide +kernel, by decide +kernel⟩, List.mem_of_getElem? (i := 15) (by decide +kernel), List.mem_of_getElem? (i := 455) (by decide +kernel), List.mem_of_getElem? (i := 456) (by decide +kernel)⟩
theorem lw_p21 : lw_okq (⟨"BlossomTours", "enterDay", "(LBlossomTours$Books;I)V"⟩, 9) := ⟨⟨by decide +kernel, by decide +kernel⟩, List.mem_of_getElem? (i := 15) (by decide +kernel), List.mem_of_getElem? (i := 459) (by decide +kernel), List.mem_of_getElem? (i := 460) (by decide +kernel)⟩
theorem lw_p22 : lw_okq (⟨"BlossomTours", "joyWithStopAdded", "(LBlossomTours$Tour;I)I"⟩, 9) := ⟨⟨by decide +kernel, by decide +kernel⟩, List.mem_of_getElem? (i := 15) (by decide +kernel), List.mem_of_getElem? (i := 487) (by decide +kernel), List.mem_of_getElem? (i := 488) (by decide +kernel)⟩
theorem lw_p23 : lw_okq (⟨"BlossomTours$Books", "copyFrom", "(LBlossomTours$Books;)V"⟩, 3) := ⟨⟨by decide +kernel, by decide +kernel⟩, List.mem_of_getElem? (i := 45) (by decide +kernel), List.mem_of_getElem? (i := 498) (by decide +kernel), List.mem_of_getElem? (i := 499) (by decide +kernel)⟩
theorem lw_p24 : lw_okq (⟨"BlossomToursModel", "no", "(I)I"⟩, 13) := ⟨⟨by decide +kernel, by decide +kernel⟩, List.mem_of_getElem? (i := 503) (by decide +kernel), List.mem_of_getElem? (i := 560) (by decide +kernel), List.mem_of_getElem? (i := 561) (by decide +kernel)⟩
theorem lw_p25 : lw_okq (⟨"BlossomToursModel", "isValley", "(I)Z"⟩, 13) := ⟨⟨by decide +kernel, by decide +kernel⟩, List.mem_of_getElem? (i := 503) (by decide +kernel), List.mem_of_getElem? (i := 568) (by decide +kernel), List.mem_of_getElem? (i := 569) (by decide +kernel)⟩
theorem lw_p26 : lw_okq (⟨"BlossomToursModel", "shorten", "(III)V"⟩, 13) := ⟨⟨by decide +kernel, by decide +kernel⟩, List.mem_of_getElem? (i := 503) (by decide +kernel), List.mem_of_getElem? (i := 572) (by decide +kernel), List.mem_of_getElem? (i := 573) (by decide +kernel)⟩
theorem lw_p27 : lw_okq (⟨"BlossomToursModel", "blooms", "(II)I"⟩, 13) := ⟨⟨by decide +kernel, by decide +kernel⟩, List.mem_of_getElem? (i := 503) (by decide +kernel), List.mem_of_getElem? (i := 584) (by decide +kernel), List.mem_of_getElem? (i := 585) (by decide +kernel)⟩
theorem lw_p28 : lw_okq (⟨"BlossomToursModel", "isTour", "(I)Z"⟩, 13) := ⟨⟨by decide +kernel, by decide +kernel⟩, List.mem_of_getElem? (i := 503) (by decide +kernel), List.mem_of_getElem? (i := 601) (by decide +kernel), List.mem_of_getElem? (i := 602) (by decide +kernel)⟩
theorem lw_p29 : lw_okq (⟨"BlossomToursModel", "has", "(II)Z"⟩, 13) := ⟨⟨by decide +kernel, by decide +kernel⟩, List.mem_of_getElem? (i := 503) (by decide +kernel), List.mem_of_getElem? (i := 605) (by decide +kernel), List.mem_of_getElem? (i := 606) (by decide +kernel)⟩
theorem lw_p30 : lw_okq (⟨"BlossomToursModel", "at", "(II)I"⟩, 13) := ⟨⟨by decide +kernel, by decide +kernel⟩, List.mem_of_getElem? (i := 503) (by decide +kernel), List.mem_of_getElem? (i := 609) (by decide +kernel), List.mem_of_getElem? (i := 610) (by decide +kernel)⟩
theorem lw_p31 : lw_okq (⟨"BlossomToursModel", "tourTold", "(II)I"⟩, 13) := ⟨⟨by decide +kernel, by decide +kernel⟩, List.mem_of_getElem? (i := 503) (by decide +kernel), List.mem_of_getElem? (i := 621) (by decide +kernel), List.mem_of_getElem? (i := 622) (by decide +kernel)⟩
def lw_privs_2 : List (MethodName × Nat) := [(⟨"BlossomTours", "joinCrowds", "(LBlossomTours$Tour;)V"⟩, 9), (⟨"BlossomTours$Tour", "isFull", "()Z"⟩, 4), (⟨"BlossomTours$Tour", "append", "(I)V"⟩, 4), (⟨"BlossomTours$Tour", "takeLast", "()I"⟩, 4), (⟨"BlossomTours", "enterDays", "(LBlossomTours$Books;I)V"⟩, 9), (⟨"BlossomTours", "enterDay", "(LBlossomTours$Books;I)V"⟩, 9), (⟨"BlossomTours", "joyWithStopAdded", "(LBlossomTours$Tour;I)I"⟩, 9), (⟨"BlossomTours$Books", "copyFrom", "(LBlossomTours$Books;)V"⟩, 3), (⟨"BlossomToursModel", "no", "(I)I"⟩, 13), (⟨"BlossomToursModel", "isValley", "(I)Z"⟩, 13), (⟨"BlossomToursModel", "shorten", "(III)V"⟩, 13), (⟨"BlossomToursModel", "blooms", "(II)I"⟩, 13), (⟨"BlossomToursModel", "isTour", "(I)Z"⟩, 13), (⟨"BlossomToursModel", "has", "(II)Z"⟩, 13), (⟨"BlossomToursModel", "at", "(II)I"⟩, 13), (⟨"BlossomToursModel", "tourTold", "(II)I"⟩, 13)]
theorem lw_r2 : ∀ q ∈ lw_privs_2, lw_okq q := List.forall_mem_cons.mpr ⟨lw_p16, List.forall_mem_cons.mpr ⟨lw_p17, List.forall_mem_cons.mpr ⟨lw_p18, List.forall_mem_cons.mpr ⟨lw_p19, List.forall_mem_cons.mpr ⟨lw_p20, List.forall_mem_cons.mpr ⟨lw_p21, List.forall_mem_cons.mpr ⟨lw_p22, List.forall_mem_cons.mpr ⟨lw_p23, List.forall_mem_cons.mpr ⟨lw_p24, List.forall_mem_cons.mpr ⟨lw_p25, List.forall_mem_cons.mpr ⟨lw_p26, List.forall_mem_cons.mpr ⟨lw_p27, List.forall_mem_cons.mpr ⟨lw_p28, List.forall_mem_cons.mpr ⟨lw_p29, List.forall_mem_cons.mpr ⟨lw_p30, List.forall_mem_cons.mpr ⟨lw_p31, fun _ h => absurd h List.not_mem_nil⟩⟩⟩⟩⟩⟩⟩⟩⟩⟩⟩⟩⟩⟩⟩⟩
theorem lw_p32 : lw_okq (⟨"BlossomToursModel", "minutes", "(I)I"⟩, 13) := ⟨⟨by decide +kernel, by decide +kernel⟩, List.mem_of_getElem? (i := 503) (by decide +kernel), List.mem_of_getElem? (i := 625) (by decide +kernel), List.mem_of_getElem? (i := 626) (by decide +kernel)⟩
theorem lw_p33 : lw_okq (⟨"BlossomToursModel", "goes", "(I)Z"⟩, 13) := ⟨⟨by decide +kernel, by decide +kernel⟩, List.mem_of_getElem? (i := 503) (by decide +kernel), List.mem_of_getElem? (i := 629) (by decide +kernel), List.mem_of_getElem? (i := 630) (by decide +kernel)⟩
theorem lw_p34 : lw_okq (⟨"BlossomToursModel", "joyOf", "(II)I"⟩, 13) := ⟨⟨by decide +kernel, by decide +kernel⟩, List.mem_of_getElem? (i := 503) (by decide +kernel), List.mem_of_getElem? (i := 633) (by decide +kernel), List.mem_of_getElem? (i := 634) (by decide +kernel)⟩
theorem lw_p35 : lw_okq (⟨"BlossomToursModel", "crowd", "(I)I"⟩, 13) := ⟨⟨by decide +kernel, by decide +kernel⟩, List.mem_of_getElem? (i := 503) (by decide +kernel), List.mem_of_getElem? (i := 637) (by decide +kernel), List.mem_of_getElem? (i := 638) (by decide +kernel)⟩
theorem lw_p36 : lw_okq (⟨"BlossomToursModel", "stingsOf", "(II)I"⟩, 13) := ⟨⟨by decide +kernel, by decide +kernel⟩, List.mem_of_getElem? (i := 503) (by decide +kernel), List.mem_of_getElem? (i := 642) (by decide +kernel), List.mem_of_getElem? (i := 643) (by decide +kernel)⟩
theorem lw_p37 : lw_okq (⟨"BlossomToursModel", "valleyTold", "(II)I"⟩, 13) := ⟨⟨by decide +kernel, by decide +kernel⟩, List.mem_of_getElem? (i := 503) (by decide +kernel), List.mem_of_getElem? (i := 650) (by decide +kernel), List.mem_of_getElem? (i := 651) (by decide +kernel)⟩
theorem lw_p38 : lw_okq (⟨"BlossomToursModel", "counted", "([II)I"⟩, 13) := ⟨⟨by decide +kernel, by decide +kernel⟩, List.mem_of_getElem? (i := 503) (by decide +kernel), List.mem_of_getElem? (i := 658) (by decide +kernel), List.mem_of_getElem? (i := 659) (by decide +kernel)⟩
theorem lw_p39 : lw_okq (⟨"BlossomToursModel", "pass", "([I)V"⟩, 13) := ⟨⟨by decide +kernel, by decide +kernel⟩, List.mem_of_getElem? (i := 503) (by decide +kernel), List.mem_of_getElem? (i := 666) (by decide +kernel), List.mem_of_getElem? (i := 667) (by decide +kernel)⟩
def lw_privs_3 : List (MethodName × Nat) := [(⟨"BlossomToursModel", "minutes", "(I)I"⟩, 13), (⟨"BlossomToursModel", "goes", "(I)Z"⟩, 13), (⟨"BlossomToursModel", "joyOf", "(II)I"⟩, 13), (⟨"BlossomToursModel", "crowd", "(I)I"⟩, 13), (⟨"BlossomToursModel", "stingsOf", "(II)I"⟩, 13), (⟨"BlossomToursModel", "valleyTold", "(II)I"⟩, 13), (⟨"BlossomToursModel", "counted", "([II)I"⟩, 13), (⟨"BlossomToursModel", "pass", "([I)V"⟩, 13)]
theorem lw_r3 : ∀ q ∈ lw_privs_3, lw_okq q := List.forall_mem_cons.mpr ⟨lw_p32, List.forall_mem_cons.mpr ⟨lw_p33, List.forall_mem_cons.mpr ⟨lw_p34, List.forall_mem_cons.mpr ⟨lw_p35, List.forall_mem_cons.mpr ⟨lw_p36, List.forall_mem_cons.mpr ⟨lw_p37, List.forall_mem_cons.mpr ⟨lw_p38, List.forall_mem_cons.mpr ⟨lw_p39, fun _ h => absurd h List.not_mem_nil⟩⟩⟩⟩⟩⟩⟩⟩
def lw_privs : List (MethodName × Nat) := lw_privs_1 ++ (lw_privs_2 ++ (lw_privs_3))
def lw_tbl : List Cond := k2_sels lw_privs ++ tables_1
theorem lw_privs_ok : ∀ q ∈ lw_privs, lw_okq q := by
  show ∀ q ∈ lw_privs_1 ++ (lw_privs_2 ++ (lw_privs_3)), lw_okq q
  exact List.forall_mem_append.mpr ⟨lw_r1, List.forall_mem_append.mpr ⟨lw_r2, lw_r3⟩⟩
/-- the streams that the claim lets the run draw from -/
abbrev lw_cs : List Choice := [Jvm.Choice.named "NaN.bits"]
theorem lw_bits : nanBits ∈ lw_cs := by first | decide | exact List.mem_cons_self | simp [lw_cs, nanBits]
/-! ===== BEGIN words of one list among another's, by their places ===== -/
theorem goodIn_r {big : List Cond} (ws : List Cond) (ps : List Nat) (hp : ws = ps.filterMap (fun i => big[i]?)) (h : ws.all goodWord = true) : GoodIn big ws := by
  intro w hw
  have h1 := List.all_eq_true.mp h w hw
  rw [hp] at hw
  obtain ⟨i, -, hi⟩ := List.mem_filterMap.mp hw
  have hm : w ∈ big := by first | exact List.mem_of_getElem? hi | exact List.getElem?_mem hi
  exact ⟨hm, good_of_word h1⟩
theorem goodIn_app {big a b : List Cond} (ha : GoodIn big a) (hb : GoodIn big b) : GoodIn big (a ++ b) := fun w h => (List.mem_append.mp h).elim (ha w) (hb w)
theorem goodIn_ca {big a b : List Cond} {c : Cond} (ha : GoodIn big (c :: a)) (hb : GoodIn big b) : GoodIn big (c :: (a ++ b)) := fun w h => (List.mem_cons.mp h).elim (fun e => ha w (List.mem_cons.mpr (Or.inl e))) (fun h => (List.mem_append.mp h).elim (fun h => ha w (List.mem_cons.mpr (Or.inr h))) (hb w))
theorem goodIn_sub {big ws : List Cond} (hm : ∀ w ∈ ws, w ∈ big) (h : ws.all goodWord = true) : GoodIn big ws := fun w hw => ⟨hm w hw, good_of_word (List.all_eq_true.mp h w hw)⟩
/-! ===== END ===== -/

/-! ===== BEGIN new T[n][m]: the outer array a place, the inner ones among the pooled ===== -/
/-- f, but v at every address of l -/
def vr_up {α : Type} (f : Nat → α) (l : List Nat) (v : α) : Nat → α := fun a => if a ∈ l then v else f a
theorem vr_up_in {α : Type} {f : Nat → α} {l : List Nat} {v : α} {a : Nat} (h : a ∈ l) : vr_up f l v a = v := if_pos h
theorem vr_up_ne {α : Type} {f : Nat → α} {l : List Nat} {v : α} {a : Nat} (h : a ∉ l) : vr_up f l v a = f a := if_neg h
theorem vr_rows {L l : List Nat} {f : Nat → va_E} {e : va_E} (h : ∀ a, a ∈ l → a ∉ L) : va_pl L f ++ l.map (fun a => (a, e)) = va_pl (L ++ l) (vr_up f l e) := by
  unfold va_pl
  rw [List.map_append]
  congr 1
  · apply List.map_congr_left
    intro a ha
    rw [vr_up_ne (fun q => h a q ha)]
  · apply List.map_congr_left
    intro a ha
    rw [vr_up_in ha]
theorem vr_lay {X rows : va_W} {x : Nat × va_E} {pl : va_W} {D : va_G} {cl : List vw_C} {H : Heap} (hP : va_P D cl (((X ++ pl) ++ [x]) ++ rows) H) : va_P D cl ((X ++ [x]) ++ (pl ++ rows)) H := by
  rw [List.append_assoc (X ++ pl)] at hP
  have h := va_P.swap hP
  rw [← List.append_assoc X] at h
  have h2 := va_P.swap h
  rw [List.append_assoc (X ++ [x])] at h2
  exact h2
theorem vr_layD {X rows : va_W} {x : Nat × va_E} {pl : va_W} {A : Nat → Prop} (hD : va_D A (((X ++ pl) ++ [x]) ++ rows)) : va_D A ((X ++ [x]) ++ (pl ++ rows)) := by
  rw [List.append_assoc (X ++ pl)] at hD
  have h := va_D.swap hD
  rw [← List.append_assoc X] at h
  have h2 := va_D.swap h
  rw [List.append_assoc (X ++ [x])] at h2
  exact h2
theorem vr_outer (c : ClassId) (N h0 : Nat) : ∀ i : Nat, Jvm.Free.Multi.outerC c N h0 i = arrV c N (fun j => va_rf (if j < i then some (h0 + 1 + j) else none))
  | 0 => by
    show ({ cls := c, slots := Array.replicate N .null, vm := .none } : Cell) = _
    rw [arrV_new]
    refine congrArg (arrV c N) (funext fun j => ?_)
    simp [va_rf]
  | i + 1 => by
    show (Jvm.Free.Multi.outerC c N h0 i).setSlot i (.ref (h0 + 1 + i)) = _
    rw [vr_outer c N h0 i, arrV_store]
    refine congrArg (arrV c N) (funext fun j => ?_)
    by_cases e : j = i
    · subst e
      simp [updV, va_rf]
    · by_cases h : j < i
      · simp [updV, e, h, Nat.lt_succ_of_lt h]
      · simp [updV, e, h, show ¬ j < i + 1 by omega]
/-- an array class over arrays of t is known (the printed rows below name it, its own definition is not among them) -/
def va_AOA (t : FieldType) (U : State) : Prop := (Cond.arrayOver (.array t)).before #[] U = true
theorem va_AOA.use {t : FieldType} {A : Array Value} {U : State} (h : va_AOA t U) : (Cond.arrayOver (.array t)).before A U = true := h
section VGM
variable {p : Program} {l : Launch} {e : Env} {R : Room} {s : State} {m : MethodId} {args : Array Value} {below : List Frame} {meth : Method} {c : Code} {H : Heap} {locs : List Loc} {cells slots : Nat} {Q : State → Prop}
variable {cc : ByteArray} {pc : Nat} {ls : Array Slot} {rest : List Value} {D : va_G} {cl : List vw_C} {A : Nat → Prop} {a : Nat} {tys : List (ClassId × FieldType)} {ws : va_W} {H0 : Heap}
theorem va_mna {X : va_W} {L : List Nat} {f : Nat → va_E} {cc : ByteArray} (hexec : p.tables.exec = Jvm.exec) (hb : c.code = cc) {own : String} {index : Nat} {ty : FieldType} {cy : ClassId} (hown : s.vm.findClass own = some m.cls) (hclink : (Cond.classLink own index ("[" ++ (FieldType.array ty).toString)).before args s = true) (hover : va_AOA ty s) (harr : (Cond.arrayClass ty).before args s = true) (hcy : s.vm.findClass (FieldType.array ty).toString = some cy)
    (hK : va_K D cl tys s) (hP : va_P D cl (X ++ va_pl L f) H) (hD : va_D A (X ++ va_pl L f)) (hS : va_S A H0 H locs) (hA : ∀ q, H0.size ≤ q → A q) {n k : Int32} {N' K' : Nat} {z : vp_A} (hn : ¬ n < 0) (hk : ¬ k < 0) (hN : n.toNatClampNeg = N') (hM : k.toNatClampNeg = K')
    (hb1 : N' * 4 ≤ 536870912) (hb2 : K' * componentBytes ty ≤ 536870912) (hb3 : K' ≤ 536870912) (hdf : fits ty (defaultValue ty) = true) (hdd : (defaultValue ty).isDefault = true) (hcells : cells + (1 + N') ≤ R.cells) (hslots : slots + (N' + N' * K') ≤ R.slots) (hz : ∀ c : ClassId, Jvm.Free.Multi.innerC c K' (defaultValue ty) = vp_cell c z) (hdg : decode cc pc = .ok (.multianewarray index 2, 4))
    (kk : ∀ (q : Nat) (r : Nat → Nat) (cA : ClassId) (H1 : Heap), (∀ i j : Nat, i < N' → j < N' → r i = r j → i = j) → (∀ i : Nat, i < N' → r i ∉ L) → va_K D cl (tys ++ [(cA, .array ty)]) s →
      va_P D cl ((X ++ [(q, .inl (cA, N', .inr (.inr (.inr (.inr (fun i => if i < N' then some (r i) else none))))))]) ++ va_pl (L ++ (List.range N').map r) (vr_up f ((List.range N').map r) (.inl (cy, z)))) H1 → va_D A ((X ++ [(q, .inl (cA, N', .inr (.inr (.inr (.inr (fun i => if i < N' then some (r i) else none))))))]) ++ va_pl (L ++ (List.range N').map r) (vr_up f ((List.range N').map r) (.inl (cy, z)))) → va_S A H0 H1 locs →
      W p l e R s m args below meth c H1 locs (cells + 1 + N') (slots + N' + N' * K') Q (F0 m (pc + 4) ls (.ref q :: rest))) : W p l e R s m args below meth c H locs cells slots Q (F0 m pc ls (.int k :: .int n :: rest)) := by
  subst hN
  subst hM
  intro T hT Xs
  obtain ⟨vm₁, cA, comp, -, fA, fC, hO, -, X', step⟩ := Xs.multianewarray2F hexec hown hclink (va_AOA.use hover) harr (g := F0 m pc ls (.int k :: .int n :: rest)) rfl (by rw [hb]; exact hdg) rfl hn hk hb1 hb2 hb3 hdf hdd hcells hslots
  have ec : some cy = some comp := hcy.symm.trans fC
  cases ec
  generalize hF : Jvm.Free.Multi.fill (T.setVm vm₁) cA cy n.toNatClampNeg k.toNatClampNeg (defaultValue ty) n.toNatClampNeg = F at X' step
  have hTh : (T.setVm vm₁).heap = H := hT
  obtain ⟨f1, f2, -, -⟩ := Jvm.Free.Multi.fill_facts (T.setVm vm₁) cA cy n.toNatClampNeg k.toNatClampNeg (defaultValue ty) n.toNatClampNeg
  rw [hF, hTh] at f1 f2
  have hold : ∀ x : Nat, x < H.size → F.heap[x]? = H[x]? := fun x hx => by
    have := Jvm.Free.Multi.fill_old (T.setVm vm₁) cA cy n.toNatClampNeg k.toNatClampNeg (defaultValue ty) (a := x) (by rw [hTh]; exact hx) n.toNatClampNeg
    rw [hF, hTh] at this
    exact this
  have hrow : ∀ j : Nat, j < n.toNatClampNeg → F.heap[H.size + 1 + j]? = some (vp_cell cy z) := fun j hj => by
    have := Jvm.Free.Multi.fill_inner (T.setVm vm₁) cA cy n.toNatClampNeg k.toNatClampNeg (defaultValue ty) n.toNatClampNeg j hj
    rw [hF, hTh, hz] at this
    exact this
  have hout : Jvm.Free.Multi.outerC cA n.toNatClampNeg H.size n.toNatClampNeg = vp_cell cA (n.toNatClampNeg, .inr (.inr (.inr (.inr (fun i => if i < n.toNatClampNeg then some (H.size + 1 + i) else none))))) := by
    rw [vp_cell_q]
    exact vr_outer cA n.toNatClampNeg H.size n.toNatClampNeg
  rw [hout] at f2
  have hlt : ∀ a, a ∈ L → a < H.size := fun a ha => by
    obtain ⟨k9, hk9⟩ := va_pl_get (X := X) (f := f) ha
    exact (hP k9 _ hk9).lt
  have hnl : ∀ i : Nat, i < n.toNatClampNeg → H.size + 1 + i ∉ L := fun i _ h => by
    have := hlt _ h
    omega
  have hnm : ∀ a, a ∈ (List.range n.toNatClampNeg).map (fun i => H.size + 1 + i) → a ∉ L := fun a ha h => by
    obtain ⟨i, -, rfl⟩ := List.mem_map.mp ha
    have := hlt _ h
    omega
  have hP0 : va_P D cl (X ++ va_pl L f) F.heap := hP.kept (fun k9 x hx => hold x.1 ((hP k9 x hx).lt))
  have hP1 : va_P D cl ((X ++ va_pl L f) ++ [(H.size, .inl (cA, n.toNatClampNeg, .inr (.inr (.inr (.inr (fun i => if i < n.toNatClampNeg then some (H.size + 1 + i) else none))))))]) F.heap := hP0.app (fun k9 x hx => by
    have h0 : k9 < 1 := (List.getElem?_eq_some_iff.mp hx).1
    rw [show k9 = 0 by omega] at hx
    cases hx
    exact f2)
  have hP2 : va_P D cl (((X ++ va_pl L f) ++ [(H.size, .inl (cA, n.toNatClampNeg, .inr (.inr (.inr (.inr (fun i => if i < n.toNatClampNeg then some (H.size + 1 + i) else none))))))]) ++ ((List.range n.toNatClampNeg).map (fun i => H.size + 1 + i)).map (fun a => (a, .inl (cy, z)))) F.heap := hP1.app (fun k9 x hx => by
    obtain ⟨a, ha, rfl⟩ := List.mem_map.mp (List.mem_of_getElem? hx)
    obtain ⟨i, hi, rfl⟩ := List.mem_map.mp ha
    exact hrow i (List.mem_range.mp hi))
  have hD2 : va_D A (((X ++ va_pl L f) ++ [(H.size, .inl (cA, n.toNatClampNeg, .inr (.inr (.inr (.inr (fun i => if i < n.toNatClampNeg then some (H.size + 1 + i) else none))))))]) ++ ((List.range n.toNatClampNeg).map (fun i => H.size + 1 + i)).map (fun a => (a, .inl (cy, z)))) := by
    have hD1 := hD.push (e := .inl (cA, n.toNatClampNeg, .inr (.inr (.inr (.inr (fun i => if i < n.toNatClampNeg then some (H.size + 1 + i) else none)))))) hP rfl (hA _ hS.1)
    generalize hW1 : (X ++ va_pl L f) ++ [(H.size, .inl (cA, n.toNatClampNeg, .inr (.inr (.inr (.inr (fun i => if i < n.toNatClampNeg then some (H.size + 1 + i) else none))))))] = W1 at hD1 hP1 ⊢
    have hle : ∀ (k9 : Nat) (x : Nat × va_E), W1[k9]? = some x → x.1 ≤ H.size := fun k9 x hx => by
      rw [← hW1] at hx
      by_cases hl : k9 < (X ++ va_pl L f).length
      · rw [List.getElem?_append_left hl] at hx
        exact Nat.le_of_lt ((hP k9 x hx).lt)
      · rw [List.getElem?_append_right (by omega)] at hx
        have h0 : k9 - (X ++ va_pl L f).length < 1 := (List.getElem?_eq_some_iff.mp hx).1
        rw [show k9 - (X ++ va_pl L f).length = 0 by omega] at hx
        cases hx
        exact Nat.le_refl _
    have hr : ∀ (k9 : Nat) (x : Nat × va_E), (((List.range n.toNatClampNeg).map (fun i => H.size + 1 + i)).map (fun a => ((a, .inl (cy, z)) : Nat × va_E)))[k9]? = some x → x.1 = H.size + 1 + k9 := fun k9 x hx => by
      rw [List.getElem?_map, List.getElem?_map] at hx
      by_cases h9 : k9 < n.toNatClampNeg
      · rw [List.getElem?_range h9] at hx
        cases hx
        rfl
      · have hn0 : (List.range n.toNatClampNeg)[k9]? = none := List.getElem?_eq_none (by rw [List.length_range]; omega)
        rw [hn0] at hx
        cases hx
    refine ⟨fun i j x y hi hj hxy => ?_, fun k9 x hx => ?_⟩
    · by_cases h1 : i < W1.length <;> by_cases h2 : j < W1.length
      · rw [List.getElem?_append_left h1] at hi
        rw [List.getElem?_append_left h2] at hj
        exact hD1.1 i j x y hi hj hxy
      · rw [List.getElem?_append_left h1] at hi
        rw [List.getElem?_append_right (by omega)] at hj
        have := hle _ _ hi
        have := hr _ _ hj
        omega
      · rw [List.getElem?_append_right (by omega)] at hi
        rw [List.getElem?_append_left h2] at hj
        have := hle _ _ hj
        have := hr _ _ hi
        omega
      · rw [List.getElem?_append_right (by omega)] at hi hj
        have := hr _ _ hi
        have := hr _ _ hj
        omega
    · by_cases h1 : k9 < W1.length
      · rw [List.getElem?_append_left h1] at hx
        exact hD1.2 k9 x hx
      · rw [List.getElem?_append_right (by omega)] at hx
        have := hr _ _ hx
        exact hA _ (by have := hS.1; omega)
  have hAr : ArrOfT s cA (.array ty) := fun N9 z9 => by
    obtain ⟨-, k9, hk9, cm9, hkk9⟩ := (hO 0 0 0).1
    exact ⟨(fun q hq => by cases hq), k9, hk9, cm9, hkk9⟩
  have hK2 : va_K D cl (tys ++ [(cA, .array ty)]) s := ⟨hK.1, fun k9 x hx => by
    by_cases hl : k9 < tys.length
    · rw [List.getElem?_append_left hl] at hx
      exact hK.2 k9 x hx
    · rw [List.getElem?_append_right (by omega)] at hx
      have h0 : k9 - tys.length < 1 := (List.getElem?_eq_some_iff.mp hx).1
      rw [show k9 - tys.length = 0 by omega] at hx
      cases hx
      exact ⟨hAr, fA⟩⟩
  obtain ⟨t, a1, b1⟩ := kk H.size (fun i => H.size + 1 + i) cA F.heap (fun i j _ _ h => by have h9 : H.size + 1 + i = H.size + 1 + j := h; omega) hnl hK2 (by rw [← vr_rows hnm]; exact vr_lay hP2) (by rw [← vr_rows hnm]; exact vr_layD hD2) ⟨by rw [f1]; have := hS.1; omega, fun x h1 h2 => (hold x (Nat.lt_of_lt_of_le h1 hS.1)).trans (hS.2.1 x h1 h2), hS.2.2⟩ F rfl X'
  refine ⟨t, step t ?_, b1⟩
  have e : T.heap.size = H.size := by rw [hT]
  rw [e]
  exact a1
end VGM
/-! ===== END ===== -/

/-! ===== BEGIN exceptions that leave a method, and their catching by the caller (launches without stack traces) ===== -/
section VXA
/-! The laws vx_back, vx_callV, vx_callS, vx_callSW, vx_throw0, vx_throwS follow proofs of the library, with one case more: JvmDerived/Free/Laws.lean (Back.of_free), Shelf42/LK1.lean (callV, callS), Shelf/KitTraced.lean (throwNew0V, throwNewS). -/
/-- where a method has thrown q: the class by its name, the cell, what was written, the world -/
def vx_T (XC : String → State → State → Prop) (st : State) (q : Addr) (t : State) (mc ms : Nat) (free : Addr → Prop) : Prop :=
  ∃ (E : String) (ce : Cell) (L : List Loc), XC E st t ∧ t.heap[q]? = some ce ∧ ce.vm = .none ∧ st.vm.findClass E = some ce.cls ∧ st.WarmedH t.vm ∧ st.sameButNew ({ t with vm := st.vm } : State) L mc ms ∧ ∀ z ∈ L, free z.base
def vx_Q (Qc : Array Value → State → Outcome → State → Prop) (XC : String → State → State → Prop) (mc ms : Nat) (free : Addr → Prop) : Array Value → State → Outcome → State → Prop := fun a st o t =>
  (Qc a st o t ∧ ∃ L, FrameEnd st o t L mc ms ∧ ∀ q ∈ L, free q.base) ∨ ∃ q, o = .threw q ∧ vx_T XC st q t mc ms free
/-- a callee that returns or throws -/
def vx_Met (l : Launch) (y : MethodName) (ws : List Cond) (rm : Room) (Pc : Array Value → State → Prop) (Qc : Array Value → State → Outcome → State → Prop) (XC : String → State → State → Prop) (mc ms : Nat) (free : Addr → Prop) : Prop :=
  MetFree l y (headSpec ws rm) Pc (fun _ _ _ _ _ => True) (vx_Q Qc XC mc ms free)
def vx_Post (XC : String → State → State → Prop) (mc ms : Nat) (free : Addr → Prop) : Pt → Array Value → Addr → Pt → Prop := fun A a q B =>
  ∃ (g : JFrame) (mk : MethodId) (t : State) (L : List Loc) (E : String) (ce : Cell), B.U.heap = t.heap ∧ B.U.vm = t.vm ∧ XC E (A.U.calling g mk a) t ∧ t.heap[q]? = some ce ∧ ce.vm = .none ∧ A.U.vm.findClass E = some ce.cls ∧ B.locs = A.locs ++ L ∧ (∀ z ∈ L, free z.base) ∧ B.cells = A.cells + mc ∧ B.slots = A.slots + ms
def vx_Back (l : Launch) (R : Room) (p : Program) (e : Env) (below : List Frame) (s : State) (sargs : Array Value) (y : MethodName) (len W9 : Nat)
    (Pre : Pt → Array Value → Prop) (Post : Pt → Array Value → Option Value → Pt → Prop) (PostX : Pt → Array Value → Addr → Pt → Prop) : Prop :=
  ∀ (m : MethodId) (meth : Method) (c : Code) (A : Pt) (g : JFrame) (ig : Instr) (mk : MethodId) (a : Array Value),
    Stand p l e R s m sargs below meth c A.U A.locs A.cells A.slots → g.method = m → g.locals.size = c.maxLocals → decode c.code g.pc = .ok (ig, len) →
    2 * g.monitorRoom + (g.stack.map fun v => v.category).sum ≤ W9 → A.U.methodNamed? y = some mk → Pre A a →
    (∃ (v : Option Value) (B : Pt), Stand p l e R s m sargs below meth c B.U B.locs B.cells B.slots ∧ Post A a v B ∧
      Steps p.tables e below (doInvoke e (A.U.setTop g) [] mk a).1 (B.U.setTop { g with pc := g.pc + len, stack := v.toList ++ g.stack })) ∨
    (∃ (q : Addr) (B : Pt), Stand p l e R s m sargs below meth c B.U B.locs B.cells B.slots ∧ PostX A a q B ∧
      Steps p.tables e below (doInvoke e (A.U.setTop g) [] mk a).1 ((B.U.setTop g).pushFrame (.throwing q)))
section Payer
variable {l : Launch} {R : Room} {p : Program} {e : Env} {below : List Frame} {s : State} {sargs : Array Value} {y : MethodName} {len W9 : Nat}
theorem vx_back {ws : List Cond} {rm : Room} {Pc : Array Value → State → Prop} {Qc : Array Value → State → Outcome → State → Prop} {XC : String → State → State → Prop} {mc ms : Nat} {free : Addr → Prop} {bytes : ByteArray} {maxL : Nat} {ret : Option FieldType}
    (hM : vx_Met l y ws rm Pc Qc XC mc ms free) (hblind : FrameBlind Pc) (hrc : rm.cells = mc) (hrs : rm.slots = ms)
    (hframes : rm.frames + 1 ≤ R.frames) (hlocals : W9 + (maxL + 11) + rm.locals ≤ R.locals)
    (hws : ∀ w ∈ ws, ∀ a' U, s.WarmedH U.vm → w.before a' U = true) (hcode : Cond.code y bytes maxL ret ∈ ws) (hinit : ∀ a' U, s.WarmedH U.vm → (Cond.initialized y.cls).before a' U = true) :
    vx_Back l R p e below s sargs y len W9 (PreOf R mc ms Pc) (PostOf Qc mc ms free) (vx_Post XC mc ms free) := by
  intro m meth c A g ig mk a X hg hsize hdg hW hn hp
  have h1 : (headSpec ws rm).pre.before a A.U = true := atoms_intro fun w hw => hws w hw _ _ X.warmed
  have h2 : (Cond.code y bytes maxL ret).before a A.U = true := hws _ hcode _ _ X.warmed
  have h3 : (Cond.initialized y.cls).before a A.U = true := hinit _ _ X.warmed
  have h4 : A.cells + (headSpec ws rm).room.cells ≤ R.cells := by rw [show (headSpec ws rm).room.cells = mc from hrc]; exact hp.1
  have h5 : A.slots + (headSpec ws rm).room.slots ≤ R.slots := by rw [show (headSpec ws rm).room.slots = ms from hrs]; exact hp.2.1
  have hPc : Pc a (A.U.calling g mk a) := hblind _ _ _ _ hp.2.2
  obtain ⟨U, Ls, c0, s0⟩ := A
  dsimp only [Pt.U, Pt.locs, Pt.cells, Pt.slots] at h1 h2 h3 h4 h5 X hn hPc ⊢
  obtain ⟨methY, cY, hmY, hcY, -, hlY, -, -, -, -⟩ := Cond.code_spec hn h2
  obtain ⟨kY, hkY, -⟩ := className_of_methodNamed hn
  have hinitY : kY.init = .initialized := Cond.initialized_spec (findClass_of_methodNamed hn) hkY h3
  have h : At U g.method c below := by rw [hg]; exact X.here
  have hlocals9 : W9 + (maxL + 11) + (headSpec ws rm).room.locals ≤ R.locals := hlocals
  have happ : (headSpec ws rm).appliesLoose y e.platform (U.calling g mk a) = true :=
    Spec.appliesLoose_calling (g := g) h hdg hn hkY hinitY
      (X.room_calling (g := g) (R' := (headSpec ws rm).room) hsize hmY hcY hframes (by rw [hlY]; omega) h4 h5) h1
  obtain ⟨mid, hmid⟩ := h.above
  have hfr : (U.setTop g).frames = (.java g :: mid) ++ below := by rw [State.frames_setTop' g h.top, hmid]; rfl
  obtain ⟨o, s₂, hsteps, -, hend, hq⟩ := Steps.callFree hM p X.admits X.cas X.clock (acts := []) hfr happ hPc trivial
  have hq' : vx_Q Qc XC mc ms free a (U.calling g mk a) o s₂ := hq
  rw [State.frames_setTop' g h.top] at hend
  obtain ⟨g₀, hg0⟩ := Option.isSome_iff_exists.mp h.top
  obtain ⟨r, hr⟩ := State.topJava?_eq_some.mp hg0
  have hr' : (({ U with heap := s₂.heap, slotsUsed := s₂.slotsUsed } : State).setVm s₂.vm).frames = .java g₀ :: r := hr
  rcases hq' with ⟨hqc, L, hfe, hL⟩ | ⟨q, rfl, E, ce, L, hx, hce, hcv, hcl, hW₂, hsm, hL⟩
  · obtain ⟨⟨v, rfl⟩, hW₂, e2, q2, q3, q4, q5, q6⟩ := id hfe
    have e3 : s₂ = ({ (U.calling g mk a).setFrames s₂.frames with heap := s₂.heap, slotsUsed := s₂.slotsUsed } : State).setVm s₂.vm := by
      have : s₂ = ({ s₂ with vm := (U.calling g mk a).vm } : State).setVm s₂.vm := rfl
      rw [e2] at this
      exact this
    obtain ⟨c₂, i₂, len₂, hc₂, hd₂, hf₂⟩ := hend
    have hW' : U.WarmedH s₂.vm := hW₂
    have hcc : c₂ = c := by
      have h1 : s₂.code? g.method = U.code? g.method := by
        rw [State.code?_eq, State.code?_eq, hW'.alike.method?]
      exact Option.some.inj (hc₂.symm.trans (h1.trans h.code))
    subst hcc
    have hlen : len₂ = len := by rw [hdg] at hd₂; cases hd₂; rfl
    subst hlen
    have hs₂ : s₂ = (({ U with heap := s₂.heap, slotsUsed := s₂.slotsUsed } : State).setVm s₂.vm).setTop { g with pc := g.pc + len₂, stack := v.toList ++ g.stack } := by
      refine e3.trans ?_
      rw [hf₂, State.calling_eq h.top, State.setFrames_setFrames, State.setTop_of_frames _ hr', hr]
      rfl
    have hsame : U.sameButNew ({ U with heap := s₂.heap, slotsUsed := s₂.slotsUsed } : State) L mc ms := by
      refine ⟨?_, q2, q3, q4, q5, q6⟩
      obtain ⟨t, ht, -⟩ := State.frames_cons hr
      show ({ U with heap := s₂.heap, slotsUsed := s₂.slotsUsed } : State) = { U.setFrames U.frames with heap := s₂.heap, slotsUsed := s₂.slotsUsed }
      rw [State.setFrames_self ht]
    subst hg
    refine Or.inl ⟨v, ⟨(({ U with heap := s₂.heap, slotsUsed := s₂.slotsUsed } : State).setVm s₂.vm), Ls ++ L, c0 + mc, s0 + ms⟩,
      ⟨X.admits, X.cas, X.clock, X.frames, X.room, X.hears, X.method, X.code, (X.here.setHeapUsed s₂.heap s₂.slotsUsed).setVm hW'.alike, X.tail, State.WarmedH.trans X.warmed hW', X.limits, X.bytes, X.same.trans (hsame.setVm s.vm)⟩,
      ⟨g, mk, s₂, L, rfl, rfl, hqc, rfl, hL, rfl, rfl⟩, ?_⟩
    show Steps p.tables e below _ ((({ U with heap := s₂.heap, slotsUsed := s₂.slotsUsed } : State).setVm s₂.vm).setTop { g with pc := g.pc + len₂, stack := v.toList ++ g.stack })
    rw [← hs₂]
    exact hsteps
  · obtain ⟨e2, q2, q3, q4, q5, q6⟩ := id hsm
    have e3 : s₂ = ({ (U.calling g mk a).setFrames s₂.frames with heap := s₂.heap, slotsUsed := s₂.slotsUsed } : State).setVm s₂.vm := by
      have : s₂ = ({ s₂ with vm := (U.calling g mk a).vm } : State).setVm s₂.vm := rfl
      rw [e2] at this
      exact this
    have hf₂ : s₂.frames = .throwing q :: .java g :: U.frames.tail := hend
    have hW' : U.WarmedH s₂.vm := hW₂
    have hs₂ : s₂ = ((({ U with heap := s₂.heap, slotsUsed := s₂.slotsUsed } : State).setVm s₂.vm).setTop g).pushFrame (.throwing q) := by
      refine e3.trans ?_
      rw [hf₂, State.calling_eq h.top, State.setFrames_setFrames, State.pushFrame, State.frames_setTop _ hr', State.setTop_of_frames _ hr', State.setFrames_setFrames, hr]
      rfl
    have hsame : U.sameButNew ({ U with heap := s₂.heap, slotsUsed := s₂.slotsUsed } : State) L mc ms := by
      refine ⟨?_, q2, q3, q4, q5, q6⟩
      obtain ⟨t, ht, -⟩ := State.frames_cons hr
      show ({ U with heap := s₂.heap, slotsUsed := s₂.slotsUsed } : State) = { U.setFrames U.frames with heap := s₂.heap, slotsUsed := s₂.slotsUsed }
      rw [State.setFrames_self ht]
    subst hg
    refine Or.inr ⟨q, ⟨(({ U with heap := s₂.heap, slotsUsed := s₂.slotsUsed } : State).setVm s₂.vm), Ls ++ L, c0 + mc, s0 + ms⟩,
      ⟨X.admits, X.cas, X.clock, X.frames, X.room, X.hears, X.method, X.code, (X.here.setHeapUsed s₂.heap s₂.slotsUsed).setVm hW'.alike, X.tail, State.WarmedH.trans X.warmed hW', X.limits, X.bytes, X.same.trans (hsame.setVm s.vm)⟩,
      ⟨g, mk, s₂, L, E, ce, rfl, rfl, hx, hce, hcv, hcl, rfl, hL, rfl, rfl⟩, ?_⟩
    show Steps p.tables e below _ (((({ U with heap := s₂.heap, slotsUsed := s₂.slotsUsed } : State).setVm s₂.vm).setTop g).pushFrame (.throwing q))
    rw [← hs₂]
    exact hsteps
end Payer
section Calls
variable {p : Program} {l : Launch} {e : Env} {R : Room} {s : State} {m : MethodId} {args : Array Value} {below : List Frame} {meth : Method} {c : Code} {T : State} {locs : List Loc} {cells slots : Nat}
theorem vx_callV (X : Stand p l e R s m args below meth c T locs cells slots) (hexec : p.tables.exec = Jvm.exec) {own C : String} {index : Nat} {y : MethodName} {bytes : ByteArray} {maxL : Nat} {ret : Option FieldType}
    (hown : s.vm.findClass own = some m.cls) (hlink : (Cond.methodLink own index y).before args s = true) (hinst : (Cond.instanceMethod y).before args s = true) (hsel : (Cond.selects C y y).before args s = true)
    (hcode : (Cond.code y bytes maxL ret).before args s = true) (hy : y.cls ≠ "java/lang/invoke/MethodHandle" ∧ y.cls ≠ "java/lang/invoke/VarHandle")
    {W9 : Nat} {Pre : Pt → Array Value → Prop} {Post : Pt → Array Value → Option Value → Pt → Prop} {PostX : Pt → Array Value → Addr → Pt → Prop} (hK : vx_Back l R p e below s args y 3 W9 Pre Post PostX)
    {b : Addr} {cellB : Cell} (hcell : T.heap[b]? = some cellB) (hobj : cellB.vm.isStatics = false) (hcls : s.vm.findClass C = some cellB.cls)
    {g : JFrame} (hg : g.method = m) (hsize : g.locals.size = c.maxLocals) {argsL rest : List Value} (hlen : ∀ sig, parseMethodDescriptor y.desc = some sig → argsL.length = sig.parameters.length)
    (hstack : g.stack = argsL.reverse ++ .ref b :: rest) (hW : 2 * g.monitorRoom + (rest.map fun v => v.category).sum ≤ W9) (hdg : decode c.code g.pc = .ok (.invokevirtual index, 3))
    (hpre : ∀ vm₁, s.WarmedH vm₁ → Pre ⟨T.setVm vm₁, locs, cells, slots⟩ (Value.ref b :: argsL).toArray) :
    (∃ (v : Option Value) (vm₁ : Vm) (B : Pt), s.WarmedH vm₁ ∧ Stand p l e R s m args below meth c B.U B.locs B.cells B.slots ∧ Post ⟨T.setVm vm₁, locs, cells, slots⟩ (Value.ref b :: argsL).toArray v B ∧
      ∀ target, Steps p.tables e below (B.U.setTop { g with pc := g.pc + 3, stack := v.toList ++ rest }) target → Steps p.tables e below (T.setTop g) target) ∨
    (∃ (q : Addr) (vm₁ : Vm) (B : Pt), s.WarmedH vm₁ ∧ Stand p l e R s m args below meth c B.U B.locs B.cells B.slots ∧ PostX ⟨T.setVm vm₁, locs, cells, slots⟩ (Value.ref b :: argsL).toArray q B ∧
      Steps p.tables e below (T.setTop g) ((B.U.setTop { g with stack := rest }).pushFrame (.throwing q))) := by
  obtain ⟨mk, methM, hnamed, hmethM, hstM, habM⟩ := Cond.instanceMethod_spec hinst
  obtain ⟨methM', cM, hmethM', -, -, -, -, -, -, hsigM⟩ := Cond.code_spec hnamed hcode
  cases hmethM.symm.trans hmethM'
  obtain ⟨c2, r2, m2, q1, q2, q3, q4, kP, hkP, hkPi⟩ := Cond.selects_spec hsel
  cases hcls.symm.trans q1
  cases (State.methodFound?_of_named hnamed hy).symm.trans q2
  cases hnamed.symm.trans q3
  have hselP : selectMethod e.platform s.vm cellB.cls mk = .method mk := by rw [Launch.admits_selectMethod X.admits]; exact q4
  obtain ⟨vm₁, X₁, hstep₁⟩ := X.invokevirtual hexec hown hlink hnamed hmethM hstM hkP hkPi hy (a := b) (cell := cellB) hcell
    (fun z h => by rw [h] at hobj; cases hobj) hselP hmethM habM hkP hkPi (g := g) hg (argsL := argsL) (rest := rest) (hlen _ hsigM) hstack hdg
  rcases hK m meth c ⟨T.setVm vm₁, locs, cells, slots⟩ { g with stack := rest } (.invokevirtual index) mk (Value.ref b :: argsL).toArray X₁ hg hsize hdg hW (X₁.named hnamed) (hpre vm₁ X₁.warmed) with ⟨v, B, X', hpost, hsteps⟩ | ⟨q, B, X', hpost, hsteps⟩
  · exact Or.inl ⟨v, vm₁, B, X₁.warmed, X', hpost, fun target h => hstep₁ _ fun acts => by rw [doInvoke_state]; exact hsteps.trans h⟩
  · exact Or.inr ⟨q, vm₁, B, X₁.warmed, X', hpost, hstep₁ _ fun acts => by rw [doInvoke_state]; exact hsteps⟩
theorem vx_callS (X : Stand p l e R s m args below meth c T locs cells slots) (hexec : p.tables.exec = Jvm.exec) {own : String} {index : Nat} {y : MethodName} {bytes : ByteArray} {maxL : Nat} {ret : Option FieldType}
    (hown : s.vm.findClass own = some m.cls) (hlink : (Cond.methodLink own index y).before args s = true) (hstat : (Cond.static y).before args s = true) (hinit : (Cond.initialized y.cls).before args s = true)
    (hcode : (Cond.code y bytes maxL ret).before args s = true) (hy : y.cls ≠ "java/lang/invoke/MethodHandle" ∧ y.cls ≠ "java/lang/invoke/VarHandle")
    {W9 : Nat} {Pre : Pt → Array Value → Prop} {Post : Pt → Array Value → Option Value → Pt → Prop} {PostX : Pt → Array Value → Addr → Pt → Prop} (hK : vx_Back l R p e below s args y 3 W9 Pre Post PostX)
    {g : JFrame} (hg : g.method = m) (hsize : g.locals.size = c.maxLocals) {argsL rest : List Value} (hlen : ∀ sig, parseMethodDescriptor y.desc = some sig → argsL.length = sig.parameters.length)
    (hstack : g.stack = argsL.reverse ++ rest) (hW : 2 * g.monitorRoom + (rest.map fun v => v.category).sum ≤ W9) (hdg : decode c.code g.pc = .ok (.invokestatic index, 3))
    (hpre : ∀ vm₁, s.WarmedH vm₁ → Pre ⟨T.setVm vm₁, locs, cells, slots⟩ argsL.toArray) :
    (∃ (v : Option Value) (vm₁ : Vm) (B : Pt), s.WarmedH vm₁ ∧ Stand p l e R s m args below meth c B.U B.locs B.cells B.slots ∧ Post ⟨T.setVm vm₁, locs, cells, slots⟩ argsL.toArray v B ∧
      ∀ target, Steps p.tables e below (B.U.setTop { g with pc := g.pc + 3, stack := v.toList ++ rest }) target → Steps p.tables e below (T.setTop g) target) ∨
    (∃ (q : Addr) (vm₁ : Vm) (B : Pt), s.WarmedH vm₁ ∧ Stand p l e R s m args below meth c B.U B.locs B.cells B.slots ∧ PostX ⟨T.setVm vm₁, locs, cells, slots⟩ argsL.toArray q B ∧
      Steps p.tables e below (T.setTop g) ((B.U.setTop { g with stack := rest }).pushFrame (.throwing q))) := by
  obtain ⟨mk, hnamed⟩ := Cond.code_named hcode
  obtain ⟨methM, cM, hmethM, -, -, -, -, -, -, hsigM⟩ := Cond.code_spec hnamed hcode
  have hstatic : methM.isStatic = true := Cond.static_spec hnamed hmethM hstat
  obtain ⟨kP, hkP, -⟩ := className_of_methodNamed hnamed
  have hinitP : kP.init = .initialized := Cond.initialized_spec (findClass_of_methodNamed hnamed) hkP hinit
  obtain ⟨vm₁, X₁, hstep₁⟩ := X.invokestatic hexec hown hlink hnamed hmethM hstatic hkP hinitP hy (g := g) hg (argsL := argsL) (rest := rest) (hlen _ hsigM) hstack hdg
  rcases hK m meth c ⟨T.setVm vm₁, locs, cells, slots⟩ { g with stack := rest } (.invokestatic index) mk argsL.toArray X₁ hg hsize hdg hW (X₁.named hnamed) (hpre vm₁ X₁.warmed) with ⟨v, B, X', hpost, hsteps⟩ | ⟨q, B, X', hpost, hsteps⟩
  · exact Or.inl ⟨v, vm₁, B, X₁.warmed, X', hpost, fun target h => hstep₁ _ fun acts => by rw [doInvoke_state]; exact hsteps.trans h⟩
  · exact Or.inr ⟨q, vm₁, B, X₁.warmed, X', hpost, hstep₁ _ fun acts => by rw [doInvoke_state]; exact hsteps⟩
end Calls
theorem vx_cls {s : State} {T : State} {vm₁ : Vm} {E : String} {k : ClassId} (hW : s.WarmedH vm₁) (h : (T.setVm vm₁).vm.findClass E = some k) : s.vm.findClass E = some k := by
  have h1 : vm₁.findClass E = some k := h
  rw [hW.alike.findClass] at h1
  exact h1
/-- the method's frame g, with q thrown over it -/
def vx_W (p : Program) (l : Launch) (e : Env) (R : Room) (s : State) (m : MethodId) (args : Array Value) (below : List Frame) (meth : Method) (c : Code) (H : Heap) (locs : List Loc) (cells slots : Nat) (Q : State → Prop) (g : JFrame) (q : Addr) : Prop :=
  ∀ T : State, T.heap = H → Stand p l e R s m args below meth c T locs cells slots → ∃ t, Steps p.tables e below ((T.setTop g).pushFrame (.throwing q)) t ∧ Q t
def vx_Run (p : Program) (l : Launch) (e : Env) (R : Room) (s : State) (m : MethodId) (args : Array Value) (below : List Frame) (meth : Method) (c : Code) (H : Heap) (locs : List Loc) (cells slots mc ms : Nat) (g : JFrame) (rest : List Value) (Qa : State → Outcome → State → Prop) (XC : String → State → State → Prop) (free : Addr → Prop) : Prop :=
  ∀ T : State, T.heap = H → Stand p l e R s m args below meth c T locs cells slots →
    (∃ (v : Option Value) (st₀ t T' : State) (L : List Loc), st₀.heap = H ∧ Stand p l e R s m args below meth c T' (locs ++ L) (cells + mc) (slots + ms) ∧ (∀ q ∈ L, free q.base) ∧ T'.heap = t.heap ∧ T'.vm = t.vm ∧ Qa st₀ (.returned v) t ∧
      Goes p e below T g T' { g with pc := g.pc + 3, stack := v.toList ++ rest }) ∨
    (∃ (q : Addr) (st₀ t T' : State) (L : List Loc) (E : String) (ce : Cell), st₀.heap = H ∧ Stand p l e R s m args below meth c T' (locs ++ L) (cells + mc) (slots + ms) ∧ (∀ z ∈ L, free z.base) ∧ T'.heap = t.heap ∧ T'.vm = t.vm ∧ XC E st₀ t ∧ t.heap[q]? = some ce ∧ ce.vm = .none ∧ s.vm.findClass E = some ce.cls ∧
      Steps p.tables e below (T.setTop g) ((T'.setTop { g with stack := rest }).pushFrame (.throwing q)))
def vx_X {S : Type} (px : S → Prop) (B : String → S → State → Prop) (A : Nat → Prop) : String → State → State → Prop := fun E st t => ∃ u : S, px u ∧ B E u t ∧ va_F A st t
section Runs
variable {p : Program} {l : Launch} {e : Env} {R : Room} {s : State} {m : MethodId} {args : Array Value} {below : List Frame} {meth : Method} {c : Code} {H : Heap} {locs : List Loc} {cells slots : Nat}
variable {y : MethodName} {bytes cc : ByteArray} {maxL nL mc ms n index : Nat} {ret : Option FieldType} {ws : List Cond} {rm : Room} {Pc : Array Value → State → Prop} {Qc : Array Value → State → Outcome → State → Prop} {XC : String → State → State → Prop} {free : Addr → Prop} {Ts : List Cond} {own C : String} {b : Addr} {As rest : List Value} {g : JFrame}
theorem vx_callBack (cb : CallB R s args own index y bytes maxL ret ws rm mc ms n) (hM : vx_Met l y ws rm Pc Qc XC mc ms free) (hbl : FrameBlind Pc) : vx_Back l R p e below s args y 3 8 (PreOf R mc ms Pc) (PostOf Qc mc ms free) (vx_Post XC mc ms free) := by
  obtain ⟨hrc, hrs, hfr, hlo, hws, hcw, -, hini, -⟩ := cb
  exact vx_back (bytes := bytes) (maxL := maxL) (ret := ret) hM hbl hrc hrs hfr hlo hws hcw (fun a' U hW => word_at hW (Or.inl (by first | rfl | simp [Cond.onTables, Cond.keeps, Cond.steady])) hini)
theorem vx_runV (S : CallFix p m c cc nL s args Ts own) (hM : vx_Met l y ws rm Pc Qc XC mc ms free) (cw : CallW R s args own C index y bytes maxL ret ws rm mc ms n) (hp : PreV s H C b Pc As)
    (hg : g.method = m) (hn : As.length = n) (hsize : g.locals.size = nL) (hstack : g.stack = As.reverse ++ .ref b :: rest) (hW : 2 * g.monitorRoom + (rest.map fun v => v.category).sum ≤ 8) (hdg : decode cc g.pc = .ok (.invokevirtual index, 3)) (hf : cells + mc ≤ R.cells ∧ slots + ms ≤ R.slots) :
    vx_Run p l e R s m args below meth c H locs cells slots mc ms g rest (Qc (Value.ref b :: As).toArray) XC free := by
  have hK : vx_Back l R p e below s args y 3 8 (PreOf R mc ms Pc) (PostOf Qc mc ms free) (vx_Post XC mc ms free) := vx_callBack cw.1 hM hp.1
  obtain ⟨⟨-, -, -, -, -, -, hcode, -, hy, hlen, hl⟩, hin, hse⟩ := cw
  obtain ⟨hx, hb, hml, ho, -⟩ := S
  obtain ⟨-, ⟨cellB, hcB, hoB, hclB⟩, hPc⟩ := hp
  intro T hT X
  rcases vx_callV X hx (C := C) (bytes := bytes) (maxL := maxL) (ret := ret) ho hl hin hse hcode hy hK (by rw [hT]; exact hcB) hoB hclB hg (hsize.trans hml.symm) (argsL := As) (rest := rest) (fun sig h => hn.trans (hlen sig h)) hstack hW (by rw [hb]; exact hdg)
    (fun vm₁ hW₁ => ⟨hf.1, hf.2, hPc (T.setVm vm₁) hT hW₁⟩) with ⟨v, vm₁, ⟨U', l2, c2, s2⟩, hW₁, X', ⟨g', mk, t, L, e1, e2, hq, h1, hL, h2, h3⟩, st⟩ | ⟨q, vm₁, ⟨U', l2, c2, s2⟩, hW₁, X', ⟨g', mk, t, L, E, ce, e1, e2, hq, hce, hcv, hcl, h1, hL, h2, h3⟩, st⟩
  · dsimp only [Pt.U, Pt.locs, Pt.cells, Pt.slots] at X' e1 e2 h1 h2 h3 st
    subst h1; subst h2; subst h3
    exact Or.inl ⟨v, (T.setVm vm₁).calling g' mk (Value.ref b :: As).toArray, t, U', L, hT, X', hL, e1, e2, hq, st⟩
  · dsimp only [Pt.U, Pt.locs, Pt.cells, Pt.slots] at X' e1 e2 h1 h2 h3 st hcl
    subst h1; subst h2; subst h3
    exact Or.inr ⟨q, (T.setVm vm₁).calling g' mk (Value.ref b :: As).toArray, t, U', L, E, ce, hT, X', hL, e1, e2, hq, hce, hcv, vx_cls hW₁ hcl, st⟩
theorem vx_runS (S : CallFix p m c cc nL s args Ts own) (hM : vx_Met l y ws rm Pc Qc XC mc ms free) (cw : CallB R s args own index y bytes maxL ret ws rm mc ms n ∧ (Cond.static y).before args s = true) (hp : PreS s H Pc As)
    (hg : g.method = m) (hn : As.length = n) (hsize : g.locals.size = nL) (hstack : g.stack = As.reverse ++ rest) (hW : 2 * g.monitorRoom + (rest.map fun v => v.category).sum ≤ 8) (hdg : decode cc g.pc = .ok (.invokestatic index, 3)) (hf : cells + mc ≤ R.cells ∧ slots + ms ≤ R.slots) :
    vx_Run p l e R s m args below meth c H locs cells slots mc ms g rest (Qc As.toArray) XC free := by
  have hK : vx_Back l R p e below s args y 3 8 (PreOf R mc ms Pc) (PostOf Qc mc ms free) (vx_Post XC mc ms free) := vx_callBack cw.1 hM hp.1
  obtain ⟨⟨-, -, -, -, -, -, hcode, hini, hy, hlen, hl⟩, hstt⟩ := cw
  obtain ⟨hx, hb, hml, ho, -⟩ := S
  intro T hT X
  rcases vx_callS X hx (bytes := bytes) (maxL := maxL) (ret := ret) ho hl hstt hini hcode hy hK hg (hsize.trans hml.symm) (argsL := As) (rest := rest) (fun sig h => hn.trans (hlen sig h)) hstack hW (by rw [hb]; exact hdg)
    (fun vm₁ hW₁ => ⟨hf.1, hf.2, hp.2 (T.setVm vm₁) hT hW₁⟩) with ⟨v, vm₁, ⟨U', l2, c2, s2⟩, hW₁, X', ⟨g', mk, t, L, e1, e2, hq, h1, hL, h2, h3⟩, st⟩ | ⟨q, vm₁, ⟨U', l2, c2, s2⟩, hW₁, X', ⟨g', mk, t, L, E, ce, e1, e2, hq, hce, hcv, hcl, h1, hL, h2, h3⟩, st⟩
  · dsimp only [Pt.U, Pt.locs, Pt.cells, Pt.slots] at X' e1 e2 h1 h2 h3 st
    subst h1; subst h2; subst h3
    exact Or.inl ⟨v, (T.setVm vm₁).calling g' mk As.toArray, t, U', L, hT, X', hL, e1, e2, hq, st⟩
  · dsimp only [Pt.U, Pt.locs, Pt.cells, Pt.slots] at X' e1 e2 h1 h2 h3 st hcl
    subst h1; subst h2; subst h3
    exact Or.inr ⟨q, (T.setVm vm₁).calling g' mk As.toArray, t, U', L, E, ce, hT, X', hL, e1, e2, hq, hce, hcv, vx_cls hW₁ hcl, st⟩
end Runs
section Rows
variable {p : Program} {l : Launch} {e : Env} {R : Room} {s : State} {m : MethodId} {args : Array Value} {below : List Frame} {meth : Method} {c : Code} {H : Heap} {locs : List Loc} {cells slots : Nat} {Q : State → Prop}
variable {mc ms : Nat} {free : Addr → Prop} {A0 A1 : Nat → Prop} {H0 : Heap} {a : Array Value} {pc : Nat} {ls : Array Slot} {st0 rest : List Value}
theorem vx_keep {st₀ t T' : State} {L : List Loc} (h0 : st₀.heap = H) (e1 : T'.heap = t.heap) (hS : va_S A0 H0 H locs) (hA : ∀ q, q < H.size → A1 q → A0 q) (hf : ∀ q, free q → A0 q) (hL : ∀ q ∈ L, free q.base) (hF : va_F A1 st₀ t) :
    H.size ≤ T'.heap.size ∧ (∀ q : Nat, q < H.size → ¬ A1 q → T'.heap[q]? = H[q]?) ∧ va_S A0 H0 T'.heap (locs ++ L) := by
  obtain ⟨hz, hk⟩ := hF
  rw [h0] at hz hk
  exact ⟨by rw [e1]; exact hz, fun q h1 h2 => by rw [e1]; exact hk q h1 h2,
    ⟨Nat.le_trans hS.1 (by rw [e1]; exact hz), fun q h1 h2 => by rw [e1, hk q (Nat.lt_of_lt_of_le h1 hS.1) (fun z => h2 (hA q (Nat.lt_of_lt_of_le h1 hS.1) z))]; exact hS.2.1 q h1 h2, fun q hq => by
      rcases List.mem_append.mp hq with h | h
      · exact hS.2.2 q h
      · exact hf _ (hL q h)⟩⟩
theorem vx_calli {S SX : Type} {post : Int32 → S → Prop} {px : SX → Prop} {B : S → State → Prop} {BX : String → SX → State → Prop} {AX : Nat → Prop} (hr : vx_Run p l e R s m args below meth c H locs cells slots mc ms (F0 m pc ls st0) rest (va_Qi post B A1 a) (vx_X px BX AX) free) (hS : va_S A0 H0 H locs) (hA : ∀ q, q < H.size → A1 q → A0 q) (hf : ∀ q, free q → A0 q) (hAX : ∀ q, q < H.size → AX q → A0 q)
    (kx : ∀ (E : String) (ce : Cell) (q9 : Addr) (u : SX) (t : State) (H1 : Heap) (locs1 : List Loc), t.heap = H1 → s.vm.Alike t.vm → px u → BX E u t → H.size ≤ H1.size → (∀ q : Nat, q < H.size → ¬ AX q → H1[q]? = H[q]?) → va_S A0 H0 H1 locs1 → H1[q9]? = some ce → ce.vm = .none → s.vm.findClass E = some ce.cls → vx_W p l e R s m args below meth c H1 locs1 (cells + mc) (slots + ms) Q (F0 m pc ls rest) q9)
    (kk : ∀ (r : Int32) (u : S) (t : State) (H1 : Heap) (locs1 : List Loc), t.heap = H1 → s.vm.Alike t.vm → post r u → B u t → H.size ≤ H1.size → (∀ q : Nat, q < H.size → ¬ A1 q → H1[q]? = H[q]?) → va_S A0 H0 H1 locs1 → W p l e R s m args below meth c H1 locs1 (cells + mc) (slots + ms) Q (F0 m (pc + 3) ls (.int r :: rest))) : W p l e R s m args below meth c H locs cells slots Q (F0 m pc ls st0) := by
  intro T hT X
  rcases hr T hT X with ⟨v, st₀, t, T', L, h0, X', hL, e1, e2, ⟨⟨r, u, hv, hp, hb⟩, hF⟩, st⟩ | ⟨q, st₀, t, T', L, E, ce, h0, X', hL, e1, e2, ⟨u, hp, hb, hF⟩, hce, hcv, hcl, st⟩
  · cases hv
    obtain ⟨k1, k2, k3⟩ := vx_keep h0 e1 hS hA hf hL hF
    obtain ⟨t2, a1, b1⟩ := kk r u t T'.heap (locs ++ L) e1.symm (by rw [← e2]; exact X'.warmed.alike) hp hb k1 k2 k3 T' rfl X'
    exact ⟨t2, st t2 a1, b1⟩
  · obtain ⟨k1, k2, k3⟩ := vx_keep h0 e1 hS hAX hf hL hF
    obtain ⟨t2, a1, b1⟩ := kx E ce q u t T'.heap (locs ++ L) e1.symm (by rw [← e2]; exact X'.warmed.alike) hp hb k1 k2 k3 (by rw [e1]; exact hce) hcv hcl T' rfl X'
    exact ⟨t2, st.trans a1, b1⟩
theorem vx_calll {S SX : Type} {post : Int64 → S → Prop} {px : SX → Prop} {B : S → State → Prop} {BX : String → SX → State → Prop} {AX : Nat → Prop} (hr : vx_Run p l e R s m args below meth c H locs cells slots mc ms (F0 m pc ls st0) rest (va_Ql post B A1 a) (vx_X px BX AX) free) (hS : va_S A0 H0 H locs) (hA : ∀ q, q < H.size → A1 q → A0 q) (hf : ∀ q, free q → A0 q) (hAX : ∀ q, q < H.size → AX q → A0 q)
    (kx : ∀ (E : String) (ce : Cell) (q9 : Addr) (u : SX) (t : State) (H1 : Heap) (locs1 : List Loc), t.heap = H1 → s.vm.Alike t.vm → px u → BX E u t → H.size ≤ H1.size → (∀ q : Nat, q < H.size → ¬ AX q → H1[q]? = H[q]?) → va_S A0 H0 H1 locs1 → H1[q9]? = some ce → ce.vm = .none → s.vm.findClass E = some ce.cls → vx_W p l e R s m args below meth c H1 locs1 (cells + mc) (slots + ms) Q (F0 m pc ls rest) q9)
    (kk : ∀ (r : Int64) (u : S) (t : State) (H1 : Heap) (locs1 : List Loc), t.heap = H1 → s.vm.Alike t.vm → post r u → B u t → H.size ≤ H1.size → (∀ q : Nat, q < H.size → ¬ A1 q → H1[q]? = H[q]?) → va_S A0 H0 H1 locs1 → W p l e R s m args below meth c H1 locs1 (cells + mc) (slots + ms) Q (F0 m (pc + 3) ls (.long r :: rest))) : W p l e R s m args below meth c H locs cells slots Q (F0 m pc ls st0) := by
  intro T hT X
  rcases hr T hT X with ⟨v, st₀, t, T', L, h0, X', hL, e1, e2, ⟨⟨r, u, hv, hp, hb⟩, hF⟩, st⟩ | ⟨q, st₀, t, T', L, E, ce, h0, X', hL, e1, e2, ⟨u, hp, hb, hF⟩, hce, hcv, hcl, st⟩
  · cases hv
    obtain ⟨k1, k2, k3⟩ := vx_keep h0 e1 hS hA hf hL hF
    obtain ⟨t2, a1, b1⟩ := kk r u t T'.heap (locs ++ L) e1.symm (by rw [← e2]; exact X'.warmed.alike) hp hb k1 k2 k3 T' rfl X'
    exact ⟨t2, st t2 a1, b1⟩
  · obtain ⟨k1, k2, k3⟩ := vx_keep h0 e1 hS hAX hf hL hF
    obtain ⟨t2, a1, b1⟩ := kx E ce q u t T'.heap (locs ++ L) e1.symm (by rw [← e2]; exact X'.warmed.alike) hp hb k1 k2 k3 (by rw [e1]; exact hce) hcv hcl T' rfl X'
    exact ⟨t2, st.trans a1, b1⟩
theorem vx_callf {S SX : Type} {post : UInt32 → S → Prop} {px : SX → Prop} {B : S → State → Prop} {BX : String → SX → State → Prop} {AX : Nat → Prop} (hr : vx_Run p l e R s m args below meth c H locs cells slots mc ms (F0 m pc ls st0) rest (va_Qf post B A1 a) (vx_X px BX AX) free) (hS : va_S A0 H0 H locs) (hA : ∀ q, q < H.size → A1 q → A0 q) (hf : ∀ q, free q → A0 q) (hAX : ∀ q, q < H.size → AX q → A0 q)
    (kx : ∀ (E : String) (ce : Cell) (q9 : Addr) (u : SX) (t : State) (H1 : Heap) (locs1 : List Loc), t.heap = H1 → s.vm.Alike t.vm → px u → BX E u t → H.size ≤ H1.size → (∀ q : Nat, q < H.size → ¬ AX q → H1[q]? = H[q]?) → va_S A0 H0 H1 locs1 → H1[q9]? = some ce → ce.vm = .none → s.vm.findClass E = some ce.cls → vx_W p l e R s m args below meth c H1 locs1 (cells + mc) (slots + ms) Q (F0 m pc ls rest) q9)
    (kk : ∀ (r : UInt32) (u : S) (t : State) (H1 : Heap) (locs1 : List Loc), t.heap = H1 → s.vm.Alike t.vm → post r u → B u t → H.size ≤ H1.size → (∀ q : Nat, q < H.size → ¬ A1 q → H1[q]? = H[q]?) → va_S A0 H0 H1 locs1 → W p l e R s m args below meth c H1 locs1 (cells + mc) (slots + ms) Q (F0 m (pc + 3) ls (.float r :: rest))) : W p l e R s m args below meth c H locs cells slots Q (F0 m pc ls st0) := by
  intro T hT X
  rcases hr T hT X with ⟨v, st₀, t, T', L, h0, X', hL, e1, e2, ⟨⟨r, u, hv, hp, hb⟩, hF⟩, st⟩ | ⟨q, st₀, t, T', L, E, ce, h0, X', hL, e1, e2, ⟨u, hp, hb, hF⟩, hce, hcv, hcl, st⟩
  · cases hv
    obtain ⟨k1, k2, k3⟩ := vx_keep h0 e1 hS hA hf hL hF
    obtain ⟨t2, a1, b1⟩ := kk r u t T'.heap (locs ++ L) e1.symm (by rw [← e2]; exact X'.warmed.alike) hp hb k1 k2 k3 T' rfl X'
    exact ⟨t2, st t2 a1, b1⟩
  · obtain ⟨k1, k2, k3⟩ := vx_keep h0 e1 hS hAX hf hL hF
    obtain ⟨t2, a1, b1⟩ := kx E ce q u t T'.heap (locs ++ L) e1.symm (by rw [← e2]; exact X'.warmed.alike) hp hb k1 k2 k3 (by rw [e1]; exact hce) hcv hcl T' rfl X'
    exact ⟨t2, st.trans a1, b1⟩
theorem vx_calld {S SX : Type} {post : UInt64 → S → Prop} {px : SX → Prop} {B : S → State → Prop} {BX : String → SX → State → Prop} {AX : Nat → Prop} (hr : vx_Run p l e R s m args below meth c H locs cells slots mc ms (F0 m pc ls st0) rest (va_Qd post B A1 a) (vx_X px BX AX) free) (hS : va_S A0 H0 H locs) (hA : ∀ q, q < H.size → A1 q → A0 q) (hf : ∀ q, free q → A0 q) (hAX : ∀ q, q < H.size → AX q → A0 q)
    (kx : ∀ (E : String) (ce : Cell) (q9 : Addr) (u : SX) (t : State) (H1 : Heap) (locs1 : List Loc), t.heap = H1 → s.vm.Alike t.vm → px u → BX E u t → H.size ≤ H1.size → (∀ q : Nat, q < H.size → ¬ AX q → H1[q]? = H[q]?) → va_S A0 H0 H1 locs1 → H1[q9]? = some ce → ce.vm = .none → s.vm.findClass E = some ce.cls → vx_W p l e R s m args below meth c H1 locs1 (cells + mc) (slots + ms) Q (F0 m pc ls rest) q9)
    (kk : ∀ (r : UInt64) (u : S) (t : State) (H1 : Heap) (locs1 : List Loc), t.heap = H1 → s.vm.Alike t.vm → post r u → B u t → H.size ≤ H1.size → (∀ q : Nat, q < H.size → ¬ A1 q → H1[q]? = H[q]?) → va_S A0 H0 H1 locs1 → W p l e R s m args below meth c H1 locs1 (cells + mc) (slots + ms) Q (F0 m (pc + 3) ls (.double r :: rest))) : W p l e R s m args below meth c H locs cells slots Q (F0 m pc ls st0) := by
  intro T hT X
  rcases hr T hT X with ⟨v, st₀, t, T', L, h0, X', hL, e1, e2, ⟨⟨r, u, hv, hp, hb⟩, hF⟩, st⟩ | ⟨q, st₀, t, T', L, E, ce, h0, X', hL, e1, e2, ⟨u, hp, hb, hF⟩, hce, hcv, hcl, st⟩
  · cases hv
    obtain ⟨k1, k2, k3⟩ := vx_keep h0 e1 hS hA hf hL hF
    obtain ⟨t2, a1, b1⟩ := kk r u t T'.heap (locs ++ L) e1.symm (by rw [← e2]; exact X'.warmed.alike) hp hb k1 k2 k3 T' rfl X'
    exact ⟨t2, st t2 a1, b1⟩
  · obtain ⟨k1, k2, k3⟩ := vx_keep h0 e1 hS hAX hf hL hF
    obtain ⟨t2, a1, b1⟩ := kx E ce q u t T'.heap (locs ++ L) e1.symm (by rw [← e2]; exact X'.warmed.alike) hp hb k1 k2 k3 (by rw [e1]; exact hce) hcv hcl T' rfl X'
    exact ⟨t2, st.trans a1, b1⟩
theorem vx_callv {S SX : Type} {post : S → Prop} {px : SX → Prop} {B : S → State → Prop} {BX : String → SX → State → Prop} {AX : Nat → Prop} (hr : vx_Run p l e R s m args below meth c H locs cells slots mc ms (F0 m pc ls st0) rest (va_Qv post B A1 a) (vx_X px BX AX) free) (hS : va_S A0 H0 H locs) (hA : ∀ q, q < H.size → A1 q → A0 q) (hf : ∀ q, free q → A0 q) (hAX : ∀ q, q < H.size → AX q → A0 q)
    (kx : ∀ (E : String) (ce : Cell) (q9 : Addr) (u : SX) (t : State) (H1 : Heap) (locs1 : List Loc), t.heap = H1 → s.vm.Alike t.vm → px u → BX E u t → H.size ≤ H1.size → (∀ q : Nat, q < H.size → ¬ AX q → H1[q]? = H[q]?) → va_S A0 H0 H1 locs1 → H1[q9]? = some ce → ce.vm = .none → s.vm.findClass E = some ce.cls → vx_W p l e R s m args below meth c H1 locs1 (cells + mc) (slots + ms) Q (F0 m pc ls rest) q9)
    (kk : ∀ (u : S) (t : State) (H1 : Heap) (locs1 : List Loc), t.heap = H1 → s.vm.Alike t.vm → post u → B u t → H.size ≤ H1.size → (∀ q : Nat, q < H.size → ¬ A1 q → H1[q]? = H[q]?) → va_S A0 H0 H1 locs1 → W p l e R s m args below meth c H1 locs1 (cells + mc) (slots + ms) Q (F0 m (pc + 3) ls (rest))) : W p l e R s m args below meth c H locs cells slots Q (F0 m pc ls st0) := by
  intro T hT X
  rcases hr T hT X with ⟨v, st₀, t, T', L, h0, X', hL, e1, e2, ⟨⟨u, hv, hp, hb⟩, hF⟩, st⟩ | ⟨q, st₀, t, T', L, E, ce, h0, X', hL, e1, e2, ⟨u, hp, hb, hF⟩, hce, hcv, hcl, st⟩
  · cases hv
    obtain ⟨k1, k2, k3⟩ := vx_keep h0 e1 hS hA hf hL hF
    obtain ⟨t2, a1, b1⟩ := kk u t T'.heap (locs ++ L) e1.symm (by rw [← e2]; exact X'.warmed.alike) hp hb k1 k2 k3 T' rfl X'
    exact ⟨t2, st t2 a1, b1⟩
  · obtain ⟨k1, k2, k3⟩ := vx_keep h0 e1 hS hAX hf hL hF
    obtain ⟨t2, a1, b1⟩ := kx E ce q u t T'.heap (locs ++ L) e1.symm (by rw [← e2]; exact X'.warmed.alike) hp hb k1 k2 k3 (by rw [e1]; exact hce) hcv hcl T' rfl X'
    exact ⟨t2, st.trans a1, b1⟩
/-- caught by the row x of this method's table; the rows ahead don't take it -/
theorem vx_catch {own name : String} {E : String} {ce : Cell} {q : Addr} (hown : s.vm.findClass own = some m.cls) (pre : List ExceptionTableEntry) (x : ExceptionTableEntry) (suf : List ExceptionTableEntry) (hsplit : c.exceptionTable.toList = pre ++ x :: suf)
    (hpass : ∀ z ∈ pre, covers z pc = false ∨ (z.catchType ≠ 0 ∧ ∃ nm : String, (Cond.classLink own z.catchType nm).before args s = true ∧ va_Nc E nm s)) (hx : covers x pc = true) (h0 : x.catchType ≠ 0)
    (hlink : (Cond.classLink own x.catchType name).before args s = true) (hcast : (Cond.castable E name).before args s = true) (hcell : H[q]? = some ce) (hv : ce.vm = .none) (hcl : s.vm.findClass E = some ce.cls)
    (kk : W p l e R s m args below meth c H locs cells slots Q (F0 m x.handlerPc ls [.ref q])) : vx_W p l e R s m args below meth c H locs cells slots Q (F0 m pc ls rest) q := by
  intro T hT X
  have hpl : e.platform.magicAccessors = ({} : Platform).magicAccessors := by rw [X.admits.platform]
  obtain ⟨c3, c4, hc3, hc4, hasg⟩ := Cond.castable_spec hcast
  cases Option.some.inj (hc3.symm.trans hcl)
  obtain ⟨c5, hc5, hcl5⟩ := Cond.classLink_spec hown hlink e.platform hpl
  cases Option.some.inj (hc4.symm.trans hc5)
  obtain ⟨vm', X', st⟩ := X.thenCaughtThrough q (g := F0 m pc ls rest) rfl (Steps.refl _) (by rw [hT]; exact hcell) (by rw [hv]; rfl) (by obtain ⟨k9, h9, -⟩ := Vm.findClass_spec hcl; exact ⟨k9, h9⟩) pre x suf hsplit
    (fun z hz => by
      rcases hpass z hz with h | ⟨hz0, nm, hl1, hn1⟩
      · exact Or.inl h
      · obtain ⟨c6, hc6, hcl6⟩ := Cond.classLink_spec hown hl1 e.platform hpl
        obtain ⟨a8, b8, h1, h2, h3⟩ := hn1
        cases Option.some.inj (h1.symm.trans hcl)
        cases Option.some.inj (h2.symm.trans hc6)
        exact Or.inr ⟨hz0, _, hcl6, h3⟩) hx (Or.inr ⟨h0, c4, hcl5, hasg⟩)
  obtain ⟨t, a1, b1⟩ := kk (T.setVm vm') hT X'
  exact ⟨t, st.trans a1, b1⟩
end Rows
section Ends
variable {p : Program} {l : Launch} {e : Env} {R : Room} {s : State} {m : MethodId} {args : Array Value} {below : List Frame} {meth : Method} {c : Code} {H : Heap} {locs : List Loc} {cells slots : Nat} {Q : State → Prop}
variable {mc ms : Nat} {free : Addr → Prop} {A0 A1 : Nat → Prop} {H0 : Heap} {a : Array Value} {ls : Array Slot} {st0 rest : List Value}
variable {Qc : Array Value → State → Outcome → State → Prop} {XC : String → State → State → Prop}
/-- what a body that may throw owes at its end -/
def vx_MQ (below : List Frame) (Qc : Array Value → State → Outcome → State → Prop) (XC : String → State → State → Prop) (a : Array Value) (s : State) (mc ms : Nat) (free : Addr → Prop) : State → Prop := fun t =>
  ∃ o, t.status = .running ∧ Ended t below o ∧ vx_Q Qc XC mc ms free a s o t
theorem vx_ret {g : JFrame} {mc ms : Nat} (k : W p l e R s m args below meth c H locs cells slots (MQ below Qc args s mc ms free) g) : W p l e R s m args below meth c H locs cells slots (vx_MQ below Qc XC args s mc ms free) g := by
  intro T hT X
  obtain ⟨t, a1, o, b1, b2, b3, b4⟩ := k T hT X
  exact ⟨t, a1, o, b1, b2, Or.inl ⟨b3, b4⟩⟩
/-- not caught here: it goes on to the caller -/
theorem vx_widen {g : JFrame} {q : Addr} {k n : Nat} (h1 : cells ≤ k) (h2 : slots ≤ n) (kk : vx_W p l e R s m args below meth c H locs k n Q g q) : vx_W p l e R s m args below meth c H locs cells slots Q g q := fun T hT X => kk T hT (stand_widen X h1 h2)
theorem vx_out {pc : Nat} {E : String} {ce : Cell} {q : Addr} {mc ms : Nat} (hout : ∀ x ∈ c.exceptionTable.toList, covers x pc = false) (hlocks : meth.locks = false) (hcell : H[q]? = some ce) (hv : ce.vm = .none) (hcl : s.vm.findClass E = some ce.cls)
    (hx : ∀ t : State, t.heap = H → s.vm.Alike t.vm → XC E s t) (hf : ∀ z ∈ locs, free z.base) (hc : cells ≤ mc) (hs : slots ≤ ms) :
    vx_W p l e R s m args below meth c H locs cells slots (vx_MQ below Qc XC args s mc ms free) (F0 m pc ls rest) q := by
  intro T hT X
  obtain ⟨st1, hrun, hend, hW, hsm⟩ := X.leaveThrown q (g := F0 m pc ls rest) rfl rfl rfl hout hlocks
  have hcell9 : (T.setFrames (.throwing q :: below)).heap[q]? = some ce := by
    show T.heap[q]? = some ce
    rw [hT]; exact hcell
  exact ⟨_, st1, .threw q, hrun, hend, Or.inr ⟨q, rfl, E, ce, locs, hx _ hT hW.alike, hcell9, hv, hcl, hW, hsm.mono hc hs, hf⟩⟩
theorem vx_frame {U : State} {k n : Nat} (h : s.sameButNew ({ U with vm := s.vm } : State) locs k n) : s.heap.size ≤ U.heap.size ∧ ∀ q : Nat, q < s.heap.size → (∀ z ∈ locs, z.base ≠ q) → U.heap[q]? = s.heap[q]? := by
  obtain ⟨-, h2, -, -, -, h6⟩ := h
  refine ⟨h2, fun q hq hz => ?_⟩
  obtain ⟨c9, e1, e2, e3, e4⟩ := h6 q _ (Array.getElem?_eq_getElem hq)
  have hs : c9.slots = (s.heap[q]).slots := Array.ext_getElem? fun i => e4 i fun hm => hz _ hm rfl
  have h9 : c9 = s.heap[q] := by
    rw [hs] at e2
    exact e2
  have e5 : U.heap[q]? = some c9 := e1
  rw [e5, h9, Array.getElem?_eq_getElem hq]
/-- the words of a throw but the four that speak of the heap -/
def vx_no (w : Cond) : Bool := decide (w ≠ .isRef (.static Bundle.tN "UNASSIGNED_STACK" Bundle.steD)) && decide (w ≠ .isRef (.static Bundle.tN "SUPPRESSED_SENTINEL" Bundle.listD)) && decide (w ≠ .laysStatic Bundle.tN "UNASSIGNED_STACK" Bundle.steD) && decide (w ≠ .laysStatic Bundle.tN "SUPPRESSED_SENTINEL" Bundle.listD)
def vx_at0 (own : String) (ic : Nat) (X : String) (names : List String) : List Cond := (Bundle.ownAtoms0 own ic X names).filter vx_no
def vx_atS (own : String) (ic : Nat) (X : String) (names : List String) : List Cond := (Bundle.ownAtoms own ic X names).filter vx_no
/-- a word that the tables alone decide, or a good one -/
def vx_ot (w : Cond) : Bool := w.onTables || goodWord w
theorem vx_ot_at {args a' : Array Value} {s U : State} {w : Cond} (hW : s.WarmedH U.vm) (hvm : s.vm = U.vm) (hg : vx_ot w = true) (h : w.before args s = true) : w.before a' U = true := by
  simp only [vx_ot, Bool.or_eq_true] at hg
  rcases hg with hg | hg
  · exact va_tabs hg hvm h
  · exact word_at hW (good_of_word hg) h
/-- a list's words: the good ones out of the method's own list, the others by premises of their own -/
theorem vx_hat {args : Array Value} {s : State} {L B : List Cond} (h1 : ∀ w ∈ L.filter goodWord, w.before args s = true) (h2 : ∀ w ∈ L.filter (fun w => !goodWord w), w ∈ B) (h3 : ∀ w ∈ B, w.before args s = true) : ∀ w ∈ L, w.before args s = true := by
  intro w hw
  by_cases g : goodWord w = true
  · exact h1 w (List.mem_filter.mpr ⟨hw, g⟩)
  · refine h3 w (h2 w (List.mem_filter.mpr ⟨hw, ?_⟩))
    show (!goodWord w) = true
    cases hgw : goodWord w
    · rfl
    · exact absurd hgw g
theorem vx_c {args : Array Value} {s : State} {w : Cond} {B : List Cond} (h : w.before args s = true) (t : ∀ w ∈ B, w.before args s = true) : ∀ w' ∈ w :: B, w'.before args s = true := fun w' h' => (List.mem_cons.mp h').elim (fun e => by rw [e]; exact h) (t w')
theorem vx_n {args : Array Value} {s : State} : ∀ w ∈ ([] : List Cond), w.before args s = true := fun _ h => nomatch h
theorem vx_own {args : Array Value} {s : State} {L : List Cond} (h1 : ∀ w ∈ L.filter vx_no, w.before args s = true)
    (hU : (Cond.isRef (.static Bundle.tN "UNASSIGNED_STACK" Bundle.steD)).before args s = true) (hN : (Cond.isRef (.static Bundle.tN "SUPPRESSED_SENTINEL" Bundle.listD)).before args s = true)
    (lU : (Cond.laysStatic Bundle.tN "UNASSIGNED_STACK" Bundle.steD).before args s = true) (lN : (Cond.laysStatic Bundle.tN "SUPPRESSED_SENTINEL" Bundle.listD).before args s = true) : ∀ w ∈ L, w.before args s = true := by
  intro w hw
  by_cases e1 : w = .isRef (.static Bundle.tN "UNASSIGNED_STACK" Bundle.steD)
  · rw [e1]; exact hU
  · by_cases e2 : w = .isRef (.static Bundle.tN "SUPPRESSED_SENTINEL" Bundle.listD)
    · rw [e2]; exact hN
    · by_cases e3 : w = .laysStatic Bundle.tN "UNASSIGNED_STACK" Bundle.steD
      · rw [e3]; exact lU
      · by_cases e4 : w = .laysStatic Bundle.tN "SUPPRESSED_SENTINEL" Bundle.listD
        · rw [e4]; exact lN
        · exact h1 w (List.mem_filter.mpr ⟨hw, by unfold vx_no; rw [decide_eq_true e1, decide_eq_true e2, decide_eq_true e3, decide_eq_true e4]; rfl⟩)
/-- where a static field lies, its class's statics cell in H -/
def vx_L (C n d : String) (A : Nat → Prop) (U : State) (H : Heap) : Prop := ∃ (c : ClassId) (k : Class) (i : Nat) (f : Field) (a : Nat) (cell : Cell), U.vm.findClass C = some c ∧ U.fieldFound? C n d = some (c, k, i, f) ∧ f.isStatic = true ∧ k.statics = some a ∧ H[a]? = some cell ∧ cell.vm.isStatics = true ∧ cell.cls = c ∧ f.slot < cell.slots.size ∧ k.staticTypes[f.slot]? = some f.type ∧ ¬ A a
theorem vx_L.moved {C n d : String} {A : Nat → Prop} {u U : State} {H : Heap} (hvm : u.vm.Alike U.vm) (h : vx_L C n d A u H) : vx_L C n d A U H := by
  obtain ⟨c, k, i, f, a, cell, h1, h2, h3, h4, h5, h6, h7, h8, h9, h10⟩ := h
  obtain ⟨k', hi', he⟩ := State.fieldFound?_setVm hvm h2
  exact ⟨c, k', i, f, a, cell, by rw [hvm.findClass]; exact h1, hi', h3, by rw [he]; exact h4, h5, h6, h7, h8, by rw [he]; exact h9, h10⟩
theorem vx_L.kept {C n d : String} {A : Nat → Prop} {U : State} {H H1 : Heap} (h : vx_L C n d A U H) (hq : ∀ a : Nat, a < H.size → ¬ A a → H1[a]? = H[a]?) : vx_L C n d A U H1 := by
  obtain ⟨c, k, i, f, a, cell, h1, h2, h3, h4, h5, h6, h7, h8, h9, h10⟩ := h
  exact ⟨c, k, i, f, a, cell, h1, h2, h3, h4, by rw [hq a (Array.getElem?_eq_some_iff.mp h5).1 h10]; exact h5, h6, h7, h8, h9, h10⟩
theorem vx_L.narrow {C n d : String} {A B : Nat → Prop} {U : State} {H : Heap} (h : vx_L C n d A U H) (hAB : ∀ q, B q → A q) : vx_L C n d B U H := by
  obtain ⟨c, k, i, f, a, cell, h1, h2, h3, h4, h5, h6, h7, h8, h9, h10⟩ := h
  exact ⟨c, k, i, f, a, cell, h1, h2, h3, h4, h5, h6, h7, h8, h9, fun z => h10 (hAB _ z)⟩
theorem vx_L.word {C n d : String} {A : Nat → Prop} {s : State} {args : Array Value} (h : vx_L C n d A s s.heap) : (Cond.laysStatic C n d).before args s = true := by
  obtain ⟨c, k, i, f, a, cell, h1, h2, h3, h4, h5, h6, h7, h8, h9, -⟩ := h
  show (Cond.laysStatic C n d).holds args s none s [] = true
  exact Cond.laysStatic_of h1 h2 h3 h4 h5 h6 h7 h8 h9
/-- .. and what it holds: null or some reference -/
def vx_Zq (C n d : String) (A : Nat → Prop) (U : State) (H : Heap) : Prop := va_Zq C n d A U H ∧ vx_L C n d A U H
theorem vx_Zq.moved {C n d : String} {A : Nat → Prop} {u U : State} {H : Heap} (hvm : u.vm.Alike U.vm) (h : vx_Zq C n d A u H) : vx_Zq C n d A U H := ⟨va_Zq.moved hvm h.1, vx_L.moved hvm h.2⟩
theorem vx_Zq.kept {C n d : String} {A : Nat → Prop} {U : State} {H H1 : Heap} (h : vx_Zq C n d A U H) (hq : ∀ a : Nat, a < H.size → ¬ A a → H1[a]? = H[a]?) : vx_Zq C n d A U H1 := ⟨va_Zq.kept h.1 hq, vx_L.kept h.2 hq⟩
theorem vx_Zq.narrow {C n d : String} {A B : Nat → Prop} {U : State} {H : Heap} (h : vx_Zq C n d A U H) (hAB : ∀ q, B q → A q) : vx_Zq C n d B U H := ⟨va_Zq.narrow h.1 hAB, vx_L.narrow h.2 hAB⟩
theorem vx_Zqof {args : Array Value} {s : State} {C n d : String} {A : Nat → Prop} (hl : (Cond.laysStatic C n d).before args s = true) (hini : (Cond.initialized C).before args s = true) (h : (Cond.isRef (.static C n d)).before args s = true) (hA : ∀ a : Nat, a < s.heap.size → ¬ A a) : vx_Zq C n d A s s.heap := by
  refine ⟨va_Zqof hl hini h hA, ?_⟩
  obtain ⟨c, k, i, f, a, cell, h1, h2, h3, h4, h5, h6, h7, h8, h9⟩ := Cond.laysStatic_spec hl
  exact ⟨c, k, i, f, a, cell, h1, h2, h3, h4, h5, h6, h7, h8, h9, hA a (Array.getElem?_eq_some_iff.mp h5).1⟩
theorem vx_isRef {C n d : String} {v : Value} {A : Nat → Prop} {s : State} {args : Array Value} (h : va_Z C n d v A s s.heap) (hv : v.isRef = true) : (Cond.isRef (.static C n d)).before args s = true := by
  obtain ⟨cf, kf, fi, f, a, cell, h1, h2, h3, h4, h5, h6, h7, -⟩ := h
  have he : (Term.static C n d).eval args s none [] s = some v := by
    simp [Term.eval, State.fieldNamed?, h1, h2, h4, h5, h6, h7]
  simp only [Cond.before, Cond.holds, Cond.value, he]
  cases v <;> simp_all [Value.isRef]
theorem vx_isRefq {C n d : String} {A : Nat → Prop} {s : State} {args : Array Value} (h : va_Zq C n d A s s.heap) : (Cond.isRef (.static C n d)).before args s = true := by
  rcases h with h | ⟨t, h⟩
  · exact vx_isRef h rfl
  · exact vx_isRef h rfl
/-- the same frame, seen from here: as if the method were called anew in this heap -/
theorem vx_rebase {T : State} (X : Stand p l e R s m args below meth c T locs cells slots) {R' : Room} (hf : R'.frames ≤ R.frames) (hl : R'.locals ≤ R.locals) (hc : cells + R'.cells ≤ R.cells) (hs : slots + R'.slots ≤ R.slots) :
    Stand p l e R' ((T.setVm s.vm).setFrames (.invoking m args :: below)) m args below meth c T [] 0 0 := by
  have htop : (T.setVm s.vm).topJava?.isSome := X.here.top
  have hF : ((T.setVm s.vm).setFrames (.invoking m args :: below)).frames = .invoking m args :: below := State.frames_setFrames _ (State.cur_lt_of_top htop)
  obtain ⟨g₀, hg0⟩ := Option.isSome_iff_exists.mp htop
  obtain ⟨r, hr⟩ := State.topJava?_eq_some.mp hg0
  have hl9 : e.platform.stackLimits (T.setVm s.vm).me = e.platform.stackLimits s.me := X.limits
  have hb9 : (T.setVm s.vm).me.stackBytes = s.me.stackBytes := X.bytes
  refine ⟨X.admits, X.cas, X.clock, hF, ?_, X.hears, X.method, X.code, X.here, X.tail, X.warmed, ?_, ?_, ?_⟩
  · have h := X.room
    have hU : ((T.setVm s.vm).setFrames (.invoking m args :: below)).localsInUse = s.localsInUse := by
      rw [State.localsInUse_invoking hF (meth := meth) (c := c) X.method X.code, State.localsInUse_invoking X.frames X.method X.code]
    simp only [State.hasRoom, Bool.and_eq_true, decide_eq_true_eq] at h ⊢
    obtain ⟨⟨⟨⟨h1, h2, h3, h4, h5, h6⟩, h7⟩, h8⟩, h9⟩ := h
    rw [X.frames, List.length_cons] at h2 h3
    have q1 := X.heapSize
    have q2 := X.used
    simp only [hF, hU, List.length_cons, State.stackLimits_setFrames, State.stackBytes_setFrames, hl9, hb9]
    refine ⟨⟨⟨⟨by omega, by omega, by omega, by omega, by omega, h6⟩, ?_⟩, ?_⟩, X.book⟩
    · show T.heap.size + R'.cells ≤ e.platform.maxCells
      omega
    · show T.slotsUsed + R'.slots ≤ e.platform.maxSlots
      omega
  · rw [State.stackLimits_setFrames]; rfl
  · rw [State.stackBytes_setFrames]; rfl
  · refine ⟨?_, Nat.le_refl _, Nat.le_refl _, ?_, ?_, fun a c9 h9 => ⟨c9, h9, rfl, rfl, fun _ _ => rfl⟩⟩
    · obtain ⟨t, ht, -⟩ := State.frames_cons hr
      show T.setVm s.vm = { ((T.setVm s.vm).setFrames (.invoking m args :: below)).setFrames (T.setVm s.vm).frames with heap := T.heap, slotsUsed := T.slotsUsed }
      rw [State.setFrames_setFrames, State.setFrames_self ht]
      rfl
    · show T.slotsUsed = T.slotsUsed + ((T.heap.toList.drop T.heap.size).map (·.slots.size)).sum
      rw [List.drop_eq_nil_of_le (Nat.le_of_eq Array.length_toList)]
      rfl
    · show ((T.heap.toList.drop T.heap.size).map (·.slots.size)).sum ≤ 0
      rw [List.drop_eq_nil_of_le (Nat.le_of_eq Array.length_toList)]
      exact Nat.le_refl _
/-- 'throw new E()': new; dup; invokespecial; athrow -/
theorem vx_throw0 {cc : ByteArray} {pc : Nat} (hexec : p.tables.exec = Jvm.exec) (hb : c.code = cc) (hl : l.stackTraces = false) {own cls : String} {names : List String} {ik ic mc ms : Nat} {A : Nat → Prop}
    (hown : s.vm.findClass own = some m.cls) (hcls : Bundle.fit cls = true) (hnames : ∀ n ∈ names, Bundle.fit n = true)
    (hk : (Cond.classLink own ik cls).before args s = true) (hini : (Cond.initialized cls).before args s = true) (hat : ∀ w ∈ vx_at0 own ic cls names, w.before args s = true)
    (hgood : ∀ w ∈ Cond.classLink own ik cls :: Cond.initialized cls :: vx_at0 own ic cls names, vx_ot w = true)
    (hU : vx_Zq Bundle.tN "UNASSIGNED_STACK" Bundle.steD A s s.heap) (hN : vx_Zq Bundle.tN "SUPPRESSED_SENTINEL" Bundle.listD A s s.heap) (hS : va_S A s.heap H locs) (hsize : ls.size = c.maxLocals)
    (d0 : decode cc pc = .ok (.new ik, 3)) (d3 : decode cc (pc + 3) = .ok (.dup, 1)) (d4 : decode cc (pc + 4) = .ok (.invokespecial ic, 3)) (d7 : decode cc (pc + 7) = .ok (.athrow, 1))
    (hout : ∀ x ∈ c.exceptionTable.toList, covers x (pc + 7) = false)
    (hRframes : names.length + 3 < R.frames) (hRlocals : (rest.map fun v => v.category).sum + (13 * (names.length + 1) + 42) ≤ R.locals) (hRcells : cells + 1 ≤ R.cells) (hRslots : slots + 6 ≤ R.slots) (hlocks : meth.locks = false)
    (hx : ∀ t : State, s.vm.Alike t.vm → H.size ≤ t.heap.size → (∀ q : Nat, q < H.size → t.heap[q]? = H[q]?) → XC cls s t)
    (hf : ∀ z ∈ locs, free z.base) (hc : cells + 1 ≤ mc) (hs : slots + 6 ≤ ms) :
    W p l e R s m args below meth c H locs cells slots (vx_MQ below Qc XC args s mc ms free) (F0 m pc ls rest) := by
  intro T hT X
  have htr : e.platform.stackTraces = false := (show e.platform.stackTraces = l.stackTraces by rw [X.admits.platform]).trans hl
  have Y := vx_rebase X (R' := { frames := R.frames, locals := R.locals, cells := 1, slots := 6 }) (Nat.le_refl _) (Nat.le_refl _) hRcells hRslots
  obtain ⟨s', hA⟩ : ∃ z, z = (T.setVm s.vm).setFrames (.invoking m args :: below) := ⟨_, rfl⟩
  rw [← hA] at Y
  have hvm : s'.vm = s.vm := by rw [hA]; rfl
  have hhp : s'.heap = H := by rw [hA]; exact hT
  have hW0 : s.WarmedH s'.vm := by rw [hvm]; exact State.WarmedH.refl s
  have hat' : ∀ w ∈ vx_at0 own ic cls names, w.before args s' = true := fun w hw => vx_ot_at hW0 hvm.symm (hgood w (List.mem_cons_of_mem _ (List.mem_cons_of_mem _ hw))) (hat w hw)
  have hk' : (Cond.classLink own ik cls).before args s' = true := vx_ot_at hW0 hvm.symm (hgood _ List.mem_cons_self) hk
  have hini' : (Cond.initialized cls).before args s' = true := vx_ot_at hW0 hvm.symm (hgood _ (List.mem_cons_of_mem _ List.mem_cons_self)) hini
  have hU' : vx_Zq Bundle.tN "UNASSIGNED_STACK" Bundle.steD A s' s'.heap := by rw [hhp]; exact vx_Zq.moved hW0.alike (hU.kept hS.2.1)
  have hN' : vx_Zq Bundle.tN "SUPPRESSED_SENTINEL" Bundle.listD A s' s'.heap := by rw [hhp]; exact vx_Zq.moved hW0.alike (hN.kept hS.2.1)
  have h : ∀ w ∈ Bundle.ownAtoms0 own ic cls names, w.before args s' = true := vx_own hat' (vx_isRefq hU'.1) (vx_isRefq hN'.1) hU'.2.word hN'.2.word
  have hown' : s'.vm.findClass own = some m.cls := by rw [hvm]; exact hown
  have hins : (Cond.instantiable cls 6).before args s' = true := h _ (by simp [Bundle.ownAtoms0])
  obtain ⟨vm₁, cX, kX, hfX, hkX, -, -, X₁, st1⟩ := Y.newCold hexec (own := own) (C := cls) (index := ik) (n := 6) hown' hk' hins hini'
    (g := F0 m pc ls rest) rfl (by rw [hb]; exact d0) (Nat.le_refl _) (Nat.le_refl _)
  generalize hT1 : (T.setVm vm₁).pushCell { cls := cX, slots := kX.instanceTypes.map defaultValue, vm := .none } = T1 at X₁ st1
  have hcat : (Value.ref T.heap.size).category = 1 := rfl
  have hcellA : T1.heap[T.heap.size]? = some (freshCell cX kX) := by rw [← hT1]; exact State.heap_pushCell_size _ _
  have d3' : decode c.code (pc + 3) = .ok (.dup, 1) := by rw [hb]; exact d3
  obtain ⟨U, hsteps, hrun, hend, hW, hsame, ce, hce, hO⟩ := X₁.ctorThrow0 hexec htr (own := own) (cls := cls) (names := names) (ic := ic) hown' hcls hnames h (fun x hx => nomatch hx) hfX hkX hcellA (by rw [hhp, hT]; exact Nat.le_refl _)
    (g := { method := m, pc := pc + 4, locals := ls, stack := .ref T.heap.size :: .ref T.heap.size :: rest, locked := none }) rfl hsize rfl rfl (rest := rest) rfl
    (by rw [hb]; exact d4) (by rw [hb]; exact d7) hout hRframes (by simp only [List.map_cons, List.sum_cons, hcat]; omega) hlocks
  obtain ⟨f1, f2⟩ := vx_frame hsame
  rw [hhp] at f1 f2
  have hWs : s.WarmedH U.vm := State.WarmedH.trans hW0 hW
  have hcl : s.vm.findClass cls = some ce.cls := by
    have h9 := hO.cls
    rw [hvm] at h9
    exact h9
  have hall : s.sameButNew ({ U with vm := s.vm } : State) locs mc ms := by
    subst hA
    obtain ⟨e1, e2⟩ := hsame
    rw [State.setFrames_setFrames] at e1
    have h2 : (T.setVm s.vm).sameButNew ({ U with vm := s.vm } : State) [] (0 + 1) (0 + 6) := ⟨e1, e2⟩
    have h3 := X.same.trans h2
    rw [List.append_nil] at h3
    exact h3.mono hc hs
  refine ⟨U, ?_, .threw T.heap.size, hrun, hend, Or.inr ⟨T.heap.size, rfl, cls, ce, locs, hx U hWs.alike f1 (fun q hq => f2 q hq (fun z hz => nomatch hz)), hce, hO.vm, hcl, hWs, hall, hf⟩⟩
  refine st1 _ ?_
  show Steps p.tables e below (T1.setTop { method := m, pc := pc + 3, locals := ls, stack := .ref T.heap.size :: rest, locked := none }) _
  jvm_step X₁.here [X₁.here.top, hexec, d3', Value.category]
  exact hsteps
/-- 'throw new E("text")': new; dup; ldc; invokespecial; athrow -/
theorem vx_throwS {cc : ByteArray} {pc : Nat} (hexec : p.tables.exec = Jvm.exec) (hb : c.code = cc) (hl : l.stackTraces = false) {own cls text : String} {names : List String} {ik is ic mc ms sa : Nat} {A : Nat → Prop}
    (hown : s.vm.findClass own = some m.cls) (hcls : Bundle.fit cls = true) (hnames : ∀ n ∈ names, Bundle.fit n = true)
    (hk : (Cond.classLink own ik cls).before args s = true) (hini : (Cond.initialized cls).before args s = true) (hstr : vk_R own is text sa s) (hat : ∀ w ∈ vx_atS own ic cls names, w.before args s = true)
    (hgood : ∀ w ∈ Cond.classLink own ik cls :: Cond.initialized cls :: vx_atS own ic cls names, vx_ot w = true)
    (hU : vx_Zq Bundle.tN "UNASSIGNED_STACK" Bundle.steD A s s.heap) (hN : vx_Zq Bundle.tN "SUPPRESSED_SENTINEL" Bundle.listD A s s.heap) (hS : va_S A s.heap H locs) (hsize : ls.size = c.maxLocals)
    (d0 : decode cc pc = .ok (.new ik, 3)) (d3 : decode cc (pc + 3) = .ok (.dup, 1)) (d4 : decode cc (pc + 4) = .ok (.ldc is, 2)) (d6 : decode cc (pc + 6) = .ok (.invokespecial ic, 3)) (d9 : decode cc (pc + 9) = .ok (.athrow, 1))
    (hout : ∀ x ∈ c.exceptionTable.toList, covers x (pc + 9) = false)
    (hRframes : names.length + 3 < R.frames) (hRlocals : (rest.map fun v => v.category).sum + (13 * (names.length + 1) + 43) ≤ R.locals) (hRcells : cells + 1 ≤ R.cells) (hRslots : slots + 6 ≤ R.slots) (hlocks : meth.locks = false)
    (hx : ∀ t : State, s.vm.Alike t.vm → H.size ≤ t.heap.size → (∀ q : Nat, q < H.size → t.heap[q]? = H[q]?) → XC cls s t)
    (hf : ∀ z ∈ locs, free z.base) (hc : cells + 1 ≤ mc) (hs : slots + 6 ≤ ms) :
    W p l e R s m args below meth c H locs cells slots (vx_MQ below Qc XC args s mc ms free) (F0 m pc ls rest) := by
  intro T hT X
  have htr : e.platform.stackTraces = false := (show e.platform.stackTraces = l.stackTraces by rw [X.admits.platform]).trans hl
  have Y := vx_rebase X (R' := { frames := R.frames, locals := R.locals, cells := 1, slots := 6 }) (Nat.le_refl _) (Nat.le_refl _) hRcells hRslots
  obtain ⟨s', hA⟩ : ∃ z, z = (T.setVm s.vm).setFrames (.invoking m args :: below) := ⟨_, rfl⟩
  rw [← hA] at Y
  have hvm : s'.vm = s.vm := by rw [hA]; rfl
  have hhp : s'.heap = H := by rw [hA]; exact hT
  have hW0 : s.WarmedH s'.vm := by rw [hvm]; exact State.WarmedH.refl s
  have hat' : ∀ w ∈ vx_atS own ic cls names, w.before args s' = true := fun w hw => vx_ot_at hW0 hvm.symm (hgood w (List.mem_cons_of_mem _ (List.mem_cons_of_mem _ hw))) (hat w hw)
  have hk' : (Cond.classLink own ik cls).before args s' = true := vx_ot_at hW0 hvm.symm (hgood _ List.mem_cons_self) hk
  have hini' : (Cond.initialized cls).before args s' = true := vx_ot_at hW0 hvm.symm (hgood _ (List.mem_cons_of_mem _ List.mem_cons_self)) hini
  have hU' : vx_Zq Bundle.tN "UNASSIGNED_STACK" Bundle.steD A s' s'.heap := by rw [hhp]; exact vx_Zq.moved hW0.alike (hU.kept hS.2.1)
  have hN' : vx_Zq Bundle.tN "SUPPRESSED_SENTINEL" Bundle.listD A s' s'.heap := by rw [hhp]; exact vx_Zq.moved hW0.alike (hN.kept hS.2.1)
  have h : ∀ w ∈ Bundle.ownAtoms own ic cls names, w.before args s' = true := vx_own hat' (vx_isRefq hU'.1) (vx_isRefq hN'.1) hU'.2.word hN'.2.word
  have hown' : s'.vm.findClass own = some m.cls := by rw [hvm]; exact hown
  have hins : (Cond.instantiable cls 6).before args s' = true := h _ (by simp [Bundle.ownAtoms])
  obtain ⟨vm₁, cX, kX, hfX, hkX, -, -, X₁, st1⟩ := Y.newCold hexec (own := own) (C := cls) (index := ik) (n := 6) hown' hk' hins hini'
    (g := F0 m pc ls rest) rfl (by rw [hb]; exact d0) (Nat.le_refl _) (Nat.le_refl _)
  generalize hT1 : (T.setVm vm₁).pushCell { cls := cX, slots := kX.instanceTypes.map defaultValue, vm := .none } = T1 at X₁ st1
  have hcat : (Value.ref T.heap.size).category = 1 := rfl
  have hcellA : T1.heap[T.heap.size]? = some (freshCell cX kX) := by rw [← hT1]; exact State.heap_pushCell_size _ _
  have d3' : decode c.code (pc + 3) = .ok (.dup, 1) := by rw [hb]; exact d3
  have d4' : decode c.code (pc + 4) = .ok (.ldc is, 2) := by rw [hb]; exact d4
  have hstr' : vk_R own is text sa s' := vk_R.warm hW0 hstr
  obtain ⟨U, hsteps, hrun, hend, hW, hsame, ce, hce, hO⟩ := X₁.ctorThrowS hexec htr (own := own) (cls := cls) (names := names) (ic := ic) hown' hcls hnames h (fun x hx => nomatch hx) hfX hkX hcellA (by rw [hhp, hT]; exact Nat.le_refl _) (msg := .ref sa) rfl
    (g := { method := m, pc := pc + 6, locals := ls, stack := .ref sa :: .ref T.heap.size :: .ref T.heap.size :: rest, locked := none }) rfl hsize rfl rfl (rest := rest) rfl
    (by rw [hb]; exact d6) (by rw [hb]; exact d9) hout hRframes (by simp only [List.map_cons, List.sum_cons, hcat]; omega) hlocks
  obtain ⟨f1, f2⟩ := vx_frame hsame
  rw [hhp] at f1 f2
  have hWs : s.WarmedH U.vm := State.WarmedH.trans hW0 hW
  have hcl : s.vm.findClass cls = some ce.cls := by
    have h9 := hO.cls
    rw [hvm] at h9
    exact h9
  have hall : s.sameButNew ({ U with vm := s.vm } : State) locs mc ms := by
    subst hA
    obtain ⟨e1, e2⟩ := hsame
    rw [State.setFrames_setFrames] at e1
    have h2 : (T.setVm s.vm).sameButNew ({ U with vm := s.vm } : State) [] (0 + 1) (0 + 6) := ⟨e1, e2⟩
    have h3 := X.same.trans h2
    rw [List.append_nil] at h3
    exact h3.mono hc hs
  refine ⟨U, ?_, .threw T.heap.size, hrun, hend, Or.inr ⟨T.heap.size, rfl, cls, ce, locs, hx U hWs.alike f1 (fun q hq => f2 q hq (fun z hz => nomatch hz)), hce, hO.vm, hcl, hWs, hall, hf⟩⟩
  refine st1 _ ?_
  show Steps p.tables e below (T1.setTop { method := m, pc := pc + 3, locals := ls, stack := .ref T.heap.size :: rest, locked := none }) _
  jvm_step X₁.here [X₁.here.top, hexec, d3', Value.category]
  exact X₁.ldcString hexec (own := own) (text := text) (index := is) (a := sa) hown' hstr'.1 hstr'.2
    (g := { method := m, pc := pc + 4, locals := ls, stack := .ref T.heap.size :: .ref T.heap.size :: rest, locked := none }) rfl d4' _ hsteps
/-- 'throw new E("text")', the text by a wide index -/
theorem vx_throwSW {cc : ByteArray} {pc : Nat} (hexec : p.tables.exec = Jvm.exec) (hb : c.code = cc) (hl : l.stackTraces = false) {own cls text : String} {names : List String} {ik is ic mc ms sa : Nat} {A : Nat → Prop}
    (hown : s.vm.findClass own = some m.cls) (hcls : Bundle.fit cls = true) (hnames : ∀ n ∈ names, Bundle.fit n = true)
    (hk : (Cond.classLink own ik cls).before args s = true) (hini : (Cond.initialized cls).before args s = true) (hstr : vk_R own is text sa s) (hat : ∀ w ∈ vx_atS own ic cls names, w.before args s = true)
    (hgood : ∀ w ∈ Cond.classLink own ik cls :: Cond.initialized cls :: vx_atS own ic cls names, vx_ot w = true)
    (hU : vx_Zq Bundle.tN "UNASSIGNED_STACK" Bundle.steD A s s.heap) (hN : vx_Zq Bundle.tN "SUPPRESSED_SENTINEL" Bundle.listD A s s.heap) (hS : va_S A s.heap H locs) (hsize : ls.size = c.maxLocals)
    (d0 : decode cc pc = .ok (.new ik, 3)) (d3 : decode cc (pc + 3) = .ok (.dup, 1)) (d4 : decode cc (pc + 4) = .ok (.ldc_w is, 3)) (d7 : decode cc (pc + 7) = .ok (.invokespecial ic, 3)) (d10 : decode cc (pc + 10) = .ok (.athrow, 1))
    (hout : ∀ x ∈ c.exceptionTable.toList, covers x (pc + 10) = false)
    (hRframes : names.length + 3 < R.frames) (hRlocals : (rest.map fun v => v.category).sum + (13 * (names.length + 1) + 43) ≤ R.locals) (hRcells : cells + 1 ≤ R.cells) (hRslots : slots + 6 ≤ R.slots) (hlocks : meth.locks = false)
    (hx : ∀ t : State, s.vm.Alike t.vm → H.size ≤ t.heap.size → (∀ q : Nat, q < H.size → t.heap[q]? = H[q]?) → XC cls s t)
    (hf : ∀ z ∈ locs, free z.base) (hc : cells + 1 ≤ mc) (hs : slots + 6 ≤ ms) :
    W p l e R s m args below meth c H locs cells slots (vx_MQ below Qc XC args s mc ms free) (F0 m pc ls rest) := by
  intro T hT X
  have htr : e.platform.stackTraces = false := (show e.platform.stackTraces = l.stackTraces by rw [X.admits.platform]).trans hl
  have Y := vx_rebase X (R' := { frames := R.frames, locals := R.locals, cells := 1, slots := 6 }) (Nat.le_refl _) (Nat.le_refl _) hRcells hRslots
  obtain ⟨s', hA⟩ : ∃ z, z = (T.setVm s.vm).setFrames (.invoking m args :: below) := ⟨_, rfl⟩
  rw [← hA] at Y
  have hvm : s'.vm = s.vm := by rw [hA]; rfl
  have hhp : s'.heap = H := by rw [hA]; exact hT
  have hW0 : s.WarmedH s'.vm := by rw [hvm]; exact State.WarmedH.refl s
  have hat' : ∀ w ∈ vx_atS own ic cls names, w.before args s' = true := fun w hw => vx_ot_at hW0 hvm.symm (hgood w (List.mem_cons_of_mem _ (List.mem_cons_of_mem _ hw))) (hat w hw)
  have hk' : (Cond.classLink own ik cls).before args s' = true := vx_ot_at hW0 hvm.symm (hgood _ List.mem_cons_self) hk
  have hini' : (Cond.initialized cls).before args s' = true := vx_ot_at hW0 hvm.symm (hgood _ (List.mem_cons_of_mem _ List.mem_cons_self)) hini
  have hU' : vx_Zq Bundle.tN "UNASSIGNED_STACK" Bundle.steD A s' s'.heap := by rw [hhp]; exact vx_Zq.moved hW0.alike (hU.kept hS.2.1)
  have hN' : vx_Zq Bundle.tN "SUPPRESSED_SENTINEL" Bundle.listD A s' s'.heap := by rw [hhp]; exact vx_Zq.moved hW0.alike (hN.kept hS.2.1)
  have h : ∀ w ∈ Bundle.ownAtoms own ic cls names, w.before args s' = true := vx_own hat' (vx_isRefq hU'.1) (vx_isRefq hN'.1) hU'.2.word hN'.2.word
  have hown' : s'.vm.findClass own = some m.cls := by rw [hvm]; exact hown
  have hins : (Cond.instantiable cls 6).before args s' = true := h _ (by simp [Bundle.ownAtoms])
  obtain ⟨vm₁, cX, kX, hfX, hkX, -, -, X₁, st1⟩ := Y.newCold hexec (own := own) (C := cls) (index := ik) (n := 6) hown' hk' hins hini'
    (g := F0 m pc ls rest) rfl (by rw [hb]; exact d0) (Nat.le_refl _) (Nat.le_refl _)
  generalize hT1 : (T.setVm vm₁).pushCell { cls := cX, slots := kX.instanceTypes.map defaultValue, vm := .none } = T1 at X₁ st1
  have hcat : (Value.ref T.heap.size).category = 1 := rfl
  have hcellA : T1.heap[T.heap.size]? = some (freshCell cX kX) := by rw [← hT1]; exact State.heap_pushCell_size _ _
  have d3' : decode c.code (pc + 3) = .ok (.dup, 1) := by rw [hb]; exact d3
  have d4' : decode c.code (pc + 4) = .ok (.ldc_w is, 3) := by rw [hb]; exact d4
  have hstr' : vk_R own is text sa s' := vk_R.warm hW0 hstr
  obtain ⟨U, hsteps, hrun, hend, hW, hsame, ce, hce, hO⟩ := X₁.ctorThrowS hexec htr (own := own) (cls := cls) (names := names) (ic := ic) hown' hcls hnames h (fun x hx => nomatch hx) hfX hkX hcellA (by rw [hhp, hT]; exact Nat.le_refl _) (msg := .ref sa) rfl
    (g := { method := m, pc := pc + 7, locals := ls, stack := .ref sa :: .ref T.heap.size :: .ref T.heap.size :: rest, locked := none }) rfl hsize rfl rfl (rest := rest) rfl
    (by rw [hb]; exact d7) (by rw [hb]; exact d10) hout hRframes (by simp only [List.map_cons, List.sum_cons, hcat]; omega) hlocks
  obtain ⟨f1, f2⟩ := vx_frame hsame
  rw [hhp] at f1 f2
  have hWs : s.WarmedH U.vm := State.WarmedH.trans hW0 hW
  have hcl : s.vm.findClass cls = some ce.cls := by
    have h9 := hO.cls
    rw [hvm] at h9
    exact h9
  have hall : s.sameButNew ({ U with vm := s.vm } : State) locs mc ms := by
    subst hA
    obtain ⟨e1, e2⟩ := hsame
    rw [State.setFrames_setFrames] at e1
    have h2 : (T.setVm s.vm).sameButNew ({ U with vm := s.vm } : State) [] (0 + 1) (0 + 6) := ⟨e1, e2⟩
    have h3 := X.same.trans h2
    rw [List.append_nil] at h3
    exact h3.mono hc hs
  refine ⟨U, ?_, .threw T.heap.size, hrun, hend, Or.inr ⟨T.heap.size, rfl, cls, ce, locs, hx U hWs.alike f1 (fun q hq => f2 q hq (fun z hz => nomatch hz)), hce, hO.vm, hcl, hWs, hall, hf⟩⟩
  refine st1 _ ?_
  show Steps p.tables e below (T1.setTop { method := m, pc := pc + 3, locals := ls, stack := .ref T.heap.size :: rest, locked := none }) _
  jvm_step X₁.here [X₁.here.top, hexec, d3', Value.category]
  exact X₁.ldcStringW hexec (own := own) (text := text) (index := is) (a := sa) hown' hstr'.1 hstr'.2
    (g := { method := m, pc := pc + 4, locals := ls, stack := .ref T.heap.size :: .ref T.heap.size :: rest, locked := none }) rfl d4' _ hsteps
end Ends
section Bodies
variable {l : Launch}
theorem vx_ofW {y : MethodName} {ws ws' : List Cond} {rm : Room} {Pc : Array Value → State → Prop} {Qc : Array Value → State → Outcome → State → Prop} {XC : String → State → State → Prop} {mc ms : Nat} {free : Addr → Prop} {cc : ByteArray} {maxL : Nat} {ret : Option FieldType}
    (hy : plainName y.cls = true) (hw : ws = Cond.code y cc maxL ret :: ws')
    (body : ∀ p e s m args below meth c s₁, BodyLoose p l y (headSpec ws rm) cc maxL ret e s m args below meth c s₁ → c.maxLocals = maxL → (∀ x ∈ c.exceptionTable.toList, False) → Pc args s →
      W p l e (headSpec ws rm).room s m args below meth c s.heap [] 0 0 (vx_MQ below Qc XC args s mc ms free) (entryFrame m args maxL)) : vx_Met l y ws rm Pc Qc XC mc ms free := by
  refine MetFree.of_bodyS (code := cc) (maxLocals := maxL) (ret := ret) hy ?_ ?_
  · intro args s m h hn
    obtain ⟨meth, c, h1, h2, h3, h4, h5, h6, -, -⟩ := Cond.code_spec hn (atoms_spec (ws := ws) h _ (by rw [hw]; exact List.mem_cons_self))
    exact ⟨meth, c, h1, h2, h3, h4, h5, h6⟩
  · intro p e s m args below meth c s₁ B hml hP _
    have hh0 : s₁.heap = s.heap := by rw [B.state]; rfl
    have ht : ∀ x ∈ c.exceptionTable.toList, False := by
      obtain ⟨meth9, c9, h1, h2, -, -, -, -, h7, -⟩ := Cond.code_spec B.named (atoms_spec (ws := ws) B.pre _ (by rw [hw]; exact List.mem_cons_self))
      cases Option.some.inj (h1.symm.trans B.method)
      cases Option.some.inj (h2.symm.trans (Stand.of_body B).code)
      intro x hx
      rw [Array.isEmpty_iff.mp h7] at hx
      cases hx
    obtain ⟨t, a1, o, b1, b2, b3⟩ := body p e s m args below meth c s₁ B hml ht hP s₁ hh0 (Stand.of_body B)
    exact ⟨t, o, a1, b1, b2, b3⟩
/-- the table of a body with handlers -/
theorem vx_table {p : Program} {x y : MethodName} {S : Spec} {cc bytes : ByteArray} {maxL maxL' : Nat} {ret ret' : Option FieldType} {e : Env} {s s₁ : State} {m : MethodId} {args : Array Value} {below : List Frame} {meth : Method} {c : Code} {hh : List (Nat × Nat × Nat × Nat)}
    (B : BodyLoose p l y S cc maxL ret e s m args below meth c s₁) (h : (Cond.codeWith y bytes maxL' ret' hh).before args s = true) : c.exceptionTable.toList = tableOf hh := by
  obtain ⟨m9, meth9, c9, hn9, h1, h2, -, -, h6, -⟩ := Cond.codeWith_spec h
  cases Option.some.inj (hn9.symm.trans B.named)
  cases Option.some.inj (h1.symm.trans B.method)
  cases Option.some.inj (h2.symm.trans (Stand.of_body B).code)
  rw [← h6, table_eq]
end Bodies
end VXA
/-! ===== END ===== -/
/-! ===== BEGIN a static call of a method with an exception table ===== -/
section VXS
variable {p : Program} {l : Launch} {e : Env} {R : Room} {s : State} {m : MethodId} {args : Array Value} {below : List Frame} {meth : Method} {c : Code} {T : State} {H : Heap} {locs : List Loc} {cells slots : Nat}
abbrev vx_CSW (R : Room) (s : State) (args : Array Value) (own : String) (index : Nat) (y : MethodName) (bytes : ByteArray) (maxL : Nat) (ret : Option FieldType) (hh : List (Nat × Nat × Nat × Nat)) (ws : List Cond) (rm : Room) (mc ms n : Nat) : Prop :=
  (rm.cells = mc ∧ rm.slots = ms ∧ rm.frames + 1 ≤ R.frames ∧ 8 + (maxL + 11) + rm.locals ≤ R.locals ∧ (∀ w ∈ ws, ∀ (a' : Array Value) (U : State), s.WarmedH U.vm → w.before a' U = true) ∧ Cond.codeWith y bytes maxL ret hh ∈ ws) ∧
  (Cond.codeWith y bytes maxL ret hh).before args s = true ∧ (Cond.initialized y.cls).before args s = true ∧ (y.cls ≠ "java/lang/invoke/MethodHandle" ∧ y.cls ≠ "java/lang/invoke/VarHandle") ∧
  (∀ sig, parseMethodDescriptor y.desc = some sig → n = sig.parameters.length) ∧ (Cond.methodLink own index y).before args s = true ∧ (Cond.static y).before args s = true
theorem vx_cwSW {own : String} {index maxL mc ms : Nat} {y : MethodName} {bytes : ByteArray} {ret : Option FieldType} {hh : List (Nat × Nat × Nat × Nat)} {Ts ws ws' : List Cond} {rm : Room} (n : Nat) (ht : ∀ w ∈ Ts, w.before args s = true) (hT : GoodIn Ts (va_wsS own index y ws)) (hw : ws = Cond.codeWith y bytes maxL ret hh :: ws') (hrc : rm.cells = mc) (hrs : rm.slots = ms)
    (hd : y.cls ≠ "java/lang/invoke/MethodHandle" ∧ y.cls ≠ "java/lang/invoke/VarHandle" ∧ (parseMethodDescriptor y.desc).map (fun d => d.parameters.length) = some n) (hR : rm.frames + 1 ≤ R.frames ∧ 8 + (maxL + 11) + rm.locals ≤ R.locals) :
    vx_CSW R s args own index y bytes maxL ret hh ws rm mc ms n := by
  have ok : ∀ w ∈ va_wsS own index y ws, w.before args s = true := fun w h => ht w (hT w h).1
  have hG : GoodIn Ts ws := fun w h => hT w (by unfold va_wsS; exact List.mem_append_right _ h)
  have hc : Cond.codeWith y bytes maxL ret hh ∈ ws := by rw [hw]; exact List.mem_cons_self
  refine ⟨⟨hrc, hrs, hR.1, hR.2, pay_in ht hG, hc⟩, ht _ (hG _ hc).1, ok _ (by simp [va_wsS]), ⟨hd.1, hd.2.1⟩, fun sig h => ?_, ok _ (by simp [va_wsS]), ok _ (by simp [va_wsS])⟩
  have h2 := hd.2.2
  rw [h] at h2
  exact (Option.some.inj h2).symm
theorem vx_callSW (X : Stand p l e R s m args below meth c T locs cells slots) (hexec : p.tables.exec = Jvm.exec) {own : String} {index : Nat} {y : MethodName} {bytes : ByteArray} {maxL : Nat} {ret : Option FieldType} {hh : List (Nat × Nat × Nat × Nat)}
    (hown : s.vm.findClass own = some m.cls) (hlink : (Cond.methodLink own index y).before args s = true) (hstat : (Cond.static y).before args s = true) (hinit : (Cond.initialized y.cls).before args s = true)
    (hcode : (Cond.codeWith y bytes maxL ret hh).before args s = true) (hy : y.cls ≠ "java/lang/invoke/MethodHandle" ∧ y.cls ≠ "java/lang/invoke/VarHandle")
    {W9 : Nat} {Pre : Pt → Array Value → Prop} {Post : Pt → Array Value → Option Value → Pt → Prop} (hK : Back l R p e below s args y 3 W9 Pre Post)
    {g : JFrame} (hg : g.method = m) (hsize : g.locals.size = c.maxLocals) {argsL rest : List Value} (hlen : ∀ sig, parseMethodDescriptor y.desc = some sig → argsL.length = sig.parameters.length)
    (hstack : g.stack = argsL.reverse ++ rest) (hW : 2 * g.monitorRoom + (rest.map fun v => v.category).sum ≤ W9) (hdg : decode c.code g.pc = .ok (.invokestatic index, 3))
    (hpre : ∀ vm₁, s.WarmedH vm₁ → Pre ⟨T.setVm vm₁, locs, cells, slots⟩ argsL.toArray) :
    ∃ (v : Option Value) (vm₁ : Vm) (B : Pt), s.WarmedH vm₁ ∧ Stand p l e R s m args below meth c B.U B.locs B.cells B.slots ∧ Post ⟨T.setVm vm₁, locs, cells, slots⟩ argsL.toArray v B ∧
      ∀ target, Steps p.tables e below (B.U.setTop { g with pc := g.pc + 3, stack := v.toList ++ rest }) target → Steps p.tables e below (T.setTop g) target := by
  obtain ⟨mk, methM, cM, hnamed, hmethM, -, -, -, -, -, -, hsigM⟩ := Cond.codeWith_spec hcode
  have hstatic : methM.isStatic = true := Cond.static_spec hnamed hmethM hstat
  obtain ⟨kP, hkP, -⟩ := className_of_methodNamed hnamed
  have hinitP : kP.init = .initialized := Cond.initialized_spec (findClass_of_methodNamed hnamed) hkP hinit
  obtain ⟨vm₁, X₁, hstep₁⟩ := X.invokestatic hexec hown hlink hnamed hmethM hstatic hkP hinitP hy (g := g) hg (argsL := argsL) (rest := rest) (hlen _ hsigM) hstack hdg
  obtain ⟨v, B, X', hpost, hsteps⟩ := hK m meth c ⟨T.setVm vm₁, locs, cells, slots⟩ { g with stack := rest } (.invokestatic index) mk argsL.toArray X₁ hg hsize hdg hW (X₁.named hnamed) (hpre vm₁ X₁.warmed)
  exact ⟨v, vm₁, B, X₁.warmed, X', hpost, fun target h => hstep₁ _ fun acts => by rw [doInvoke_state]; exact hsteps.trans h⟩
theorem vx_runSW {y : MethodName} {bytes cc : ByteArray} {maxL nL mc ms n index : Nat} {ret : Option FieldType} {hh : List (Nat × Nat × Nat × Nat)} {ws : List Cond} {rm : Room} {Pc : Array Value → State → Prop} {Qc : Array Value → State → Outcome → State → Prop} {free : Addr → Prop} {Ts : List Cond} {own : String} {As rest : List Value} {g : JFrame}
    (S : CallFix p m c cc nL s args Ts own) (hM : Met l y ws rm Pc Qc mc ms free) (cw : vx_CSW R s args own index y bytes maxL ret hh ws rm mc ms n) (hp : PreS s H Pc As)
    (hg : g.method = m) (hn : As.length = n) (hsize : g.locals.size = nL) (hstack : g.stack = As.reverse ++ rest) (hW : 2 * g.monitorRoom + (rest.map fun v => v.category).sum ≤ 8) (hdg : decode cc g.pc = .ok (.invokestatic index, 3)) (hf : cells + mc ≤ R.cells ∧ slots + ms ≤ R.slots) :
    va_Run p l e R s m args below meth c H locs cells slots mc ms g rest (Qc As.toArray) (free) := by
  obtain ⟨⟨hrc, hrs, hfr, hlo, hws, hcw⟩, hcode, hini, hy, hlen, hl, hstt⟩ := cw
  have hK : Back l R p e below s args y 3 8 (PreOf R mc ms Pc) (PostOf Qc mc ms free) := va_backW (hh := hh) (bytes := bytes) (maxL := maxL) (ret := ret) hM hp.1 hrc hrs hfr hlo hws hcw (fun a' U hW => word_at hW (Or.inl (by first | rfl | simp [Cond.onTables, Cond.keeps, Cond.steady])) hini)
  obtain ⟨hx, hb, hml, ho, -⟩ := S
  intro T hT X
  obtain ⟨v, vm₁, ⟨U', l2, c2, s2⟩, hW₁, X', ⟨g', mk, t, L, e1, e2, hq, h1, hL, h2, h3⟩, st⟩ := vx_callSW X hx (hh := hh) (bytes := bytes) (maxL := maxL) (ret := ret) ho hl hstt hini hcode hy hK hg (hsize.trans hml.symm) (argsL := As) (rest := rest) (fun sig h => hn.trans (hlen sig h)) hstack hW (by rw [hb]; exact hdg)
    (fun vm₁ hW₁ => ⟨hf.1, hf.2, hp.2 (T.setVm vm₁) hT hW₁⟩)
  dsimp only [Pt.U, Pt.locs, Pt.cells, Pt.slots] at X' e1 e2 h1 h2 h3 st
  subst h1; subst h2; subst h3
  exact ⟨v, (T.setVm vm₁).calling g' mk As.toArray, t, U', L, hT, X', hL, e1, e2, hq, st⟩
/-- not caught here, past rows that name other classes: it goes on to the caller -/
theorem vx_outP {p : Program} {l : Launch} {e : Env} {R : Room} {s : State} {m : MethodId} {args : Array Value} {below : List Frame} {meth : Method} {c : Code} {H : Heap} {locs : List Loc} {cells slots : Nat} {free : Addr → Prop} {ls : Array Slot} {rest : List Value} {Qc : Array Value → State → Outcome → State → Prop} {XC : String → State → State → Prop}
    {pc : Nat} {own E : String} {ce : Cell} {q : Addr} {mc ms : Nat} (hown : s.vm.findClass own = some m.cls) (hlocks : meth.locks = false)
    (hpass : ∀ z ∈ c.exceptionTable.toList, covers z pc = false ∨ (z.catchType ≠ 0 ∧ ∃ nm : String, (Cond.classLink own z.catchType nm).before args s = true ∧ va_Nc E nm s)) (hcell : H[q]? = some ce) (hv : ce.vm = .none) (hcl : s.vm.findClass E = some ce.cls)
    (hx : ∀ t : State, t.heap = H → s.vm.Alike t.vm → XC E s t) (hf : ∀ z ∈ locs, free z.base) (hc : cells ≤ mc) (hs : slots ≤ ms) :
    vx_W p l e R s m args below meth c H locs cells slots (vx_MQ below Qc XC args s mc ms free) (F0 m pc ls rest) q := by
  intro T hT X
  have hpl : e.platform.magicAccessors = ({} : Platform).magicAccessors := by rw [X.admits.platform]
  obtain ⟨vm', hW', X', st⟩ := X.outThrough hlocks q (g := F0 m pc ls rest) rfl rfl rfl (cell := ce) (by rw [hT]; exact hcell) (by rw [hv]; rfl)
    (by obtain ⟨k9, h9, -⟩ := Vm.findClass_spec hcl; exact ⟨k9, h9⟩) (fun z hz => by
      rcases hpass z hz with h | ⟨hz0, nm, hl1, hn1⟩
      · exact Or.inl h
      · obtain ⟨c6, hc6, hcl6⟩ := Cond.classLink_spec hown hl1 e.platform hpl
        obtain ⟨a8, b8, h1, h2, h3⟩ := hn1
        cases Option.some.inj (h1.symm.trans hcl)
        cases Option.some.inj (h2.symm.trans hc6)
        exact Or.inr ⟨hz0, _, hcl6, h3⟩)
  obtain ⟨g₀, hfr⟩ := X'.frames_eq
  have hcell9 : ((T.setVm vm').setFrames (.throwing q :: below)).heap[q]? = some ce := by
    show T.heap[q]? = some ce
    rw [hT]; exact hcell
  have hend : Ended ((T.setVm vm').setFrames (.throwing q :: below)) below (.threw q) := State.frames_setFrames _ (State.cur_lt_of_frames hfr)
  refine ⟨(T.setVm vm').setFrames (.throwing q :: below), ?_, .threw q, X'.here.running, hend, Or.inr ⟨q, rfl, E, ce, locs, hx _ hT (X'.ends _).1.alike, hcell9, hv, hcl, (X'.ends _).1, (X'.ends _).2.mono hc hs, hf⟩⟩
  rw [X.pushThrowing_eq]
  exact st
/-- a thing of a world lies in the heap -/
theorem vx_lt {D : va_G} {cl : List vw_C} {ws : va_W} {H1 : Heap} (h : va_P D cl ws H1) {k : Nat} {q : Nat × va_E} (hk : ws[k]? = some q) : q.1 < H1.size := (h k q hk).lt
end VXS
/-! ===== END ===== -/
/-! ===== BEGIN methods with a table of their own: called by a name, returning or throwing ===== -/
section VXH
/-! vx_backW, vx_callVX, vx_callSX, vx_callVW, vx_runVW, vx_runVX, vx_runSX, vx_ofWH follow the same proofs as their sisters above (Free/Laws.lean, Shelf42/LK1.lean); vx_outP calls Shelf42/NT130.lean (outThrough). -/
section
variable {l : Launch} {R : Room} {p : Program} {e : Env} {below : List Frame} {s : State} {sargs : Array Value} {y : MethodName} {len W9 : Nat}
theorem vx_backW {ws : List Cond} {rm : Room} {Pc : Array Value → State → Prop} {Qc : Array Value → State → Outcome → State → Prop} {XC : String → State → State → Prop} {mc ms : Nat} {free : Addr → Prop} {bytes : ByteArray} {maxL : Nat} {ret : Option FieldType} {hh : List (Nat × Nat × Nat × Nat)}
    (hM : vx_Met l y ws rm Pc Qc XC mc ms free) (hblind : FrameBlind Pc) (hrc : rm.cells = mc) (hrs : rm.slots = ms)
    (hframes : rm.frames + 1 ≤ R.frames) (hlocals : W9 + (maxL + 11) + rm.locals ≤ R.locals)
    (hws : ∀ w ∈ ws, ∀ a' U, s.WarmedH U.vm → w.before a' U = true) (hcode : Cond.codeWith y bytes maxL ret hh ∈ ws) (hinit : ∀ a' U, s.WarmedH U.vm → (Cond.initialized y.cls).before a' U = true) :
    vx_Back l R p e below s sargs y len W9 (PreOf R mc ms Pc) (PostOf Qc mc ms free) (vx_Post XC mc ms free) := by
  intro m meth c A g ig mk a X hg hsize hdg hW hn hp
  have h1 : (headSpec ws rm).pre.before a A.U = true := atoms_intro fun w hw => hws w hw _ _ X.warmed
  have h2 : (Cond.codeWith y bytes maxL ret hh).before a A.U = true := hws _ hcode _ _ X.warmed
  have h3 : (Cond.initialized y.cls).before a A.U = true := hinit _ _ X.warmed
  have h4 : A.cells + (headSpec ws rm).room.cells ≤ R.cells := by rw [show (headSpec ws rm).room.cells = mc from hrc]; exact hp.1
  have h5 : A.slots + (headSpec ws rm).room.slots ≤ R.slots := by rw [show (headSpec ws rm).room.slots = ms from hrs]; exact hp.2.1
  have hPc : Pc a (A.U.calling g mk a) := hblind _ _ _ _ hp.2.2
  obtain ⟨U, Ls, c0, s0⟩ := A
  dsimp only [Pt.U, Pt.locs, Pt.cells, Pt.slots] at h1 h2 h3 h4 h5 X hn hPc ⊢
  obtain ⟨m9, methY, cY, hn9, hmY, hcY, -, hlY, -⟩ := Cond.codeWith_spec h2
  cases Option.some.inj (hn9.symm.trans hn)
  obtain ⟨kY, hkY, -⟩ := className_of_methodNamed hn
  have hinitY : kY.init = .initialized := Cond.initialized_spec (findClass_of_methodNamed hn) hkY h3
  have h : At U g.method c below := by rw [hg]; exact X.here
  have hlocals9 : W9 + (maxL + 11) + (headSpec ws rm).room.locals ≤ R.locals := hlocals
  have happ : (headSpec ws rm).appliesLoose y e.platform (U.calling g mk a) = true :=
    Spec.appliesLoose_calling (g := g) h hdg hn hkY hinitY
      (X.room_calling (g := g) (R' := (headSpec ws rm).room) hsize hmY hcY hframes (by rw [hlY]; omega) h4 h5) h1
  obtain ⟨mid, hmid⟩ := h.above
  have hfr : (U.setTop g).frames = (.java g :: mid) ++ below := by rw [State.frames_setTop' g h.top, hmid]; rfl
  obtain ⟨o, s₂, hsteps, -, hend, hq⟩ := Steps.callFree hM p X.admits X.cas X.clock (acts := []) hfr happ hPc trivial
  have hq' : vx_Q Qc XC mc ms free a (U.calling g mk a) o s₂ := hq
  rw [State.frames_setTop' g h.top] at hend
  obtain ⟨g₀, hg0⟩ := Option.isSome_iff_exists.mp h.top
  obtain ⟨r, hr⟩ := State.topJava?_eq_some.mp hg0
  have hr' : (({ U with heap := s₂.heap, slotsUsed := s₂.slotsUsed } : State).setVm s₂.vm).frames = .java g₀ :: r := hr
  rcases hq' with ⟨hqc, L, hfe, hL⟩ | ⟨q, rfl, E, ce, L, hx, hce, hcv, hcl, hW₂, hsm, hL⟩
  · obtain ⟨⟨v, rfl⟩, hW₂, e2, q2, q3, q4, q5, q6⟩ := id hfe
    have e3 : s₂ = ({ (U.calling g mk a).setFrames s₂.frames with heap := s₂.heap, slotsUsed := s₂.slotsUsed } : State).setVm s₂.vm := by
      have : s₂ = ({ s₂ with vm := (U.calling g mk a).vm } : State).setVm s₂.vm := rfl
      rw [e2] at this
      exact this
    obtain ⟨c₂, i₂, len₂, hc₂, hd₂, hf₂⟩ := hend
    have hW' : U.WarmedH s₂.vm := hW₂
    have hcc : c₂ = c := by
      have h1 : s₂.code? g.method = U.code? g.method := by
        rw [State.code?_eq, State.code?_eq, hW'.alike.method?]
      exact Option.some.inj (hc₂.symm.trans (h1.trans h.code))
    subst hcc
    have hlen : len₂ = len := by rw [hdg] at hd₂; cases hd₂; rfl
    subst hlen
    have hs₂ : s₂ = (({ U with heap := s₂.heap, slotsUsed := s₂.slotsUsed } : State).setVm s₂.vm).setTop { g with pc := g.pc + len₂, stack := v.toList ++ g.stack } := by
      refine e3.trans ?_
      rw [hf₂, State.calling_eq h.top, State.setFrames_setFrames, State.setTop_of_frames _ hr', hr]
      rfl
    have hsame : U.sameButNew ({ U with heap := s₂.heap, slotsUsed := s₂.slotsUsed } : State) L mc ms := by
      refine ⟨?_, q2, q3, q4, q5, q6⟩
      obtain ⟨t, ht, -⟩ := State.frames_cons hr
      show ({ U with heap := s₂.heap, slotsUsed := s₂.slotsUsed } : State) = { U.setFrames U.frames with heap := s₂.heap, slotsUsed := s₂.slotsUsed }
      rw [State.setFrames_self ht]
    subst hg
    refine Or.inl ⟨v, ⟨(({ U with heap := s₂.heap, slotsUsed := s₂.slotsUsed } : State).setVm s₂.vm), Ls ++ L, c0 + mc, s0 + ms⟩,
      ⟨X.admits, X.cas, X.clock, X.frames, X.room, X.hears, X.method, X.code, (X.here.setHeapUsed s₂.heap s₂.slotsUsed).setVm hW'.alike, X.tail, State.WarmedH.trans X.warmed hW', X.limits, X.bytes, X.same.trans (hsame.setVm s.vm)⟩,
      ⟨g, mk, s₂, L, rfl, rfl, hqc, rfl, hL, rfl, rfl⟩, ?_⟩
    show Steps p.tables e below _ ((({ U with heap := s₂.heap, slotsUsed := s₂.slotsUsed } : State).setVm s₂.vm).setTop { g with pc := g.pc + len₂, stack := v.toList ++ g.stack })
    rw [← hs₂]
    exact hsteps
  · obtain ⟨e2, q2, q3, q4, q5, q6⟩ := id hsm
    have e3 : s₂ = ({ (U.calling g mk a).setFrames s₂.frames with heap := s₂.heap, slotsUsed := s₂.slotsUsed } : State).setVm s₂.vm := by
      have : s₂ = ({ s₂ with vm := (U.calling g mk a).vm } : State).setVm s₂.vm := rfl
      rw [e2] at this
      exact this
    have hf₂ : s₂.frames = .throwing q :: .java g :: U.frames.tail := hend
    have hW' : U.WarmedH s₂.vm := hW₂
    have hs₂ : s₂ = ((({ U with heap := s₂.heap, slotsUsed := s₂.slotsUsed } : State).setVm s₂.vm).setTop g).pushFrame (.throwing q) := by
      refine e3.trans ?_
      rw [hf₂, State.calling_eq h.top, State.setFrames_setFrames, State.pushFrame, State.frames_setTop _ hr', State.setTop_of_frames _ hr', State.setFrames_setFrames, hr]
      rfl
    have hsame : U.sameButNew ({ U with heap := s₂.heap, slotsUsed := s₂.slotsUsed } : State) L mc ms := by
      refine ⟨?_, q2, q3, q4, q5, q6⟩
      obtain ⟨t, ht, -⟩ := State.frames_cons hr
      show ({ U with heap := s₂.heap, slotsUsed := s₂.slotsUsed } : State) = { U.setFrames U.frames with heap := s₂.heap, slotsUsed := s₂.slotsUsed }
      rw [State.setFrames_self ht]
    subst hg
    refine Or.inr ⟨q, ⟨(({ U with heap := s₂.heap, slotsUsed := s₂.slotsUsed } : State).setVm s₂.vm), Ls ++ L, c0 + mc, s0 + ms⟩,
      ⟨X.admits, X.cas, X.clock, X.frames, X.room, X.hears, X.method, X.code, (X.here.setHeapUsed s₂.heap s₂.slotsUsed).setVm hW'.alike, X.tail, State.WarmedH.trans X.warmed hW', X.limits, X.bytes, X.same.trans (hsame.setVm s.vm)⟩,
      ⟨g, mk, s₂, L, E, ce, rfl, rfl, hx, hce, hcv, hcl, rfl, hL, rfl, rfl⟩, ?_⟩
    show Steps p.tables e below _ (((({ U with heap := s₂.heap, slotsUsed := s₂.slotsUsed } : State).setVm s₂.vm).setTop g).pushFrame (.throwing q))
    rw [← hs₂]
    exact hsteps
end
variable {p : Program} {l : Launch} {e : Env} {R : Room} {s : State} {m : MethodId} {args : Array Value} {below : List Frame} {meth : Method} {c : Code} {T : State} {H : Heap} {locs : List Loc} {cells slots : Nat}
theorem vx_callVX (X : Stand p l e R s m args below meth c T locs cells slots) (hexec : p.tables.exec = Jvm.exec) {own C : String} {index : Nat} {y : MethodName} {bytes : ByteArray} {maxL : Nat} {ret : Option FieldType} {hh : List (Nat × Nat × Nat × Nat)}
    (hown : s.vm.findClass own = some m.cls) (hlink : (Cond.methodLink own index y).before args s = true) (hinst : (Cond.instanceMethod y).before args s = true) (hsel : (Cond.selects C y y).before args s = true)
    (hcode : (Cond.codeWith y bytes maxL ret hh).before args s = true) (hy : y.cls ≠ "java/lang/invoke/MethodHandle" ∧ y.cls ≠ "java/lang/invoke/VarHandle")
    {W9 : Nat} {Pre : Pt → Array Value → Prop} {Post : Pt → Array Value → Option Value → Pt → Prop} {PostX : Pt → Array Value → Addr → Pt → Prop} (hK : vx_Back l R p e below s args y 3 W9 Pre Post PostX)
    {b : Addr} {cellB : Cell} (hcell : T.heap[b]? = some cellB) (hobj : cellB.vm.isStatics = false) (hcls : s.vm.findClass C = some cellB.cls)
    {g : JFrame} (hg : g.method = m) (hsize : g.locals.size = c.maxLocals) {argsL rest : List Value} (hlen : ∀ sig, parseMethodDescriptor y.desc = some sig → argsL.length = sig.parameters.length)
    (hstack : g.stack = argsL.reverse ++ .ref b :: rest) (hW : 2 * g.monitorRoom + (rest.map fun v => v.category).sum ≤ W9) (hdg : decode c.code g.pc = .ok (.invokevirtual index, 3))
    (hpre : ∀ vm₁, s.WarmedH vm₁ → Pre ⟨T.setVm vm₁, locs, cells, slots⟩ (Value.ref b :: argsL).toArray) :
    (∃ (v : Option Value) (vm₁ : Vm) (B : Pt), s.WarmedH vm₁ ∧ Stand p l e R s m args below meth c B.U B.locs B.cells B.slots ∧ Post ⟨T.setVm vm₁, locs, cells, slots⟩ (Value.ref b :: argsL).toArray v B ∧
      ∀ target, Steps p.tables e below (B.U.setTop { g with pc := g.pc + 3, stack := v.toList ++ rest }) target → Steps p.tables e below (T.setTop g) target) ∨
    (∃ (q : Addr) (vm₁ : Vm) (B : Pt), s.WarmedH vm₁ ∧ Stand p l e R s m args below meth c B.U B.locs B.cells B.slots ∧ PostX ⟨T.setVm vm₁, locs, cells, slots⟩ (Value.ref b :: argsL).toArray q B ∧
      Steps p.tables e below (T.setTop g) ((B.U.setTop { g with stack := rest }).pushFrame (.throwing q))) := by
  obtain ⟨mk, methM, hnamed, hmethM, hstM, habM⟩ := Cond.instanceMethod_spec hinst
  obtain ⟨m8, methM', cM, hn8, hmethM', -, -, -, -, -, -, hsigM⟩ := Cond.codeWith_spec hcode
  cases Option.some.inj (hn8.symm.trans hnamed)
  cases hmethM.symm.trans hmethM'
  obtain ⟨c2, r2, m2, q1, q2, q3, q4, kP, hkP, hkPi⟩ := Cond.selects_spec hsel
  cases hcls.symm.trans q1
  cases (State.methodFound?_of_named hnamed hy).symm.trans q2
  cases hnamed.symm.trans q3
  have hselP : selectMethod e.platform s.vm cellB.cls mk = .method mk := by rw [Launch.admits_selectMethod X.admits]; exact q4
  obtain ⟨vm₁, X₁, hstep₁⟩ := X.invokevirtual hexec hown hlink hnamed hmethM hstM hkP hkPi hy (a := b) (cell := cellB) hcell
    (fun z h => by rw [h] at hobj; cases hobj) hselP hmethM habM hkP hkPi (g := g) hg (argsL := argsL) (rest := rest) (hlen _ hsigM) hstack hdg
  rcases hK m meth c ⟨T.setVm vm₁, locs, cells, slots⟩ { g with stack := rest } (.invokevirtual index) mk (Value.ref b :: argsL).toArray X₁ hg hsize hdg hW (X₁.named hnamed) (hpre vm₁ X₁.warmed) with ⟨v, B, X', hpost, hsteps⟩ | ⟨q, B, X', hpost, hsteps⟩
  · exact Or.inl ⟨v, vm₁, B, X₁.warmed, X', hpost, fun target h => hstep₁ _ fun acts => by rw [doInvoke_state]; exact hsteps.trans h⟩
  · exact Or.inr ⟨q, vm₁, B, X₁.warmed, X', hpost, hstep₁ _ fun acts => by rw [doInvoke_state]; exact hsteps⟩
theorem vx_callSX (X : Stand p l e R s m args below meth c T locs cells slots) (hexec : p.tables.exec = Jvm.exec) {own : String} {index : Nat} {y : MethodName} {bytes : ByteArray} {maxL : Nat} {ret : Option FieldType} {hh : List (Nat × Nat × Nat × Nat)}
    (hown : s.vm.findClass own = some m.cls) (hlink : (Cond.methodLink own index y).before args s = true) (hstat : (Cond.static y).before args s = true) (hinit : (Cond.initialized y.cls).before args s = true)
    (hcode : (Cond.codeWith y bytes maxL ret hh).before args s = true) (hy : y.cls ≠ "java/lang/invoke/MethodHandle" ∧ y.cls ≠ "java/lang/invoke/VarHandle")
    {W9 : Nat} {Pre : Pt → Array Value → Prop} {Post : Pt → Array Value → Option Value → Pt → Prop} {PostX : Pt → Array Value → Addr → Pt → Prop} (hK : vx_Back l R p e below s args y 3 W9 Pre Post PostX)
    {g : JFrame} (hg : g.method = m) (hsize : g.locals.size = c.maxLocals) {argsL rest : List Value} (hlen : ∀ sig, parseMethodDescriptor y.desc = some sig → argsL.length = sig.parameters.length)
    (hstack : g.stack = argsL.reverse ++ rest) (hW : 2 * g.monitorRoom + (rest.map fun v => v.category).sum ≤ W9) (hdg : decode c.code g.pc = .ok (.invokestatic index, 3))
    (hpre : ∀ vm₁, s.WarmedH vm₁ → Pre ⟨T.setVm vm₁, locs, cells, slots⟩ argsL.toArray) :
    (∃ (v : Option Value) (vm₁ : Vm) (B : Pt), s.WarmedH vm₁ ∧ Stand p l e R s m args below meth c B.U B.locs B.cells B.slots ∧ Post ⟨T.setVm vm₁, locs, cells, slots⟩ argsL.toArray v B ∧
      ∀ target, Steps p.tables e below (B.U.setTop { g with pc := g.pc + 3, stack := v.toList ++ rest }) target → Steps p.tables e below (T.setTop g) target) ∨
    (∃ (q : Addr) (vm₁ : Vm) (B : Pt), s.WarmedH vm₁ ∧ Stand p l e R s m args below meth c B.U B.locs B.cells B.slots ∧ PostX ⟨T.setVm vm₁, locs, cells, slots⟩ argsL.toArray q B ∧
      Steps p.tables e below (T.setTop g) ((B.U.setTop { g with stack := rest }).pushFrame (.throwing q))) := by
  obtain ⟨mk, methM, cM, hnamed, hmethM, -, -, -, -, -, -, hsigM⟩ := Cond.codeWith_spec hcode
  have hstatic : methM.isStatic = true := Cond.static_spec hnamed hmethM hstat
  obtain ⟨kP, hkP, -⟩ := className_of_methodNamed hnamed
  have hinitP : kP.init = .initialized := Cond.initialized_spec (findClass_of_methodNamed hnamed) hkP hinit
  obtain ⟨vm₁, X₁, hstep₁⟩ := X.invokestatic hexec hown hlink hnamed hmethM hstatic hkP hinitP hy (g := g) hg (argsL := argsL) (rest := rest) (hlen _ hsigM) hstack hdg
  rcases hK m meth c ⟨T.setVm vm₁, locs, cells, slots⟩ { g with stack := rest } (.invokestatic index) mk argsL.toArray X₁ hg hsize hdg hW (X₁.named hnamed) (hpre vm₁ X₁.warmed) with ⟨v, B, X', hpost, hsteps⟩ | ⟨q, B, X', hpost, hsteps⟩
  · exact Or.inl ⟨v, vm₁, B, X₁.warmed, X', hpost, fun target h => hstep₁ _ fun acts => by rw [doInvoke_state]; exact hsteps.trans h⟩
  · exact Or.inr ⟨q, vm₁, B, X₁.warmed, X', hpost, hstep₁ _ fun acts => by rw [doInvoke_state]; exact hsteps⟩
theorem vx_callVW (X : Stand p l e R s m args below meth c T locs cells slots) (hexec : p.tables.exec = Jvm.exec) {own C : String} {index : Nat} {y : MethodName} {bytes : ByteArray} {maxL : Nat} {ret : Option FieldType} {hh : List (Nat × Nat × Nat × Nat)}
    (hown : s.vm.findClass own = some m.cls) (hlink : (Cond.methodLink own index y).before args s = true) (hinst : (Cond.instanceMethod y).before args s = true) (hsel : (Cond.selects C y y).before args s = true)
    (hcode : (Cond.codeWith y bytes maxL ret hh).before args s = true) (hy : y.cls ≠ "java/lang/invoke/MethodHandle" ∧ y.cls ≠ "java/lang/invoke/VarHandle")
    {W9 : Nat} {Pre : Pt → Array Value → Prop} {Post : Pt → Array Value → Option Value → Pt → Prop} (hK : Back l R p e below s args y 3 W9 Pre Post)
    {b : Addr} {cellB : Cell} (hcell : T.heap[b]? = some cellB) (hobj : cellB.vm.isStatics = false) (hcls : s.vm.findClass C = some cellB.cls)
    {g : JFrame} (hg : g.method = m) (hsize : g.locals.size = c.maxLocals) {argsL rest : List Value} (hlen : ∀ sig, parseMethodDescriptor y.desc = some sig → argsL.length = sig.parameters.length)
    (hstack : g.stack = argsL.reverse ++ .ref b :: rest) (hW : 2 * g.monitorRoom + (rest.map fun v => v.category).sum ≤ W9) (hdg : decode c.code g.pc = .ok (.invokevirtual index, 3))
    (hpre : ∀ vm₁, s.WarmedH vm₁ → Pre ⟨T.setVm vm₁, locs, cells, slots⟩ (Value.ref b :: argsL).toArray) :
    ∃ (v : Option Value) (vm₁ : Vm) (B : Pt), s.WarmedH vm₁ ∧ Stand p l e R s m args below meth c B.U B.locs B.cells B.slots ∧ Post ⟨T.setVm vm₁, locs, cells, slots⟩ (Value.ref b :: argsL).toArray v B ∧
      ∀ target, Steps p.tables e below (B.U.setTop { g with pc := g.pc + 3, stack := v.toList ++ rest }) target → Steps p.tables e below (T.setTop g) target := by
  obtain ⟨mk, methM, hnamed, hmethM, hstM, habM⟩ := Cond.instanceMethod_spec hinst
  obtain ⟨m8, methM', cM, hn8, hmethM', -, -, -, -, -, -, hsigM⟩ := Cond.codeWith_spec hcode
  cases Option.some.inj (hn8.symm.trans hnamed)
  cases hmethM.symm.trans hmethM'
  obtain ⟨c2, r2, m2, q1, q2, q3, q4, kP, hkP, hkPi⟩ := Cond.selects_spec hsel
  cases hcls.symm.trans q1
  cases (State.methodFound?_of_named hnamed hy).symm.trans q2
  cases hnamed.symm.trans q3
  have hselP : selectMethod e.platform s.vm cellB.cls mk = .method mk := by rw [Launch.admits_selectMethod X.admits]; exact q4
  obtain ⟨vm₁, X₁, hstep₁⟩ := X.invokevirtual hexec hown hlink hnamed hmethM hstM hkP hkPi hy (a := b) (cell := cellB) hcell
    (fun z h => by rw [h] at hobj; cases hobj) hselP hmethM habM hkP hkPi (g := g) hg (argsL := argsL) (rest := rest) (hlen _ hsigM) hstack hdg
  obtain ⟨v, B, X', hpost, hsteps⟩ := hK m meth c ⟨T.setVm vm₁, locs, cells, slots⟩ { g with stack := rest } (.invokevirtual index) mk (Value.ref b :: argsL).toArray X₁ hg hsize hdg hW (X₁.named hnamed) (hpre vm₁ X₁.warmed)
  exact ⟨v, vm₁, B, X₁.warmed, X', hpost, fun target h => hstep₁ _ fun acts => by rw [doInvoke_state]; exact hsteps.trans h⟩
abbrev vx_CVW (R : Room) (s : State) (args : Array Value) (own C : String) (index : Nat) (y : MethodName) (bytes : ByteArray) (maxL : Nat) (ret : Option FieldType) (hh : List (Nat × Nat × Nat × Nat)) (ws : List Cond) (rm : Room) (mc ms n : Nat) : Prop :=
  (rm.cells = mc ∧ rm.slots = ms ∧ rm.frames + 1 ≤ R.frames ∧ 8 + (maxL + 11) + rm.locals ≤ R.locals ∧ (∀ w ∈ ws, ∀ (a' : Array Value) (U : State), s.WarmedH U.vm → w.before a' U = true) ∧ Cond.codeWith y bytes maxL ret hh ∈ ws) ∧
  (Cond.codeWith y bytes maxL ret hh).before args s = true ∧ (Cond.initialized y.cls).before args s = true ∧ (y.cls ≠ "java/lang/invoke/MethodHandle" ∧ y.cls ≠ "java/lang/invoke/VarHandle") ∧
  (∀ sig, parseMethodDescriptor y.desc = some sig → n = sig.parameters.length) ∧ (Cond.methodLink own index y).before args s = true ∧ (Cond.instanceMethod y).before args s = true ∧ (Cond.selects C y y).before args s = true
theorem vx_cwVW {own C : String} {index maxL mc ms : Nat} {y : MethodName} {bytes : ByteArray} {ret : Option FieldType} {hh : List (Nat × Nat × Nat × Nat)} {Ts ws ws' : List Cond} {rm : Room} (n : Nat) (ht : ∀ w ∈ Ts, w.before args s = true) (hT : GoodIn Ts (wsV own index C y ws)) (hw : ws = Cond.codeWith y bytes maxL ret hh :: ws') (hrc : rm.cells = mc) (hrs : rm.slots = ms)
    (hd : y.cls = C ∧ y.cls ≠ "java/lang/invoke/MethodHandle" ∧ y.cls ≠ "java/lang/invoke/VarHandle" ∧ (parseMethodDescriptor y.desc).map (fun d => d.parameters.length) = some n) (hR : rm.frames + 1 ≤ R.frames ∧ 8 + (maxL + 11) + rm.locals ≤ R.locals) :
    vx_CVW R s args own C index y bytes maxL ret hh ws rm mc ms n := by
  obtain ⟨hC, hd⟩ := hd
  subst hC
  have ok : ∀ w ∈ wsV own index y.cls y ws, w.before args s = true := fun w h => ht w (hT w h).1
  have hG : GoodIn Ts ws := fun w h => hT w (by unfold wsV; exact List.mem_append_right _ h)
  have hc : Cond.codeWith y bytes maxL ret hh ∈ ws := by rw [hw]; exact List.mem_cons_self
  refine ⟨⟨hrc, hrs, hR.1, hR.2, pay_in ht hG, hc⟩, ht _ (hG _ hc).1, ok _ (by simp [wsV]), ⟨hd.1, hd.2.1⟩, fun sig h => ?_, ok _ (by simp [wsV]), ok _ (by simp [wsV]), ok _ (by simp [wsV])⟩
  have h2 := hd.2.2
  rw [h] at h2
  exact (Option.some.inj h2).symm
theorem vx_runVW {y : MethodName} {bytes cc : ByteArray} {maxL nL mc ms n index : Nat} {ret : Option FieldType} {hh : List (Nat × Nat × Nat × Nat)} {ws : List Cond} {rm : Room} {Pc : Array Value → State → Prop} {Qc : Array Value → State → Outcome → State → Prop} {free : Addr → Prop} {Ts : List Cond} {own C : String} {b : Addr} {As rest : List Value} {g : JFrame}
    (S : CallFix p m c cc nL s args Ts own) (hM : Met l y ws rm Pc Qc mc ms free) (cw : vx_CVW R s args own C index y bytes maxL ret hh ws rm mc ms n) (hp : PreV s H C b Pc As)
    (hg : g.method = m) (hn : As.length = n) (hsize : g.locals.size = nL) (hstack : g.stack = As.reverse ++ .ref b :: rest) (hW : 2 * g.monitorRoom + (rest.map fun v => v.category).sum ≤ 8) (hdg : decode cc g.pc = .ok (.invokevirtual index, 3)) (hf : cells + mc ≤ R.cells ∧ slots + ms ≤ R.slots) :
    va_Run p l e R s m args below meth c H locs cells slots mc ms g rest (Qc (Value.ref b :: As).toArray) free := by
  obtain ⟨⟨hrc, hrs, hfr, hlo, hws, hcw⟩, hcode, hini, hy, hlen, hl, hin, hse⟩ := cw
  have hK : Back l R p e below s args y 3 8 (PreOf R mc ms Pc) (PostOf Qc mc ms free) := va_backW (hh := hh) (bytes := bytes) (maxL := maxL) (ret := ret) hM hp.1 hrc hrs hfr hlo hws hcw (fun a' U hW => word_at hW (Or.inl (by first | rfl | simp [Cond.onTables, Cond.keeps, Cond.steady])) hini)
  obtain ⟨hx, hb, hml, ho, -⟩ := S
  obtain ⟨-, ⟨cellB, hcB, hoB, hclB⟩, hPc⟩ := hp
  intro T hT X
  obtain ⟨v, vm₁, ⟨U', l2, c2, s2⟩, hW₁, X', ⟨g', mk, t, L, e1, e2, hq, h1, hL, h2, h3⟩, st⟩ := vx_callVW X hx (C := C) (hh := hh) (bytes := bytes) (maxL := maxL) (ret := ret) ho hl hin hse hcode hy hK (by rw [hT]; exact hcB) hoB hclB hg (hsize.trans hml.symm) (argsL := As) (rest := rest) (fun sig h => hn.trans (hlen sig h)) hstack hW (by rw [hb]; exact hdg)
    (fun vm₁ hW₁ => ⟨hf.1, hf.2, hPc (T.setVm vm₁) hT hW₁⟩)
  dsimp only [Pt.U, Pt.locs, Pt.cells, Pt.slots] at X' e1 e2 h1 h2 h3 st
  subst h1; subst h2; subst h3
  exact ⟨v, (T.setVm vm₁).calling g' mk (Value.ref b :: As).toArray, t, U', L, hT, X', hL, e1, e2, hq, st⟩
section
variable {y : MethodName} {bytes cc : ByteArray} {maxL nL mc ms n index : Nat} {ret : Option FieldType} {ws : List Cond} {rm : Room} {Pc : Array Value → State → Prop} {Qc : Array Value → State → Outcome → State → Prop} {XC : String → State → State → Prop} {free : Addr → Prop} {Ts : List Cond} {own C : String} {b : Addr} {As rest : List Value} {g : JFrame}
theorem vx_runVX {hh : List (Nat × Nat × Nat × Nat)} (S : CallFix p m c cc nL s args Ts own) (hM : vx_Met l y ws rm Pc Qc XC mc ms free) (cw : vx_CVW R s args own C index y bytes maxL ret hh ws rm mc ms n) (hp : PreV s H C b Pc As)
    (hg : g.method = m) (hn : As.length = n) (hsize : g.locals.size = nL) (hstack : g.stack = As.reverse ++ .ref b :: rest) (hW : 2 * g.monitorRoom + (rest.map fun v => v.category).sum ≤ 8) (hdg : decode cc g.pc = .ok (.invokevirtual index, 3)) (hf : cells + mc ≤ R.cells ∧ slots + ms ≤ R.slots) :
    vx_Run p l e R s m args below meth c H locs cells slots mc ms g rest (Qc (Value.ref b :: As).toArray) XC free := by
  obtain ⟨⟨hrc, hrs, hfr, hlo, hws, hcw⟩, hcode, hini, hy, hlen, hl, hin, hse⟩ := cw
  have hK : vx_Back l R p e below s args y 3 8 (PreOf R mc ms Pc) (PostOf Qc mc ms free) (vx_Post XC mc ms free) := vx_backW (hh := hh) (bytes := bytes) (maxL := maxL) (ret := ret) hM hp.1 hrc hrs hfr hlo hws hcw (fun a' U hW => word_at hW (Or.inl (by first | rfl | simp [Cond.onTables, Cond.keeps, Cond.steady])) hini)
  obtain ⟨hx, hb, hml, ho, -⟩ := S
  obtain ⟨-, ⟨cellB, hcB, hoB, hclB⟩, hPc⟩ := hp
  intro T hT X
  rcases vx_callVX X hx (C := C) (hh := hh) (bytes := bytes) (maxL := maxL) (ret := ret) ho hl hin hse hcode hy hK (by rw [hT]; exact hcB) hoB hclB hg (hsize.trans hml.symm) (argsL := As) (rest := rest) (fun sig h => hn.trans (hlen sig h)) hstack hW (by rw [hb]; exact hdg)
    (fun vm₁ hW₁ => ⟨hf.1, hf.2, hPc (T.setVm vm₁) hT hW₁⟩) with ⟨v, vm₁, ⟨U', l2, c2, s2⟩, hW₁, X', ⟨g', mk, t, L, e1, e2, hq, h1, hL, h2, h3⟩, st⟩ | ⟨q, vm₁, ⟨U', l2, c2, s2⟩, hW₁, X', ⟨g', mk, t, L, E, ce, e1, e2, hq, hce, hcv, hcl, h1, hL, h2, h3⟩, st⟩
  · dsimp only [Pt.U, Pt.locs, Pt.cells, Pt.slots] at X' e1 e2 h1 h2 h3 st
    subst h1; subst h2; subst h3
    exact Or.inl ⟨v, (T.setVm vm₁).calling g' mk (Value.ref b :: As).toArray, t, U', L, hT, X', hL, e1, e2, hq, st⟩
  · dsimp only [Pt.U, Pt.locs, Pt.cells, Pt.slots] at X' e1 e2 h1 h2 h3 st hcl
    subst h1; subst h2; subst h3
    exact Or.inr ⟨q, (T.setVm vm₁).calling g' mk (Value.ref b :: As).toArray, t, U', L, E, ce, hT, X', hL, e1, e2, hq, hce, hcv, vx_cls hW₁ hcl, st⟩
theorem vx_runSX {hh : List (Nat × Nat × Nat × Nat)} (S : CallFix p m c cc nL s args Ts own) (hM : vx_Met l y ws rm Pc Qc XC mc ms free) (cw : vx_CSW R s args own index y bytes maxL ret hh ws rm mc ms n) (hp : PreS s H Pc As)
    (hg : g.method = m) (hn : As.length = n) (hsize : g.locals.size = nL) (hstack : g.stack = As.reverse ++ rest) (hW : 2 * g.monitorRoom + (rest.map fun v => v.category).sum ≤ 8) (hdg : decode cc g.pc = .ok (.invokestatic index, 3)) (hf : cells + mc ≤ R.cells ∧ slots + ms ≤ R.slots) :
    vx_Run p l e R s m args below meth c H locs cells slots mc ms g rest (Qc As.toArray) XC free := by
  obtain ⟨⟨hrc, hrs, hfr, hlo, hws, hcw⟩, hcode, hini, hy, hlen, hl, hstt⟩ := cw
  have hK : vx_Back l R p e below s args y 3 8 (PreOf R mc ms Pc) (PostOf Qc mc ms free) (vx_Post XC mc ms free) := vx_backW (hh := hh) (bytes := bytes) (maxL := maxL) (ret := ret) hM hp.1 hrc hrs hfr hlo hws hcw (fun a' U hW => word_at hW (Or.inl (by first | rfl | simp [Cond.onTables, Cond.keeps, Cond.steady])) hini)
  obtain ⟨hx, hb, hml, ho, -⟩ := S
  intro T hT X
  rcases vx_callSX X hx (hh := hh) (bytes := bytes) (maxL := maxL) (ret := ret) ho hl hstt hini hcode hy hK hg (hsize.trans hml.symm) (argsL := As) (rest := rest) (fun sig h => hn.trans (hlen sig h)) hstack hW (by rw [hb]; exact hdg)
    (fun vm₁ hW₁ => ⟨hf.1, hf.2, hp.2 (T.setVm vm₁) hT hW₁⟩) with ⟨v, vm₁, ⟨U', l2, c2, s2⟩, hW₁, X', ⟨g', mk, t, L, e1, e2, hq, h1, hL, h2, h3⟩, st⟩ | ⟨q, vm₁, ⟨U', l2, c2, s2⟩, hW₁, X', ⟨g', mk, t, L, E, ce, e1, e2, hq, hce, hcv, hcl, h1, hL, h2, h3⟩, st⟩
  · dsimp only [Pt.U, Pt.locs, Pt.cells, Pt.slots] at X' e1 e2 h1 h2 h3 st
    subst h1; subst h2; subst h3
    exact Or.inl ⟨v, (T.setVm vm₁).calling g' mk As.toArray, t, U', L, hT, X', hL, e1, e2, hq, st⟩
  · dsimp only [Pt.U, Pt.locs, Pt.cells, Pt.slots] at X' e1 e2 h1 h2 h3 st hcl
    subst h1; subst h2; subst h3
    exact Or.inr ⟨q, (T.setVm vm₁).calling g' mk As.toArray, t, U', L, E, ce, hT, X', hL, e1, e2, hq, hce, hcv, vx_cls hW₁ hcl, st⟩
end
end VXH
theorem vx_ofWH {l : Launch} {y : MethodName} {ws ws' : List Cond} {rm : Room} {Pc : Array Value → State → Prop} {Qc : Array Value → State → Outcome → State → Prop} {XC : String → State → State → Prop} {mc ms : Nat} {free : Addr → Prop} {cc : ByteArray} {maxL : Nat} {ret : Option FieldType} {hh : List (Nat × Nat × Nat × Nat)}
    (hy : plainName y.cls = true) (hw : ws = Cond.codeWith y cc maxL ret hh :: ws')
    (body : ∀ p e s m args below meth c s₁, BodyLoose p l y (headSpec ws rm) cc maxL ret e s m args below meth c s₁ → c.maxLocals = maxL → Pc args s →
      W p l e (headSpec ws rm).room s m args below meth c s.heap [] 0 0 (vx_MQ below Qc XC args s mc ms free) (entryFrame m args maxL)) : vx_Met l y ws rm Pc Qc XC mc ms free := by
  refine MetFree.of_bodyS (code := cc) (maxLocals := maxL) (ret := ret) hy ?_ ?_
  · intro args s m h hn
    obtain ⟨m9, meth, c, hn9, h1, h2, h3, h4, -, h5, h6, -⟩ := Cond.codeWith_spec (atoms_spec (ws := ws) h _ (by rw [hw]; exact List.mem_cons_self))
    cases hn.symm.trans hn9
    exact ⟨meth, c, h1, h2, h3, h4, h5, h6⟩
  · intro p e s m args below meth c s₁ B hml hP _
    have hh0 : s₁.heap = s.heap := by rw [B.state]; rfl
    obtain ⟨t, a1, o, b1, b2, b3⟩ := body p e s m args below meth c s₁ B hml hP s₁ hh0 (Stand.of_body B)
    exact ⟨t, o, a1, b1, b2, b3⟩
/-! ===== END ===== -/

/-! ===== BEGIN printed: names, fields, word lists, decode rows ===== -/
def RX0 : String := "BlossomTours$Books"
def TX0 : u_T := fun k => match k with
  | 0 => ("BlossomTours$Books", "coins", "I", false)
  | 1 => ("BlossomTours$Books", "joyInAll", "I", false)
  | _ => ("BlossomTours$Books", "stingsInAll", "I", false)
def tyX0 : Nat → FieldType := fun k => match k with
  | 0 => .int
  | 1 => .int
  | _ => .int
abbrev wsX00 : List Cond := u_ws RX0 TX0 3
theorem nmX0 : ∀ a, a < 3 → ∀ b, b < 3 → a ≠ b → (TX0 a).2.1 ≠ (TX0 b).2.1 := by decide +kernel
theorem tyX0_ok : ∀ k, k < 3 → parseFieldDescriptor (TX0 k).2.2.1 = some (tyX0 k) := by decide +kernel
abbrev cX0_init : ByteArray := prog_2_method_1_code
def yX0_init : MethodName := ⟨RX0, "<init>", "()V"⟩
abbrev cX0_copyFrom : ByteArray := prog_2_method_2_code
def yX0_copyFrom : MethodName := ⟨RX0, "copyFrom", "(LBlossomTours$Books;)V"⟩
def RX1 : String := "BlossomTours$Roads"
def TX1 : u_T := fun k => match k with
  | 0 => ("BlossomTours$Roads", "ways", "[[I", true)
  | _ => ("BlossomTours$Roads", "laid", "I", false)
def tyX1 : Nat → FieldType := fun k => match k with
  | 0 => .array (.array .int)
  | _ => .int
abbrev wsX10 : List Cond := u_ws RX1 TX1 2
theorem nmX1 : ∀ a, a < 2 → ∀ b, b < 2 → a ≠ b → (TX1 a).2.1 ≠ (TX1 b).2.1 := by decide +kernel
theorem tyX1_ok : ∀ k, k < 2 → parseFieldDescriptor (TX1 k).2.2.1 = some (tyX1 k) := by decide +kernel
abbrev cX1_init : ByteArray := prog_3_method_1_code
def yX1_init : MethodName := ⟨RX1, "<init>", "()V"⟩
abbrev cX1_minutesBetween : ByteArray := prog_3_method_2_code
def yX1_minutesBetween : MethodName := ⟨RX1, "minutesBetween", "(II)I"⟩
abbrev cX1_lay : ByteArray := prog_3_method_3_code
def yX1_lay : MethodName := ⟨RX1, "lay", "(III)V"⟩
abbrev cX1_isPlace : ByteArray := prog_3_method_4_code
def yX1_isPlace : MethodName := ⟨RX1, "isPlace", "(I)Z"⟩
def RX2 : String := "BlossomTours$Tour"
def TX2 : u_T := fun k => match k with
  | 0 => ("BlossomTours$Tour", "stops", "[I", true)
  | 1 => ("BlossomTours$Tour", "stopCount", "I", false)
  | 2 => ("BlossomTours$Tour", "tourists", "I", false)
  | _ => ("BlossomTours$Tour", "minutes", "I", false)
def tyX2 : Nat → FieldType := fun k => match k with
  | 0 => .array .int
  | 1 => .int
  | 2 => .int
  | _ => .int
abbrev wsX20 : List Cond := u_ws RX2 TX2 4
theorem nmX2 : ∀ a, a < 4 → ∀ b, b < 4 → a ≠ b → (TX2 a).2.1 ≠ (TX2 b).2.1 := by decide +kernel
theorem tyX2_ok : ∀ k, k < 4 → parseFieldDescriptor (TX2 k).2.2.1 = some (tyX2 k) := by decide +kernel
abbrev cX2_init : ByteArray := prog_4_method_1_code
def yX2_init : MethodName := ⟨RX2, "<init>", "()V"⟩
abbrev cX2_isFull : ByteArray := prog_4_method_2_code
def yX2_isFull : MethodName := ⟨RX2, "isFull", "()Z"⟩
abbrev cX2_visits : ByteArray := prog_4_method_3_code
def yX2_visits : MethodName := ⟨RX2, "visits", "(I)Z"⟩
abbrev cX2_append : ByteArray := prog_4_method_4_code
def yX2_append : MethodName := ⟨RX2, "append", "(I)V"⟩
abbrev cX2_takeLast : ByteArray := prog_4_method_5_code
def yX2_takeLast : MethodName := ⟨RX2, "takeLast", "()I"⟩
abbrev cX2_measure : ByteArray := prog_4_method_6_code
def yX2_measure : MethodName := ⟨RX2, "measure", "(LBlossomTours$Roads;)V"⟩
abbrev cX2_canGo : ByteArray := prog_4_method_7_code
def yX2_canGo : MethodName := ⟨RX2, "canGo", "()Z"⟩
def RX3 : String := "BlossomTours$Valley"
def TX3 : u_T := fun k => match k with
  | 0 => ("BlossomTours$Valley", "from", "I", false)
  | 1 => ("BlossomTours$Valley", "length", "I", false)
  | 2 => ("BlossomTours$Valley", "bees", "I", false)
  | 3 => ("BlossomTours$Valley", "crowd", "I", false)
  | _ => ("BlossomTours$Valley", "visitingTours", "I", false)
def tyX3 : Nat → FieldType := fun k => match k with
  | 0 => .int
  | 1 => .int
  | 2 => .int
  | 3 => .int
  | _ => .int
abbrev wsX30 : List Cond := u_ws RX3 TX3 5
theorem nmX3 : ∀ a, a < 5 → ∀ b, b < 5 → a ≠ b → (TX3 a).2.1 ≠ (TX3 b).2.1 := by decide +kernel
theorem tyX3_ok : ∀ k, k < 5 → parseFieldDescriptor (TX3 k).2.2.1 = some (tyX3 k) := by decide +kernel
abbrev cX3_init : ByteArray := prog_5_method_1_code
def yX3_init : MethodName := ⟨RX3, "<init>", "()V"⟩
abbrev cX3_bloomOn : ByteArray := prog_5_method_2_code
def yX3_bloomOn : MethodName := ⟨RX3, "bloomOn", "(I)I"⟩
def RX4 : String := "BlossomTours"
def TX4 : u_T := fun k => match k with
  | 0 => ("BlossomTours", "valleys", "[LBlossomTours$Valley;", true)
  | 1 => ("BlossomTours", "tours", "[LBlossomTours$Tour;", true)
  | 2 => ("BlossomTours", "heats", "[I", true)
  | 3 => ("BlossomTours", "roads", "LBlossomTours$Roads;", true)
  | 4 => ("BlossomTours", "books", "LBlossomTours$Books;", true)
  | 5 => ("BlossomTours", "draft", "LBlossomTours$Books;", true)
  | 6 => ("BlossomTours", "valleyCount", "I", false)
  | 7 => ("BlossomTours", "tourCount", "I", false)
  | _ => ("BlossomTours", "today", "I", false)
def tyX4 : Nat → FieldType := fun k => match k with
  | 0 => .array (.object "BlossomTours$Valley")
  | 1 => .array (.object "BlossomTours$Tour")
  | 2 => .array .int
  | 3 => .object "BlossomTours$Roads"
  | 4 => .object "BlossomTours$Books"
  | 5 => .object "BlossomTours$Books"
  | 6 => .int
  | 7 => .int
  | _ => .int
abbrev wsX40 : List Cond := u_ws RX4 TX4 9
theorem nmX4 : ∀ a, a < 9 → ∀ b, b < 9 → a ≠ b → (TX4 a).2.1 ≠ (TX4 b).2.1 := by decide +kernel
theorem tyX4_ok : ∀ k, k < 9 → parseFieldDescriptor (TX4 k).2.2.1 = some (tyX4 k) := by decide +kernel
abbrev cX4_init : ByteArray := prog_1_method_1_code
def yX4_init : MethodName := ⟨RX4, "<init>", "()V"⟩
abbrev cX4_valley : ByteArray := prog_1_method_2_code
def yX4_valley : MethodName := ⟨RX4, "valley", "(III)I"⟩
abbrev cX4_road : ByteArray := prog_1_method_3_code
def yX4_road : MethodName := ⟨RX4, "road", "(III)I"⟩
abbrev cX4_setHeat : ByteArray := prog_1_method_4_code
def yX4_setHeat : MethodName := ⟨RX4, "setHeat", "(II)I"⟩
abbrev cX4_bloom : ByteArray := prog_1_method_5_code
def yX4_bloom : MethodName := ⟨RX4, "bloom", "(II)I"⟩
abbrev cX4_way : ByteArray := prog_1_method_6_code
def yX4_way : MethodName := ⟨RX4, "way", "(II)I"⟩
abbrev cX4_tour : ByteArray := prog_1_method_7_code
def yX4_tour : MethodName := ⟨RX4, "tour", "(I)I"⟩
abbrev cX4_add : ByteArray := prog_1_method_8_code
def yX4_add : MethodName := ⟨RX4, "add", "(II)I"⟩
abbrev cX4_cut : ByteArray := prog_1_method_9_code
def yX4_cut : MethodName := ⟨RX4, "cut", "(I)I"⟩
abbrev cX4_told : ByteArray := prog_1_method_10_code
def yX4_told : MethodName := ⟨RX4, "told", "(II)I"⟩
abbrev cX4_about : ByteArray := prog_1_method_11_code
def yX4_about : MethodName := ⟨RX4, "about", "(II)I"⟩
abbrev cX4_count : ByteArray := prog_1_method_12_code
def yX4_count : MethodName := ⟨RX4, "count", "(I)I"⟩
abbrev cX4_pass : ByteArray := prog_1_method_13_code
def yX4_pass : MethodName := ⟨RX4, "pass", "(I)I"⟩
abbrev cX4_joy : ByteArray := prog_1_method_14_code
def yX4_joy : MethodName := ⟨RX4, "joy", "(II)I"⟩
abbrev cX4_best : ByteArray := prog_1_method_15_code
def yX4_best : MethodName := ⟨RX4, "best", "(I)I"⟩
abbrev cX4_advise : ByteArray := prog_1_method_16_code
def yX4_advise : MethodName := ⟨RX4, "advise", "(I)I"⟩
abbrev cX4_foresee : ByteArray := prog_1_method_17_code
def yX4_foresee : MethodName := ⟨RX4, "foresee", "(II)I"⟩
abbrev cX4_mean : ByteArray := prog_1_method_18_code
def yX4_mean : MethodName := ⟨RX4, "mean", "()D"⟩
abbrev cX4_digest : ByteArray := prog_1_method_19_code
def yX4_digest : MethodName := ⟨RX4, "digest", "()J"⟩
abbrev cX4_mixedWithValley : ByteArray := prog_1_method_20_code
def yX4_mixedWithValley : MethodName := ⟨RX4, "mixedWithValley", "(JI)J"⟩
abbrev cX4_mixedWithTour : ByteArray := prog_1_method_21_code
def yX4_mixedWithTour : MethodName := ⟨RX4, "mixedWithTour", "(JI)J"⟩
abbrev cX4_mixed : ByteArray := prog_1_method_22_code
def yX4_mixed : MethodName := ⟨RX4, "mixed", "(JJ)J"⟩
abbrev cX4_isWithin : ByteArray := prog_1_method_23_code
def yX4_isWithin : MethodName := ⟨RX4, "isWithin", "(III)Z"⟩
abbrev cX4_checkValley : ByteArray := prog_1_method_24_code
def yX4_checkValley : MethodName := ⟨RX4, "checkValley", "(I)V"⟩
abbrev cX4_checkTour : ByteArray := prog_1_method_25_code
def yX4_checkTour : MethodName := ⟨RX4, "checkTour", "(I)V"⟩
abbrev cX4_checkDay : ByteArray := prog_1_method_26_code
def yX4_checkDay : MethodName := ⟨RX4, "checkDay", "(I)V"⟩
abbrev cX4_checkSpan : ByteArray := prog_1_method_27_code
def yX4_checkSpan : MethodName := ⟨RX4, "checkSpan", "(I)V"⟩
abbrev cX4_reckonCrowds : ByteArray := prog_1_method_28_code
def yX4_reckonCrowds : MethodName := ⟨RX4, "reckonCrowds", "()V"⟩
abbrev cX4_joinCrowds : ByteArray := prog_1_method_29_code
def yX4_joinCrowds : MethodName := ⟨RX4, "joinCrowds", "(LBlossomTours$Tour;)V"⟩
abbrev cX4_joyOn : ByteArray := prog_1_method_30_code
def yX4_joyOn : MethodName := ⟨RX4, "joyOn", "(LBlossomTours$Tour;I)I"⟩
abbrev cX4_stingsOn : ByteArray := prog_1_method_31_code
def yX4_stingsOn : MethodName := ⟨RX4, "stingsOn", "(LBlossomTours$Tour;I)I"⟩
abbrev cX4_joyWithStopAdded : ByteArray := prog_1_method_32_code
def yX4_joyWithStopAdded : MethodName := ⟨RX4, "joyWithStopAdded", "(LBlossomTours$Tour;I)I"⟩
abbrev cX4_enterDays : ByteArray := prog_1_method_33_code
def yX4_enterDays : MethodName := ⟨RX4, "enterDays", "(LBlossomTours$Books;I)V"⟩
abbrev cX4_enterDay : ByteArray := prog_1_method_34_code
def yX4_enterDay : MethodName := ⟨RX4, "enterDay", "(LBlossomTours$Books;I)V"⟩
abbrev cX4_toursThatCanGo : ByteArray := prog_1_method_35_code
def yX4_toursThatCanGo : MethodName := ⟨RX4, "toursThatCanGo", "()I"⟩
abbrev cX4_valleysInBloomOn : ByteArray := prog_1_method_36_code
def yX4_valleysInBloomOn : MethodName := ⟨RX4, "valleysInBloomOn", "(I)I"⟩
def RX5 : String := "BlossomToursModel"
def TX5 : u_T := fun k => match k with
  | 0 => ("BlossomToursModel", "thrown", "I", false)
  | 1 => ("BlossomToursModel", "valleys", "I", false)
  | 2 => ("BlossomToursModel", "from", "[I", true)
  | 3 => ("BlossomToursModel", "length", "[I", true)
  | 4 => ("BlossomToursModel", "bees", "[I", true)
  | 5 => ("BlossomToursModel", "roads", "I", false)
  | 6 => ("BlossomToursModel", "ways", "[I", true)
  | 7 => ("BlossomToursModel", "heat", "[I", true)
  | 8 => ("BlossomToursModel", "tours", "I", false)
  | 9 => ("BlossomToursModel", "tourists", "[I", true)
  | 10 => ("BlossomToursModel", "many", "[I", true)
  | 11 => ("BlossomToursModel", "list", "[I", true)
  | _ => ("BlossomToursModel", "numbers", "[I", true)
def tyX5 : Nat → FieldType := fun k => match k with
  | 0 => .int
  | 1 => .int
  | 2 => .array .int
  | 3 => .array .int
  | 4 => .array .int
  | 5 => .int
  | 6 => .array .int
  | 7 => .array .int
  | 8 => .int
  | 9 => .array .int
  | 10 => .array .int
  | 11 => .array .int
  | _ => .array .int
abbrev wsX50 : List Cond := u_ws RX5 TX5 13
theorem nmX5 : ∀ a, a < 13 → ∀ b, b < 13 → a ≠ b → (TX5 a).2.1 ≠ (TX5 b).2.1 := by decide +kernel
theorem tyX5_ok : ∀ k, k < 13 → parseFieldDescriptor (TX5 k).2.2.1 = some (tyX5 k) := by decide +kernel
abbrev cX5_init : ByteArray := prog_7_method_1_code
def yX5_init : MethodName := ⟨RX5, "<init>", "()V"⟩
abbrev cX5_thrown : ByteArray := prog_7_method_2_code
def yX5_thrown : MethodName := ⟨RX5, "thrown", "()I"⟩
abbrev cX5_no : ByteArray := prog_7_method_3_code
def yX5_no : MethodName := ⟨RX5, "no", "(I)I"⟩
abbrev cX5_isIn : ByteArray := prog_7_method_4_code
def yX5_isIn : MethodName := ⟨RX5, "isIn", "(III)Z"⟩
abbrev cX5_isValley : ByteArray := prog_7_method_5_code
def yX5_isValley : MethodName := ⟨RX5, "isValley", "(I)Z"⟩
abbrev cX5_isTour : ByteArray := prog_7_method_6_code
def yX5_isTour : MethodName := ⟨RX5, "isTour", "(I)Z"⟩
abbrev cX5_valley : ByteArray := prog_7_method_7_code
def yX5_valley : MethodName := ⟨RX5, "valley", "(III)I"⟩
abbrev cX5_shorten : ByteArray := prog_7_method_8_code
def yX5_shorten : MethodName := ⟨RX5, "shorten", "(III)V"⟩
abbrev cX5_road : ByteArray := prog_7_method_9_code
def yX5_road : MethodName := ⟨RX5, "road", "(III)I"⟩
abbrev cX5_setHeat : ByteArray := prog_7_method_10_code
def yX5_setHeat : MethodName := ⟨RX5, "setHeat", "(II)I"⟩
abbrev cX5_blooms : ByteArray := prog_7_method_11_code
def yX5_blooms : MethodName := ⟨RX5, "blooms", "(II)I"⟩
abbrev cX5_bloom : ByteArray := prog_7_method_12_code
def yX5_bloom : MethodName := ⟨RX5, "bloom", "(II)I"⟩
abbrev cX5_way : ByteArray := prog_7_method_13_code
def yX5_way : MethodName := ⟨RX5, "way", "(II)I"⟩
abbrev cX5_at : ByteArray := prog_7_method_14_code
def yX5_at : MethodName := ⟨RX5, "at", "(II)I"⟩
abbrev cX5_has : ByteArray := prog_7_method_15_code
def yX5_has : MethodName := ⟨RX5, "has", "(II)Z"⟩
abbrev cX5_minutes : ByteArray := prog_7_method_16_code
def yX5_minutes : MethodName := ⟨RX5, "minutes", "(I)I"⟩
abbrev cX5_goes : ByteArray := prog_7_method_17_code
def yX5_goes : MethodName := ⟨RX5, "goes", "(I)Z"⟩
abbrev cX5_crowd : ByteArray := prog_7_method_18_code
def yX5_crowd : MethodName := ⟨RX5, "crowd", "(I)I"⟩
abbrev cX5_joyOf : ByteArray := prog_7_method_19_code
def yX5_joyOf : MethodName := ⟨RX5, "joyOf", "(II)I"⟩
abbrev cX5_stingsOf : ByteArray := prog_7_method_20_code
def yX5_stingsOf : MethodName := ⟨RX5, "stingsOf", "(II)I"⟩
abbrev cX5_tour : ByteArray := prog_7_method_21_code
def yX5_tour : MethodName := ⟨RX5, "tour", "(I)I"⟩
abbrev cX5_add : ByteArray := prog_7_method_22_code
def yX5_add : MethodName := ⟨RX5, "add", "(II)I"⟩
abbrev cX5_cut : ByteArray := prog_7_method_23_code
def yX5_cut : MethodName := ⟨RX5, "cut", "(I)I"⟩
abbrev cX5_tourTold : ByteArray := prog_7_method_24_code
def yX5_tourTold : MethodName := ⟨RX5, "tourTold", "(II)I"⟩
abbrev cX5_told : ByteArray := prog_7_method_25_code
def yX5_told : MethodName := ⟨RX5, "told", "(II)I"⟩
abbrev cX5_valleyTold : ByteArray := prog_7_method_26_code
def yX5_valleyTold : MethodName := ⟨RX5, "valleyTold", "(II)I"⟩
abbrev cX5_about : ByteArray := prog_7_method_27_code
def yX5_about : MethodName := ⟨RX5, "about", "(II)I"⟩
abbrev cX5_counted : ByteArray := prog_7_method_28_code
def yX5_counted : MethodName := ⟨RX5, "counted", "([II)I"⟩
abbrev cX5_count : ByteArray := prog_7_method_29_code
def yX5_count : MethodName := ⟨RX5, "count", "(I)I"⟩
abbrev cX5_pass : ByteArray := prog_7_method_30_code
def yX5_pass : MethodName := ⟨RX5, "pass", "([I)V"⟩
abbrev cX5_pass_ : ByteArray := prog_7_method_31_code
def yX5_pass_ : MethodName := ⟨RX5, "pass", "(I)I"⟩
abbrev cX5_joy : ByteArray := prog_7_method_32_code
def yX5_joy : MethodName := ⟨RX5, "joy", "(II)I"⟩
abbrev cX5_best : ByteArray := prog_7_method_33_code
def yX5_best : MethodName := ⟨RX5, "best", "(I)I"⟩
abbrev cX5_advise : ByteArray := prog_7_method_34_code
def yX5_advise : MethodName := ⟨RX5, "advise", "(I)I"⟩
abbrev cX5_foresee : ByteArray := prog_7_method_35_code
def yX5_foresee : MethodName := ⟨RX5, "foresee", "(II)I"⟩
abbrev cX5_mean : ByteArray := prog_7_method_36_code
def yX5_mean : MethodName := ⟨RX5, "mean", "()D"⟩
abbrev cX5_digest : ByteArray := prog_7_method_37_code
def yX5_digest : MethodName := ⟨RX5, "digest", "()J"⟩
def RJx8e188 : String := "java/lang/Cloneable"
def TJx8e188 : u_T := fun k => match k with
  | _ => ("", "", "", false)
def tyJx8e188 : Nat → FieldType := fun k => match k with
  | _ => .int
abbrev wsJx8e1880 : List Cond := u_ws RJx8e188 TJx8e188 0
theorem nmJx8e188 : ∀ a, a < 0 → ∀ b, b < 0 → a ≠ b → (TJx8e188 a).2.1 ≠ (TJx8e188 b).2.1 := by decide +kernel
theorem tyJx8e188_ok : ∀ k, k < 0 → parseFieldDescriptor (TJx8e188 k).2.2.1 = some (tyJx8e188 k) := by decide +kernel
def RJ9 : String := "java/lang/Math"
def TJ9 : u_T := fun k => match k with
  | _ => ("", "", "", false)
def tyJ9 : Nat → FieldType := fun k => match k with
  | _ => .int
abbrev wsJ90 : List Cond := u_ws RJ9 TJ9 0
theorem nmJ9 : ∀ a, a < 0 → ∀ b, b < 0 → a ≠ b → (TJ9 a).2.1 ≠ (TJ9 b).2.1 := by decide +kernel
theorem tyJ9_ok : ∀ k, k < 0 → parseFieldDescriptor (TJ9 k).2.2.1 = some (tyJ9 k) := by decide +kernel
abbrev cJ9_floorMod_7cf53 : ByteArray := prog_13_method_50_code
def yJ9_floorMod_7cf53 : MethodName := ⟨RJ9, "floorMod", "(II)I"⟩
abbrev cJ9_max_7cf53 : ByteArray := prog_13_method_65_code
def yJ9_max_7cf53 : MethodName := ⟨RJ9, "max", "(II)I"⟩
abbrev cJ9_min_7cf53 : ByteArray := prog_13_method_69_code
def yJ9_min_7cf53 : MethodName := ⟨RJ9, "min", "(II)I"⟩
def RJ0 : String := "java/lang/String"
def TJ0 : u_T := fun k => match k with
  | _ => ("", "", "", false)
def tyJ0 : Nat → FieldType := fun k => match k with
  | _ => .int
abbrev wsJ00 : List Cond := u_ws RJ0 TJ0 0
theorem nmJ0 : ∀ a, a < 0 → ∀ b, b < 0 → a ≠ b → (TJ0 a).2.1 ≠ (TJ0 b).2.1 := by decide +kernel
theorem tyJ0_ok : ∀ k, k < 0 → parseFieldDescriptor (TJ0 k).2.2.1 = some (tyJ0 k) := by decide +kernel
def RL : String := "BlossomToursLaw"
abbrev cL_valley : ByteArray := method_3_code
def yL_valley : MethodName := ⟨RL, "valley", "(LBlossomTours;III[J)I"⟩
abbrev cL_road : ByteArray := method_4_code
def yL_road : MethodName := ⟨RL, "road", "(LBlossomTours;III[J)I"⟩
abbrev cL_setHeat : ByteArray := method_5_code
def yL_setHeat : MethodName := ⟨RL, "setHeat", "(LBlossomTours;II[J)I"⟩
abbrev cL_bloom : ByteArray := method_6_code
def yL_bloom : MethodName := ⟨RL, "bloom", "(LBlossomTours;II[J)I"⟩
abbrev cL_way : ByteArray := method_7_code
def yL_way : MethodName := ⟨RL, "way", "(LBlossomTours;II[J)I"⟩
abbrev cL_tour : ByteArray := method_8_code
def yL_tour : MethodName := ⟨RL, "tour", "(LBlossomTours;I[J)I"⟩
abbrev cL_add : ByteArray := method_9_code
def yL_add : MethodName := ⟨RL, "add", "(LBlossomTours;II[J)I"⟩
abbrev cL_cut : ByteArray := method_10_code
def yL_cut : MethodName := ⟨RL, "cut", "(LBlossomTours;I[J)I"⟩
abbrev cL_told : ByteArray := method_11_code
def yL_told : MethodName := ⟨RL, "told", "(LBlossomTours;II[J)I"⟩
abbrev cL_about : ByteArray := method_12_code
def yL_about : MethodName := ⟨RL, "about", "(LBlossomTours;II[J)I"⟩
abbrev cL_count : ByteArray := method_13_code
def yL_count : MethodName := ⟨RL, "count", "(LBlossomTours;I[J)I"⟩
abbrev cL_pass : ByteArray := method_14_code
def yL_pass : MethodName := ⟨RL, "pass", "(LBlossomTours;I[J)I"⟩
abbrev cL_joy : ByteArray := method_15_code
def yL_joy : MethodName := ⟨RL, "joy", "(LBlossomTours;II[J)I"⟩
abbrev cL_best : ByteArray := method_16_code
def yL_best : MethodName := ⟨RL, "best", "(LBlossomTours;I[J)I"⟩
abbrev cL_advise : ByteArray := method_17_code
def yL_advise : MethodName := ⟨RL, "advise", "(LBlossomTours;I[J)I"⟩
abbrev cL_foresee : ByteArray := method_18_code
def yL_foresee : MethodName := ⟨RL, "foresee", "(LBlossomTours;II[J)I"⟩
abbrev cL_law : ByteArray := code
def yL_law : MethodName := ⟨RL, "law", "([I)Z"⟩
def wsX0_init : List Cond := .code yX0_init cX0_init 1 none :: ([.methodLink RX0 1 objectInit, .instanceMethod objectInit, .code objectInit ⟨#[0xb1]⟩ 1 none])
def wsX0_copyFrom : List Cond := .code yX0_copyFrom cX0_copyFrom 2 none :: ([.fieldLink RX0 7 "BlossomTours$Books" "coins" "I", .fieldLink RX0 13 "BlossomTours$Books" "joyInAll" "I", .fieldLink RX0 16 "BlossomTours$Books" "stingsInAll" "I"] ++ wsX00)
def wsX1_init : List Cond := .code yX1_init cX1_init 3 none :: ([.methodLink RX1 3 objectInit, .instanceMethod objectInit, .code objectInit ⟨#[0xb1]⟩ 1 none, .classLink RX1 9 "[[I", .arrayClass .int, .fieldLink RX1 11 "BlossomTours$Roads" "ways" "[[I", .constant RX1 16 (1000000)] ++ wsX10)
def wsX4_isWithin : List Cond := .code yX4_isWithin cX4_isWithin 3 (some .boolean) :: ([])
def wsX1_isPlace : List Cond := .code yX1_isPlace cX1_isPlace 1 (some .boolean) :: ([.static yX4_isWithin, .initialized RX4, .code yX4_isWithin cX4_isWithin 3 (some .boolean)])
def wsX1_minutesBetween : List Cond := .code yX1_minutesBetween cX1_minutesBetween 3 (some .int) :: ([.fieldLink RX1 11 "BlossomTours$Roads" "ways" "[[I", .constant RX1 16 (1000000), .methodLink RX1 17 yX1_isPlace, .static yX1_isPlace, .initialized RX1, .code yX1_isPlace cX1_isPlace 1 (some .boolean), .static yX4_isWithin, .initialized RX4, .code yX4_isWithin cX4_isWithin 3 (some .boolean)] ++ wsX10)
def wsX1_lay : List Cond := .code yX1_lay cX1_lay 8 none :: ([.fieldLink RX1 11 "BlossomTours$Roads" "ways" "[[I", .methodLink RX1 21 Lib.Math.min.name, .static Lib.Math.min.name, .initialized "java/lang/Math", .code Lib.Math.min.name Lib.Math.min.code 2 (some .int), .fieldLink RX1 27 "BlossomTours$Roads" "laid" "I", .methodLink RX1 17 yX1_isPlace, .static yX1_isPlace, .initialized RX1, .code yX1_isPlace cX1_isPlace 1 (some .boolean), .static yX4_isWithin, .initialized RX4, .code yX4_isWithin cX4_isWithin 3 (some .boolean)] ++ wsX10)
def wsX2_init : List Cond := .code yX2_init cX2_init 1 none :: ([.methodLink RX2 3 objectInit, .instanceMethod objectInit, .code objectInit ⟨#[0xb1]⟩ 1 none, .arrayClass .int, .fieldLink RX2 9 "BlossomTours$Tour" "stops" "[I"] ++ wsX20)
def wsX2_isFull : List Cond := .code yX2_isFull cX2_isFull 1 (some .boolean) :: ([.fieldLink RX2 15 "BlossomTours$Tour" "stopCount" "I", .fieldLink RX2 9 "BlossomTours$Tour" "stops" "[I"] ++ wsX20)
def wsX2_visits : List Cond := .code yX2_visits cX2_visits 3 (some .boolean) :: ([.fieldLink RX2 15 "BlossomTours$Tour" "stopCount" "I", .fieldLink RX2 9 "BlossomTours$Tour" "stops" "[I"] ++ wsX20)
def wsX2_append : List Cond := .code yX2_append cX2_append 2 none :: ([.fieldLink RX2 9 "BlossomTours$Tour" "stops" "[I", .fieldLink RX2 15 "BlossomTours$Tour" "stopCount" "I", .methodLink RX2 19 yX2_isFull, .instanceMethod yX2_isFull, .selects RX2 yX2_isFull yX2_isFull, .initialized RX2, .code yX2_isFull cX2_isFull 1 (some .boolean)] ++ wsX20)
def wsX2_takeLast : List Cond := .code yX2_takeLast cX2_takeLast 1 (some .int) :: ([.fieldLink RX2 15 "BlossomTours$Tour" "stopCount" "I", .fieldLink RX2 9 "BlossomTours$Tour" "stops" "[I"] ++ wsX20)
def wsX2_measure : List Cond := .code yX2_measure cX2_measure 5 none :: ([.fieldLink RX2 15 "BlossomTours$Tour" "stopCount" "I", .fieldLink RX2 9 "BlossomTours$Tour" "stops" "[I", .fieldLink RX2 29 "BlossomTours$Tour" "minutes" "I", .instanceMethod yX1_minutesBetween, .initialized RX1, .selects RX1 yX1_minutesBetween yX1_minutesBetween, .code yX1_minutesBetween cX1_minutesBetween 3 (some .int), .fieldLink RX1 11 "BlossomTours$Roads" "ways" "[[I", .constant RX1 16 (1000000), .methodLink RX1 17 yX1_isPlace, .static yX1_isPlace, .code yX1_isPlace cX1_isPlace 1 (some .boolean), .static yX4_isWithin, .initialized RX4, .code yX4_isWithin cX4_isWithin 3 (some .boolean)] ++ wsX20 ++ wsX10)
def wsX2_canGo : List Cond := .code yX2_canGo cX2_canGo 1 (some .boolean) :: ([.fieldLink RX2 15 "BlossomTours$Tour" "stopCount" "I", .fieldLink RX2 29 "BlossomTours$Tour" "minutes" "I", .static yX4_isWithin, .initialized RX4, .code yX4_isWithin cX4_isWithin 3 (some .boolean)] ++ wsX20)
def wsX3_init : List Cond := .code yX3_init cX3_init 1 none :: ([.methodLink RX3 1 objectInit, .instanceMethod objectInit, .code objectInit ⟨#[0xb1]⟩ 1 none])
def wsX3_bloomOn : List Cond := .code yX3_bloomOn cX3_bloomOn 5 (some .int) :: ([.fieldLink RX3 7 "BlossomTours$Valley" "from" "I", .fieldLink RX3 13 "BlossomTours$Valley" "length" "I", .methodLink RX3 16 Lib.Math.min.name, .static Lib.Math.min.name, .initialized "java/lang/Math", .code Lib.Math.min.name Lib.Math.min.code 2 (some .int)] ++ wsX30)
def wsX4_init_r1 : List Cond := [Cond.methodLink RX4 1 objectInit, Cond.instanceMethod objectInit, Cond.code objectInit ⟨#[0xb1]⟩ 1 none, Cond.classLink RX4 9 RX3, Cond.fieldLink RX4 11 "BlossomTours" "valleys" "[LBlossomTours$Valley;", Cond.classLink RX4 15 RX2, Cond.fieldLink RX4 17 "BlossomTours" "tours" "[LBlossomTours$Tour;", Cond.arrayClass .int, Cond.fieldLink RX4 21 "BlossomTours" "heats" "[I", Cond.classLink RX4 25 RX1, Cond.instantiable RX1 2, Cond.initialized RX1, Cond.fieldLink RX4 28 "BlossomTours" "roads" "LBlossomTours$Roads;", Cond.classLink RX4 32 RX0, Cond.instantiable RX0 3, Cond.initialized RX0, Cond.fieldLink RX4 35 "BlossomTours" "books" "LBlossomTours$Books;", Cond.fieldLink RX4 39 "BlossomTours" "draft" "LBlossomTours$Books;", Cond.instantiable RX3 5, Cond.initialized RX3, Cond.instantiable RX2 4, Cond.initialized RX2, Cond.instanceMethod yX1_init, Cond.code yX1_init cX1_init 3 none]
def wsX4_init_r2 : List Cond := [Cond.methodLink RX1 3 objectInit, Cond.classLink RX1 9 "[[I", Cond.fieldLink RX1 11 "BlossomTours$Roads" "ways" "[[I", Cond.constant RX1 16 (1000000), Cond.instanceMethod yX0_init, Cond.code yX0_init cX0_init 1 none, Cond.methodLink RX0 1 objectInit, Cond.instanceMethod yX3_init, Cond.code yX3_init cX3_init 1 none, Cond.methodLink RX3 1 objectInit, Cond.instanceMethod yX2_init, Cond.code yX2_init cX2_init 1 none, Cond.methodLink RX2 3 objectInit, Cond.fieldLink RX2 9 "BlossomTours$Tour" "stops" "[I"]
def wsX4_init : List Cond := .code yX4_init cX4_init 2 none :: ((wsX4_init_r1 ++ wsX4_init_r2) ++ wsX40 ++ wsX10 ++ wsX00 ++ wsX30 ++ wsX20)
def wsX4_valley : List Cond := .code yX4_valley cX4_valley 5 (some .int) :: ([.classLink RX4 48 "java/lang/IllegalArgumentException", .initialized "java/lang/IllegalArgumentException", .classLink RX4 63 "java/lang/IllegalStateException", .initialized "java/lang/IllegalStateException", .fieldLink RX4 59 "BlossomTours" "valleyCount" "I", .fieldLink RX4 11 "BlossomTours" "valleys" "[LBlossomTours$Valley;", .methodLink RX4 44 yX4_isWithin, .static yX4_isWithin, .initialized RX4, .code yX4_isWithin cX4_isWithin 3 (some .boolean)] ++ wsX40 ++ wsX30 ++ (vx_atS RX4 52 "java/lang/IllegalArgumentException" ["java/lang/RuntimeException", "java/lang/Exception"]).filter goodWord ++ (vx_atS RX4 67 "java/lang/IllegalStateException" ["java/lang/RuntimeException", "java/lang/Exception"]).filter goodWord)
def wsX4_checkValley : List Cond := .code yX4_checkValley cX4_checkValley 2 none :: ([.classLink RX4 97 "java/lang/IndexOutOfBoundsException", .initialized "java/lang/IndexOutOfBoundsException", .fieldLink RX4 59 "BlossomTours" "valleyCount" "I"] ++ wsX40 ++ (vx_atS RX4 101 "java/lang/IndexOutOfBoundsException" ["java/lang/RuntimeException", "java/lang/Exception"]).filter goodWord)
def wsX4_joinCrowds : List Cond := .code yX4_joinCrowds cX4_joinCrowds 3 none :: ([.fieldLink RX4 59 "BlossomTours" "valleyCount" "I", .fieldLink RX4 11 "BlossomTours" "valleys" "[LBlossomTours$Valley;", .instanceMethod yX2_visits, .initialized RX2, .selects RX2 yX2_visits yX2_visits, .code yX2_visits cX2_visits 3 (some .boolean), .fieldLink RX2 15 "BlossomTours$Tour" "stopCount" "I", .fieldLink RX2 9 "BlossomTours$Tour" "stops" "[I"] ++ wsX40 ++ wsX30 ++ wsX20)
def wsX4_reckonCrowds_r1 : List Cond := [Cond.fieldLink RX4 59 "BlossomTours" "valleyCount" "I", Cond.fieldLink RX4 11 "BlossomTours" "valleys" "[LBlossomTours$Valley;", Cond.fieldLink RX4 117 "BlossomTours" "tourCount" "I", Cond.fieldLink RX4 17 "BlossomTours" "tours" "[LBlossomTours$Tour;", Cond.fieldLink RX4 28 "BlossomTours" "roads" "LBlossomTours$Roads;", Cond.instanceMethod yX2_measure, Cond.initialized RX2, Cond.selects RX2 yX2_measure yX2_measure, Cond.code yX2_measure cX2_measure 5 none, Cond.fieldLink RX2 15 "BlossomTours$Tour" "stopCount" "I", Cond.fieldLink RX2 9 "BlossomTours$Tour" "stops" "[I", Cond.fieldLink RX2 29 "BlossomTours$Tour" "minutes" "I", Cond.instanceMethod yX1_minutesBetween, Cond.initialized RX1, Cond.selects RX1 yX1_minutesBetween yX1_minutesBetween, Cond.code yX1_minutesBetween cX1_minutesBetween 3 (some .int), Cond.fieldLink RX1 11 "BlossomTours$Roads" "ways" "[[I", Cond.constant RX1 16 (1000000), Cond.methodLink RX1 17 yX1_isPlace, Cond.static yX1_isPlace, Cond.code yX1_isPlace cX1_isPlace 1 (some .boolean), Cond.static yX4_isWithin, Cond.initialized RX4, Cond.code yX4_isWithin cX4_isWithin 3 (some .boolean)]
def wsX4_reckonCrowds_r2 : List Cond := [Cond.instanceMethod yX2_canGo, Cond.selects RX2 yX2_canGo yX2_canGo, Cond.code yX2_canGo cX2_canGo 1 (some .boolean), Cond.methodLink RX4 248 yX4_joinCrowds, Cond.instanceMethod yX4_joinCrowds, Cond.selects RX4 yX4_joinCrowds yX4_joinCrowds, Cond.code yX4_joinCrowds cX4_joinCrowds 3 none, Cond.instanceMethod yX2_visits, Cond.selects RX2 yX2_visits yX2_visits, Cond.code yX2_visits cX2_visits 3 (some .boolean)]
def wsX4_reckonCrowds : List Cond := .code yX4_reckonCrowds cX4_reckonCrowds 2 none :: ((wsX4_reckonCrowds_r1 ++ wsX4_reckonCrowds_r2) ++ wsX40 ++ wsX30 ++ wsX20 ++ wsX10)
def wsX4_road_r1 : List Cond := [Cond.classLink RX4 48 "java/lang/IllegalArgumentException", Cond.initialized "java/lang/IllegalArgumentException", Cond.classLink RX4 63 "java/lang/IllegalStateException", Cond.initialized "java/lang/IllegalStateException", Cond.fieldLink RX4 28 "BlossomTours" "roads" "LBlossomTours$Roads;", Cond.methodLink RX4 77 yX4_checkValley, Cond.instanceMethod yX4_checkValley, Cond.selects RX4 yX4_checkValley yX4_checkValley, Cond.initialized RX4, Cond.code yX4_checkValley cX4_checkValley 2 none, Cond.classLink RX4 97 "java/lang/IndexOutOfBoundsException", Cond.initialized "java/lang/IndexOutOfBoundsException", Cond.fieldLink RX4 59 "BlossomTours" "valleyCount" "I", Cond.methodLink RX4 44 yX4_isWithin, Cond.static yX4_isWithin, Cond.code yX4_isWithin cX4_isWithin 3 (some .boolean), Cond.instanceMethod yX1_lay, Cond.initialized RX1, Cond.selects RX1 yX1_lay yX1_lay, Cond.code yX1_lay cX1_lay 8 none, Cond.fieldLink RX1 11 "BlossomTours$Roads" "ways" "[[I", Cond.methodLink RX1 21 Lib.Math.min.name, Cond.static Lib.Math.min.name, Cond.initialized "java/lang/Math"]
def wsX4_road_r2 : List Cond := [Cond.code Lib.Math.min.name Lib.Math.min.code 2 (some .int), Cond.fieldLink RX1 27 "BlossomTours$Roads" "laid" "I", Cond.methodLink RX1 17 yX1_isPlace, Cond.static yX1_isPlace, Cond.code yX1_isPlace cX1_isPlace 1 (some .boolean), Cond.methodLink RX4 94 yX4_reckonCrowds, Cond.instanceMethod yX4_reckonCrowds, Cond.selects RX4 yX4_reckonCrowds yX4_reckonCrowds, Cond.code yX4_reckonCrowds cX4_reckonCrowds 2 none, Cond.fieldLink RX4 11 "BlossomTours" "valleys" "[LBlossomTours$Valley;", Cond.fieldLink RX4 117 "BlossomTours" "tourCount" "I", Cond.fieldLink RX4 17 "BlossomTours" "tours" "[LBlossomTours$Tour;", Cond.instanceMethod yX2_measure, Cond.initialized RX2, Cond.selects RX2 yX2_measure yX2_measure, Cond.code yX2_measure cX2_measure 5 none, Cond.fieldLink RX2 15 "BlossomTours$Tour" "stopCount" "I", Cond.fieldLink RX2 9 "BlossomTours$Tour" "stops" "[I", Cond.fieldLink RX2 29 "BlossomTours$Tour" "minutes" "I", Cond.instanceMethod yX1_minutesBetween, Cond.selects RX1 yX1_minutesBetween yX1_minutesBetween, Cond.code yX1_minutesBetween cX1_minutesBetween 3 (some .int), Cond.constant RX1 16 (1000000), Cond.instanceMethod yX2_canGo]
def wsX4_road_r3 : List Cond := [Cond.selects RX2 yX2_canGo yX2_canGo, Cond.code yX2_canGo cX2_canGo 1 (some .boolean), Cond.methodLink RX4 248 yX4_joinCrowds, Cond.instanceMethod yX4_joinCrowds, Cond.selects RX4 yX4_joinCrowds yX4_joinCrowds, Cond.code yX4_joinCrowds cX4_joinCrowds 3 none, Cond.instanceMethod yX2_visits, Cond.selects RX2 yX2_visits yX2_visits, Cond.code yX2_visits cX2_visits 3 (some .boolean)]
def wsX4_road : List Cond := .code yX4_road cX4_road 4 (some .int) :: ((wsX4_road_r1 ++ (wsX4_road_r2 ++ wsX4_road_r3)) ++ wsX40 ++ wsX10 ++ wsX30 ++ wsX20 ++ (vx_atS RX4 52 "java/lang/IllegalArgumentException" ["java/lang/RuntimeException", "java/lang/Exception"]).filter goodWord ++ (vx_atS RX4 67 "java/lang/IllegalStateException" ["java/lang/RuntimeException", "java/lang/Exception"]).filter goodWord ++ (vx_atS RX4 101 "java/lang/IndexOutOfBoundsException" ["java/lang/RuntimeException", "java/lang/Exception"]).filter goodWord)
def wsX4_setHeat : List Cond := .code yX4_setHeat cX4_setHeat 4 (some .int) :: ([.classLink RX4 97 "java/lang/IndexOutOfBoundsException", .initialized "java/lang/IndexOutOfBoundsException", .classLink RX4 48 "java/lang/IllegalArgumentException", .initialized "java/lang/IllegalArgumentException", .fieldLink RX4 21 "BlossomTours" "heats" "[I", .methodLink RX4 44 yX4_isWithin, .static yX4_isWithin, .initialized RX4, .code yX4_isWithin cX4_isWithin 3 (some .boolean)] ++ wsX40 ++ (vx_atS RX4 101 "java/lang/IndexOutOfBoundsException" ["java/lang/RuntimeException", "java/lang/Exception"]).filter goodWord ++ (vx_atS RX4 52 "java/lang/IllegalArgumentException" ["java/lang/RuntimeException", "java/lang/Exception"]).filter goodWord)
def wsX4_checkDay : List Cond := .code yX4_checkDay cX4_checkDay 1 none :: ([.classLink RX4 48 "java/lang/IllegalArgumentException", .initialized "java/lang/IllegalArgumentException"] ++ (vx_atS RX4 52 "java/lang/IllegalArgumentException" ["java/lang/RuntimeException", "java/lang/Exception"]).filter goodWord)
def wsX4_bloom : List Cond := .code yX4_bloom cX4_bloom 3 (some .int) :: ([.fieldLink RX4 11 "BlossomTours" "valleys" "[LBlossomTours$Valley;", .methodLink RX4 77 yX4_checkValley, .instanceMethod yX4_checkValley, .selects RX4 yX4_checkValley yX4_checkValley, .initialized RX4, .code yX4_checkValley cX4_checkValley 2 none, .classLink RX4 97 "java/lang/IndexOutOfBoundsException", .initialized "java/lang/IndexOutOfBoundsException", .fieldLink RX4 59 "BlossomTours" "valleyCount" "I", .methodLink RX4 104 yX4_checkDay, .static yX4_checkDay, .code yX4_checkDay cX4_checkDay 1 none, .classLink RX4 48 "java/lang/IllegalArgumentException", .initialized "java/lang/IllegalArgumentException", .instanceMethod yX3_bloomOn, .initialized RX3, .selects RX3 yX3_bloomOn yX3_bloomOn, .code yX3_bloomOn cX3_bloomOn 5 (some .int), .fieldLink RX3 7 "BlossomTours$Valley" "from" "I", .fieldLink RX3 13 "BlossomTours$Valley" "length" "I", .methodLink RX3 16 Lib.Math.min.name, .static Lib.Math.min.name, .initialized "java/lang/Math", .code Lib.Math.min.name Lib.Math.min.code 2 (some .int)] ++ wsX40 ++ wsX30 ++ (vx_atS RX4 101 "java/lang/IndexOutOfBoundsException" ["java/lang/RuntimeException", "java/lang/Exception"]).filter goodWord ++ (vx_atS RX4 52 "java/lang/IllegalArgumentException" ["java/lang/RuntimeException", "java/lang/Exception"]).filter goodWord)
def wsX4_way : List Cond := .code yX4_way cX4_way 3 (some .int) :: ([.fieldLink RX4 28 "BlossomTours" "roads" "LBlossomTours$Roads;", .methodLink RX4 77 yX4_checkValley, .instanceMethod yX4_checkValley, .selects RX4 yX4_checkValley yX4_checkValley, .initialized RX4, .code yX4_checkValley cX4_checkValley 2 none, .classLink RX4 97 "java/lang/IndexOutOfBoundsException", .initialized "java/lang/IndexOutOfBoundsException", .fieldLink RX4 59 "BlossomTours" "valleyCount" "I", .instanceMethod yX1_minutesBetween, .initialized RX1, .selects RX1 yX1_minutesBetween yX1_minutesBetween, .code yX1_minutesBetween cX1_minutesBetween 3 (some .int), .fieldLink RX1 11 "BlossomTours$Roads" "ways" "[[I", .constant RX1 16 (1000000), .methodLink RX1 17 yX1_isPlace, .static yX1_isPlace, .code yX1_isPlace cX1_isPlace 1 (some .boolean), .static yX4_isWithin, .code yX4_isWithin cX4_isWithin 3 (some .boolean)] ++ wsX40 ++ wsX10 ++ (vx_atS RX4 101 "java/lang/IndexOutOfBoundsException" ["java/lang/RuntimeException", "java/lang/Exception"]).filter goodWord)
def wsX4_tour : List Cond := .code yX4_tour cX4_tour 2 (some .int) :: ([.classLink RX4 48 "java/lang/IllegalArgumentException", .initialized "java/lang/IllegalArgumentException", .classLink RX4 63 "java/lang/IllegalStateException", .initialized "java/lang/IllegalStateException", .fieldLink RX4 117 "BlossomTours" "tourCount" "I", .fieldLink RX4 17 "BlossomTours" "tours" "[LBlossomTours$Tour;", .methodLink RX4 44 yX4_isWithin, .static yX4_isWithin, .initialized RX4, .code yX4_isWithin cX4_isWithin 3 (some .boolean)] ++ wsX40 ++ wsX20 ++ (vx_atS RX4 52 "java/lang/IllegalArgumentException" ["java/lang/RuntimeException", "java/lang/Exception"]).filter goodWord ++ (vx_atS RX4 67 "java/lang/IllegalStateException" ["java/lang/RuntimeException", "java/lang/Exception"]).filter goodWord)
def wsX4_checkTour : List Cond := .code yX4_checkTour cX4_checkTour 2 none :: ([.classLink RX4 97 "java/lang/IndexOutOfBoundsException", .initialized "java/lang/IndexOutOfBoundsException", .fieldLink RX4 117 "BlossomTours" "tourCount" "I"] ++ wsX40 ++ (vx_atS RX4 101 "java/lang/IndexOutOfBoundsException" ["java/lang/RuntimeException", "java/lang/Exception"]).filter goodWord)
def wsX4_add_r1 : List Cond := [Cond.classLink RX4 63 "java/lang/IllegalStateException", Cond.initialized "java/lang/IllegalStateException", Cond.fieldLink RX4 17 "BlossomTours" "tours" "[LBlossomTours$Tour;", Cond.methodLink RX4 125 yX4_checkTour, Cond.instanceMethod yX4_checkTour, Cond.selects RX4 yX4_checkTour yX4_checkTour, Cond.initialized RX4, Cond.code yX4_checkTour cX4_checkTour 2 none, Cond.classLink RX4 97 "java/lang/IndexOutOfBoundsException", Cond.initialized "java/lang/IndexOutOfBoundsException", Cond.fieldLink RX4 117 "BlossomTours" "tourCount" "I", Cond.methodLink RX4 77 yX4_checkValley, Cond.instanceMethod yX4_checkValley, Cond.selects RX4 yX4_checkValley yX4_checkValley, Cond.code yX4_checkValley cX4_checkValley 2 none, Cond.fieldLink RX4 59 "BlossomTours" "valleyCount" "I", Cond.instanceMethod yX2_isFull, Cond.initialized RX2, Cond.selects RX2 yX2_isFull yX2_isFull, Cond.code yX2_isFull cX2_isFull 1 (some .boolean), Cond.fieldLink RX2 15 "BlossomTours$Tour" "stopCount" "I", Cond.fieldLink RX2 9 "BlossomTours$Tour" "stops" "[I", Cond.instanceMethod yX2_visits, Cond.selects RX2 yX2_visits yX2_visits]
def wsX4_add_r2 : List Cond := [Cond.code yX2_visits cX2_visits 3 (some .boolean), Cond.instanceMethod yX2_append, Cond.selects RX2 yX2_append yX2_append, Cond.code yX2_append cX2_append 2 none, Cond.methodLink RX2 19 yX2_isFull, Cond.methodLink RX4 94 yX4_reckonCrowds, Cond.instanceMethod yX4_reckonCrowds, Cond.selects RX4 yX4_reckonCrowds yX4_reckonCrowds, Cond.code yX4_reckonCrowds cX4_reckonCrowds 2 none, Cond.fieldLink RX4 11 "BlossomTours" "valleys" "[LBlossomTours$Valley;", Cond.fieldLink RX4 28 "BlossomTours" "roads" "LBlossomTours$Roads;", Cond.instanceMethod yX2_measure, Cond.selects RX2 yX2_measure yX2_measure, Cond.code yX2_measure cX2_measure 5 none, Cond.fieldLink RX2 29 "BlossomTours$Tour" "minutes" "I", Cond.instanceMethod yX1_minutesBetween, Cond.initialized RX1, Cond.selects RX1 yX1_minutesBetween yX1_minutesBetween, Cond.code yX1_minutesBetween cX1_minutesBetween 3 (some .int), Cond.fieldLink RX1 11 "BlossomTours$Roads" "ways" "[[I", Cond.constant RX1 16 (1000000), Cond.methodLink RX1 17 yX1_isPlace, Cond.static yX1_isPlace, Cond.code yX1_isPlace cX1_isPlace 1 (some .boolean)]
def wsX4_add_r3 : List Cond := [Cond.static yX4_isWithin, Cond.code yX4_isWithin cX4_isWithin 3 (some .boolean), Cond.instanceMethod yX2_canGo, Cond.selects RX2 yX2_canGo yX2_canGo, Cond.code yX2_canGo cX2_canGo 1 (some .boolean), Cond.methodLink RX4 248 yX4_joinCrowds, Cond.instanceMethod yX4_joinCrowds, Cond.selects RX4 yX4_joinCrowds yX4_joinCrowds, Cond.code yX4_joinCrowds cX4_joinCrowds 3 none]
def wsX4_add : List Cond := .code yX4_add cX4_add 4 (some .int) :: ((wsX4_add_r1 ++ (wsX4_add_r2 ++ wsX4_add_r3)) ++ wsX40 ++ wsX20 ++ wsX30 ++ wsX10 ++ (vx_atS RX4 67 "java/lang/IllegalStateException" ["java/lang/RuntimeException", "java/lang/Exception"]).filter goodWord ++ (vx_atS RX4 101 "java/lang/IndexOutOfBoundsException" ["java/lang/RuntimeException", "java/lang/Exception"]).filter goodWord)
def wsX4_cut_r1 : List Cond := [Cond.classLink RX4 63 "java/lang/IllegalStateException", Cond.initialized "java/lang/IllegalStateException", Cond.fieldLink RX4 17 "BlossomTours" "tours" "[LBlossomTours$Tour;", Cond.methodLink RX4 125 yX4_checkTour, Cond.instanceMethod yX4_checkTour, Cond.selects RX4 yX4_checkTour yX4_checkTour, Cond.initialized RX4, Cond.code yX4_checkTour cX4_checkTour 2 none, Cond.classLink RX4 97 "java/lang/IndexOutOfBoundsException", Cond.initialized "java/lang/IndexOutOfBoundsException", Cond.fieldLink RX4 117 "BlossomTours" "tourCount" "I", Cond.instanceMethod yX2_takeLast, Cond.initialized RX2, Cond.selects RX2 yX2_takeLast yX2_takeLast, Cond.code yX2_takeLast cX2_takeLast 1 (some .int), Cond.fieldLink RX2 15 "BlossomTours$Tour" "stopCount" "I", Cond.fieldLink RX2 9 "BlossomTours$Tour" "stops" "[I", Cond.methodLink RX4 94 yX4_reckonCrowds, Cond.instanceMethod yX4_reckonCrowds, Cond.selects RX4 yX4_reckonCrowds yX4_reckonCrowds, Cond.code yX4_reckonCrowds cX4_reckonCrowds 2 none, Cond.fieldLink RX4 59 "BlossomTours" "valleyCount" "I", Cond.fieldLink RX4 11 "BlossomTours" "valleys" "[LBlossomTours$Valley;", Cond.fieldLink RX4 28 "BlossomTours" "roads" "LBlossomTours$Roads;"]
def wsX4_cut_r2 : List Cond := [Cond.instanceMethod yX2_measure, Cond.selects RX2 yX2_measure yX2_measure, Cond.code yX2_measure cX2_measure 5 none, Cond.fieldLink RX2 29 "BlossomTours$Tour" "minutes" "I", Cond.instanceMethod yX1_minutesBetween, Cond.initialized RX1, Cond.selects RX1 yX1_minutesBetween yX1_minutesBetween, Cond.code yX1_minutesBetween cX1_minutesBetween 3 (some .int), Cond.fieldLink RX1 11 "BlossomTours$Roads" "ways" "[[I", Cond.constant RX1 16 (1000000), Cond.methodLink RX1 17 yX1_isPlace, Cond.static yX1_isPlace, Cond.code yX1_isPlace cX1_isPlace 1 (some .boolean), Cond.static yX4_isWithin, Cond.code yX4_isWithin cX4_isWithin 3 (some .boolean), Cond.instanceMethod yX2_canGo, Cond.selects RX2 yX2_canGo yX2_canGo, Cond.code yX2_canGo cX2_canGo 1 (some .boolean), Cond.methodLink RX4 248 yX4_joinCrowds, Cond.instanceMethod yX4_joinCrowds, Cond.selects RX4 yX4_joinCrowds yX4_joinCrowds, Cond.code yX4_joinCrowds cX4_joinCrowds 3 none, Cond.instanceMethod yX2_visits, Cond.selects RX2 yX2_visits yX2_visits]
def wsX4_cut_r3 : List Cond := [Cond.code yX2_visits cX2_visits 3 (some .boolean)]
def wsX4_cut : List Cond := .code yX4_cut cX4_cut 4 (some .int) :: ((wsX4_cut_r1 ++ (wsX4_cut_r2 ++ wsX4_cut_r3)) ++ wsX40 ++ wsX20 ++ wsX30 ++ wsX10 ++ (vx_atS RX4 67 "java/lang/IllegalStateException" ["java/lang/RuntimeException", "java/lang/Exception"]).filter goodWord ++ (vx_atS RX4 101 "java/lang/IndexOutOfBoundsException" ["java/lang/RuntimeException", "java/lang/Exception"]).filter goodWord)
def wsX4_joyOn_r1 : List Cond := [Cond.fieldLink RX4 59 "BlossomTours" "valleyCount" "I", Cond.fieldLink RX4 11 "BlossomTours" "valleys" "[LBlossomTours$Valley;", Cond.methodLink RX4 252 Lib.Math.max.name, Cond.static Lib.Math.max.name, Cond.initialized "java/lang/Math", Cond.code Lib.Math.max.name Lib.Math.max.code 2 (some .int), Cond.instanceMethod yX2_canGo, Cond.initialized RX2, Cond.selects RX2 yX2_canGo yX2_canGo, Cond.code yX2_canGo cX2_canGo 1 (some .boolean), Cond.fieldLink RX2 15 "BlossomTours$Tour" "stopCount" "I", Cond.fieldLink RX2 29 "BlossomTours$Tour" "minutes" "I", Cond.static yX4_isWithin, Cond.initialized RX4, Cond.code yX4_isWithin cX4_isWithin 3 (some .boolean), Cond.instanceMethod yX2_visits, Cond.selects RX2 yX2_visits yX2_visits, Cond.code yX2_visits cX2_visits 3 (some .boolean), Cond.fieldLink RX2 9 "BlossomTours$Tour" "stops" "[I", Cond.instanceMethod yX3_bloomOn, Cond.initialized RX3, Cond.selects RX3 yX3_bloomOn yX3_bloomOn, Cond.code yX3_bloomOn cX3_bloomOn 5 (some .int), Cond.fieldLink RX3 7 "BlossomTours$Valley" "from" "I"]
def wsX4_joyOn_r2 : List Cond := [Cond.fieldLink RX3 13 "BlossomTours$Valley" "length" "I", Cond.methodLink RX3 16 Lib.Math.min.name, Cond.static Lib.Math.min.name, Cond.code Lib.Math.min.name Lib.Math.min.code 2 (some .int)]
def wsX4_joyOn : List Cond := .code yX4_joyOn cX4_joyOn 5 (some .int) :: ((wsX4_joyOn_r1 ++ wsX4_joyOn_r2) ++ wsX40 ++ wsX30 ++ wsX20)
def wsX4_stingsOn_r1 : List Cond := [Cond.fieldLink RX4 59 "BlossomTours" "valleyCount" "I", Cond.fieldLink RX4 11 "BlossomTours" "valleys" "[LBlossomTours$Valley;", Cond.instanceMethod yX2_canGo, Cond.initialized RX2, Cond.selects RX2 yX2_canGo yX2_canGo, Cond.code yX2_canGo cX2_canGo 1 (some .boolean), Cond.fieldLink RX2 15 "BlossomTours$Tour" "stopCount" "I", Cond.fieldLink RX2 29 "BlossomTours$Tour" "minutes" "I", Cond.static yX4_isWithin, Cond.initialized RX4, Cond.code yX4_isWithin cX4_isWithin 3 (some .boolean), Cond.instanceMethod yX2_visits, Cond.selects RX2 yX2_visits yX2_visits, Cond.code yX2_visits cX2_visits 3 (some .boolean), Cond.fieldLink RX2 9 "BlossomTours$Tour" "stops" "[I", Cond.instanceMethod yX3_bloomOn, Cond.initialized RX3, Cond.selects RX3 yX3_bloomOn yX3_bloomOn, Cond.code yX3_bloomOn cX3_bloomOn 5 (some .int), Cond.fieldLink RX3 7 "BlossomTours$Valley" "from" "I", Cond.fieldLink RX3 13 "BlossomTours$Valley" "length" "I", Cond.methodLink RX3 16 Lib.Math.min.name, Cond.static Lib.Math.min.name, Cond.initialized "java/lang/Math"]
def wsX4_stingsOn_r2 : List Cond := [Cond.code Lib.Math.min.name Lib.Math.min.code 2 (some .int)]
def wsX4_stingsOn : List Cond := .code yX4_stingsOn cX4_stingsOn 5 (some .int) :: ((wsX4_stingsOn_r1 ++ wsX4_stingsOn_r2) ++ wsX40 ++ wsX20 ++ wsX30)
def wsX4_told_r1 : List Cond := [Cond.classLink RX4 97 "java/lang/IndexOutOfBoundsException", Cond.initialized "java/lang/IndexOutOfBoundsException", Cond.fieldLink RX4 17 "BlossomTours" "tours" "[LBlossomTours$Tour;", Cond.fieldLink RX4 158 "BlossomTours" "today" "I", Cond.methodLink RX4 125 yX4_checkTour, Cond.instanceMethod yX4_checkTour, Cond.selects RX4 yX4_checkTour yX4_checkTour, Cond.initialized RX4, Cond.code yX4_checkTour cX4_checkTour 2 none, Cond.fieldLink RX4 117 "BlossomTours" "tourCount" "I", Cond.instanceMethod yX2_canGo, Cond.initialized RX2, Cond.selects RX2 yX2_canGo yX2_canGo, Cond.code yX2_canGo cX2_canGo 1 (some .boolean), Cond.fieldLink RX2 15 "BlossomTours$Tour" "stopCount" "I", Cond.fieldLink RX2 29 "BlossomTours$Tour" "minutes" "I", Cond.static yX4_isWithin, Cond.code yX4_isWithin cX4_isWithin 3 (some .boolean), Cond.methodLink RX4 161 yX4_joyOn, Cond.instanceMethod yX4_joyOn, Cond.selects RX4 yX4_joyOn yX4_joyOn, Cond.code yX4_joyOn cX4_joyOn 5 (some .int), Cond.fieldLink RX4 59 "BlossomTours" "valleyCount" "I", Cond.fieldLink RX4 11 "BlossomTours" "valleys" "[LBlossomTours$Valley;"]
def wsX4_told_r2 : List Cond := [Cond.methodLink RX4 252 Lib.Math.max.name, Cond.static Lib.Math.max.name, Cond.initialized "java/lang/Math", Cond.code Lib.Math.max.name Lib.Math.max.code 2 (some .int), Cond.instanceMethod yX2_visits, Cond.selects RX2 yX2_visits yX2_visits, Cond.code yX2_visits cX2_visits 3 (some .boolean), Cond.fieldLink RX2 9 "BlossomTours$Tour" "stops" "[I", Cond.instanceMethod yX3_bloomOn, Cond.initialized RX3, Cond.selects RX3 yX3_bloomOn yX3_bloomOn, Cond.code yX3_bloomOn cX3_bloomOn 5 (some .int), Cond.fieldLink RX3 7 "BlossomTours$Valley" "from" "I", Cond.fieldLink RX3 13 "BlossomTours$Valley" "length" "I", Cond.methodLink RX3 16 Lib.Math.min.name, Cond.static Lib.Math.min.name, Cond.code Lib.Math.min.name Lib.Math.min.code 2 (some .int), Cond.methodLink RX4 165 yX4_stingsOn, Cond.instanceMethod yX4_stingsOn, Cond.selects RX4 yX4_stingsOn yX4_stingsOn, Cond.code yX4_stingsOn cX4_stingsOn 5 (some .int)]
def wsX4_told : List Cond := .code yX4_told cX4_told 4 (some .int) :: ((wsX4_told_r1 ++ wsX4_told_r2) ++ wsX40 ++ wsX20 ++ wsX30 ++ (vx_atS RX4 101 "java/lang/IndexOutOfBoundsException" ["java/lang/RuntimeException", "java/lang/Exception"]).filter goodWord)
def wsX4_about : List Cond := .code yX4_about cX4_about 4 (some .int) :: ([.classLink RX4 97 "java/lang/IndexOutOfBoundsException", .initialized "java/lang/IndexOutOfBoundsException", .fieldLink RX4 11 "BlossomTours" "valleys" "[LBlossomTours$Valley;", .fieldLink RX4 158 "BlossomTours" "today" "I", .methodLink RX4 77 yX4_checkValley, .instanceMethod yX4_checkValley, .selects RX4 yX4_checkValley yX4_checkValley, .initialized RX4, .code yX4_checkValley cX4_checkValley 2 none, .fieldLink RX4 59 "BlossomTours" "valleyCount" "I", .instanceMethod yX3_bloomOn, .initialized RX3, .selects RX3 yX3_bloomOn yX3_bloomOn, .code yX3_bloomOn cX3_bloomOn 5 (some .int), .fieldLink RX3 7 "BlossomTours$Valley" "from" "I", .fieldLink RX3 13 "BlossomTours$Valley" "length" "I", .methodLink RX3 16 Lib.Math.min.name, .static Lib.Math.min.name, .initialized "java/lang/Math", .code Lib.Math.min.name Lib.Math.min.code 2 (some .int)] ++ wsX40 ++ wsX30 ++ (vx_atS RX4 101 "java/lang/IndexOutOfBoundsException" ["java/lang/RuntimeException", "java/lang/Exception"]).filter goodWord)
def wsX4_toursThatCanGo : List Cond := .code yX4_toursThatCanGo cX4_toursThatCanGo 3 (some .int) :: ([.fieldLink RX4 117 "BlossomTours" "tourCount" "I", .fieldLink RX4 17 "BlossomTours" "tours" "[LBlossomTours$Tour;", .instanceMethod yX2_canGo, .initialized RX2, .selects RX2 yX2_canGo yX2_canGo, .code yX2_canGo cX2_canGo 1 (some .boolean), .fieldLink RX2 15 "BlossomTours$Tour" "stopCount" "I", .fieldLink RX2 29 "BlossomTours$Tour" "minutes" "I", .static yX4_isWithin, .initialized RX4, .code yX4_isWithin cX4_isWithin 3 (some .boolean)] ++ wsX40 ++ wsX20)
def wsX4_valleysInBloomOn : List Cond := .code yX4_valleysInBloomOn cX4_valleysInBloomOn 4 (some .int) :: ([.fieldLink RX4 59 "BlossomTours" "valleyCount" "I", .fieldLink RX4 11 "BlossomTours" "valleys" "[LBlossomTours$Valley;", .instanceMethod yX3_bloomOn, .initialized RX3, .selects RX3 yX3_bloomOn yX3_bloomOn, .code yX3_bloomOn cX3_bloomOn 5 (some .int), .fieldLink RX3 7 "BlossomTours$Valley" "from" "I", .fieldLink RX3 13 "BlossomTours$Valley" "length" "I", .methodLink RX3 16 Lib.Math.min.name, .static Lib.Math.min.name, .initialized "java/lang/Math", .code Lib.Math.min.name Lib.Math.min.code 2 (some .int)] ++ wsX40 ++ wsX30)
def wsX4_count_r1 : List Cond := [Cond.classLink RX4 97 "java/lang/IndexOutOfBoundsException", Cond.initialized "java/lang/IndexOutOfBoundsException", Cond.fieldLink RX4 158 "BlossomTours" "today" "I", Cond.fieldLink RX4 59 "BlossomTours" "valleyCount" "I", Cond.fieldLink RX4 28 "BlossomTours" "roads" "LBlossomTours$Roads;", Cond.fieldLink RX4 117 "BlossomTours" "tourCount" "I", Cond.fieldLink RX4 35 "BlossomTours" "books" "LBlossomTours$Books;", Cond.methodLink RX4 176 yX4_toursThatCanGo, Cond.instanceMethod yX4_toursThatCanGo, Cond.selects RX4 yX4_toursThatCanGo yX4_toursThatCanGo, Cond.initialized RX4, Cond.code yX4_toursThatCanGo cX4_toursThatCanGo 3 (some .int), Cond.fieldLink RX4 17 "BlossomTours" "tours" "[LBlossomTours$Tour;", Cond.instanceMethod yX2_canGo, Cond.initialized RX2, Cond.selects RX2 yX2_canGo yX2_canGo, Cond.code yX2_canGo cX2_canGo 1 (some .boolean), Cond.fieldLink RX2 15 "BlossomTours$Tour" "stopCount" "I", Cond.fieldLink RX2 29 "BlossomTours$Tour" "minutes" "I", Cond.static yX4_isWithin, Cond.code yX4_isWithin cX4_isWithin 3 (some .boolean), Cond.methodLink RX4 179 yX4_valleysInBloomOn, Cond.instanceMethod yX4_valleysInBloomOn, Cond.selects RX4 yX4_valleysInBloomOn yX4_valleysInBloomOn]
def wsX4_count_r2 : List Cond := [Cond.code yX4_valleysInBloomOn cX4_valleysInBloomOn 4 (some .int), Cond.fieldLink RX4 11 "BlossomTours" "valleys" "[LBlossomTours$Valley;", Cond.instanceMethod yX3_bloomOn, Cond.initialized RX3, Cond.selects RX3 yX3_bloomOn yX3_bloomOn, Cond.code yX3_bloomOn cX3_bloomOn 5 (some .int), Cond.fieldLink RX3 7 "BlossomTours$Valley" "from" "I", Cond.fieldLink RX3 13 "BlossomTours$Valley" "length" "I", Cond.methodLink RX3 16 Lib.Math.min.name, Cond.static Lib.Math.min.name, Cond.initialized "java/lang/Math", Cond.code Lib.Math.min.name Lib.Math.min.code 2 (some .int)]
def wsX4_count : List Cond := .code yX4_count cX4_count 2 (some .int) :: ((wsX4_count_r1 ++ wsX4_count_r2) ++ wsX40 ++ wsX10 ++ wsX00 ++ wsX20 ++ wsX30 ++ (vx_atS RX4 101 "java/lang/IndexOutOfBoundsException" ["java/lang/RuntimeException", "java/lang/Exception"]).filter goodWord)
def wsX4_checkSpan : List Cond := .code yX4_checkSpan cX4_checkSpan 1 none :: ([.classLink RX4 48 "java/lang/IllegalArgumentException", .initialized "java/lang/IllegalArgumentException", .methodLink RX4 44 yX4_isWithin, .static yX4_isWithin, .initialized RX4, .code yX4_isWithin cX4_isWithin 3 (some .boolean)] ++ (vx_atS RX4 52 "java/lang/IllegalArgumentException" ["java/lang/RuntimeException", "java/lang/Exception"]).filter goodWord)
def wsJ9_floorMod_7cf53 : List Cond := .code yJ9_floorMod_7cf53 cJ9_floorMod_7cf53 3 (some .int) :: ([])
def wsX4_enterDay_r1 : List Cond := [Cond.fieldLink RX4 21 "BlossomTours" "heats" "[I", Cond.fieldLink RX4 117 "BlossomTours" "tourCount" "I", Cond.fieldLink RX4 17 "BlossomTours" "tours" "[LBlossomTours$Tour;", Cond.methodLink RX4 260 yJ9_floorMod_7cf53, Cond.static yJ9_floorMod_7cf53, Cond.initialized RJ9, Cond.code yJ9_floorMod_7cf53 cJ9_floorMod_7cf53 3 (some .int), Cond.instanceMethod yX2_canGo, Cond.initialized RX2, Cond.selects RX2 yX2_canGo yX2_canGo, Cond.code yX2_canGo cX2_canGo 1 (some .boolean), Cond.fieldLink RX2 15 "BlossomTours$Tour" "stopCount" "I", Cond.fieldLink RX2 29 "BlossomTours$Tour" "minutes" "I", Cond.static yX4_isWithin, Cond.initialized RX4, Cond.code yX4_isWithin cX4_isWithin 3 (some .boolean), Cond.methodLink RX4 161 yX4_joyOn, Cond.instanceMethod yX4_joyOn, Cond.selects RX4 yX4_joyOn yX4_joyOn, Cond.code yX4_joyOn cX4_joyOn 5 (some .int), Cond.fieldLink RX4 59 "BlossomTours" "valleyCount" "I", Cond.fieldLink RX4 11 "BlossomTours" "valleys" "[LBlossomTours$Valley;", Cond.methodLink RX4 252 Lib.Math.max.name, Cond.static Lib.Math.max.name]
def wsX4_enterDay_r2 : List Cond := [Cond.initialized "java/lang/Math", Cond.code Lib.Math.max.name Lib.Math.max.code 2 (some .int), Cond.instanceMethod yX2_visits, Cond.selects RX2 yX2_visits yX2_visits, Cond.code yX2_visits cX2_visits 3 (some .boolean), Cond.fieldLink RX2 9 "BlossomTours$Tour" "stops" "[I", Cond.instanceMethod yX3_bloomOn, Cond.initialized RX3, Cond.selects RX3 yX3_bloomOn yX3_bloomOn, Cond.code yX3_bloomOn cX3_bloomOn 5 (some .int), Cond.fieldLink RX3 7 "BlossomTours$Valley" "from" "I", Cond.fieldLink RX3 13 "BlossomTours$Valley" "length" "I", Cond.methodLink RX3 16 Lib.Math.min.name, Cond.static Lib.Math.min.name, Cond.code Lib.Math.min.name Lib.Math.min.code 2 (some .int), Cond.methodLink RX4 165 yX4_stingsOn, Cond.instanceMethod yX4_stingsOn, Cond.selects RX4 yX4_stingsOn yX4_stingsOn, Cond.code yX4_stingsOn cX4_stingsOn 5 (some .int)]
def wsX4_enterDay : List Cond := .code yX4_enterDay cX4_enterDay 7 none :: ((wsX4_enterDay_r1 ++ wsX4_enterDay_r2) ++ wsX40 ++ wsX00 ++ wsX20 ++ wsX30)
def wsX4_enterDays_r1 : List Cond := [Cond.fieldLink RX4 158 "BlossomTours" "today" "I", Cond.methodLink RX4 257 yX4_enterDay, Cond.instanceMethod yX4_enterDay, Cond.selects RX4 yX4_enterDay yX4_enterDay, Cond.initialized RX4, Cond.code yX4_enterDay cX4_enterDay 7 none, Cond.fieldLink RX4 21 "BlossomTours" "heats" "[I", Cond.fieldLink RX4 117 "BlossomTours" "tourCount" "I", Cond.fieldLink RX4 17 "BlossomTours" "tours" "[LBlossomTours$Tour;", Cond.methodLink RX4 260 yJ9_floorMod_7cf53, Cond.static yJ9_floorMod_7cf53, Cond.initialized RJ9, Cond.code yJ9_floorMod_7cf53 cJ9_floorMod_7cf53 3 (some .int), Cond.instanceMethod yX2_canGo, Cond.initialized RX2, Cond.selects RX2 yX2_canGo yX2_canGo, Cond.code yX2_canGo cX2_canGo 1 (some .boolean), Cond.fieldLink RX2 15 "BlossomTours$Tour" "stopCount" "I", Cond.fieldLink RX2 29 "BlossomTours$Tour" "minutes" "I", Cond.static yX4_isWithin, Cond.code yX4_isWithin cX4_isWithin 3 (some .boolean), Cond.methodLink RX4 161 yX4_joyOn, Cond.instanceMethod yX4_joyOn, Cond.selects RX4 yX4_joyOn yX4_joyOn]
def wsX4_enterDays_r2 : List Cond := [Cond.code yX4_joyOn cX4_joyOn 5 (some .int), Cond.fieldLink RX4 59 "BlossomTours" "valleyCount" "I", Cond.fieldLink RX4 11 "BlossomTours" "valleys" "[LBlossomTours$Valley;", Cond.methodLink RX4 252 Lib.Math.max.name, Cond.static Lib.Math.max.name, Cond.initialized "java/lang/Math", Cond.code Lib.Math.max.name Lib.Math.max.code 2 (some .int), Cond.instanceMethod yX2_visits, Cond.selects RX2 yX2_visits yX2_visits, Cond.code yX2_visits cX2_visits 3 (some .boolean), Cond.fieldLink RX2 9 "BlossomTours$Tour" "stops" "[I", Cond.instanceMethod yX3_bloomOn, Cond.initialized RX3, Cond.selects RX3 yX3_bloomOn yX3_bloomOn, Cond.code yX3_bloomOn cX3_bloomOn 5 (some .int), Cond.fieldLink RX3 7 "BlossomTours$Valley" "from" "I", Cond.fieldLink RX3 13 "BlossomTours$Valley" "length" "I", Cond.methodLink RX3 16 Lib.Math.min.name, Cond.static Lib.Math.min.name, Cond.code Lib.Math.min.name Lib.Math.min.code 2 (some .int), Cond.methodLink RX4 165 yX4_stingsOn, Cond.instanceMethod yX4_stingsOn, Cond.selects RX4 yX4_stingsOn yX4_stingsOn, Cond.code yX4_stingsOn cX4_stingsOn 5 (some .int)]
def wsX4_enterDays : List Cond := .code yX4_enterDays cX4_enterDays 4 none :: ((wsX4_enterDays_r1 ++ wsX4_enterDays_r2) ++ wsX40 ++ wsX00 ++ wsX20 ++ wsX30)
def wsX4_pass_r1 : List Cond := [Cond.fieldLink RX4 35 "BlossomTours" "books" "LBlossomTours$Books;", Cond.fieldLink RX4 158 "BlossomTours" "today" "I", Cond.methodLink RX4 193 yX4_checkSpan, Cond.static yX4_checkSpan, Cond.initialized RX4, Cond.code yX4_checkSpan cX4_checkSpan 1 none, Cond.classLink RX4 48 "java/lang/IllegalArgumentException", Cond.initialized "java/lang/IllegalArgumentException", Cond.methodLink RX4 44 yX4_isWithin, Cond.static yX4_isWithin, Cond.code yX4_isWithin cX4_isWithin 3 (some .boolean), Cond.methodLink RX4 196 yX4_enterDays, Cond.instanceMethod yX4_enterDays, Cond.selects RX4 yX4_enterDays yX4_enterDays, Cond.code yX4_enterDays cX4_enterDays 4 none, Cond.methodLink RX4 257 yX4_enterDay, Cond.instanceMethod yX4_enterDay, Cond.selects RX4 yX4_enterDay yX4_enterDay, Cond.code yX4_enterDay cX4_enterDay 7 none, Cond.fieldLink RX4 21 "BlossomTours" "heats" "[I", Cond.fieldLink RX4 117 "BlossomTours" "tourCount" "I", Cond.fieldLink RX4 17 "BlossomTours" "tours" "[LBlossomTours$Tour;", Cond.methodLink RX4 260 yJ9_floorMod_7cf53, Cond.static yJ9_floorMod_7cf53]
def wsX4_pass_r2 : List Cond := [Cond.initialized RJ9, Cond.code yJ9_floorMod_7cf53 cJ9_floorMod_7cf53 3 (some .int), Cond.instanceMethod yX2_canGo, Cond.initialized RX2, Cond.selects RX2 yX2_canGo yX2_canGo, Cond.code yX2_canGo cX2_canGo 1 (some .boolean), Cond.fieldLink RX2 15 "BlossomTours$Tour" "stopCount" "I", Cond.fieldLink RX2 29 "BlossomTours$Tour" "minutes" "I", Cond.methodLink RX4 161 yX4_joyOn, Cond.instanceMethod yX4_joyOn, Cond.selects RX4 yX4_joyOn yX4_joyOn, Cond.code yX4_joyOn cX4_joyOn 5 (some .int), Cond.fieldLink RX4 59 "BlossomTours" "valleyCount" "I", Cond.fieldLink RX4 11 "BlossomTours" "valleys" "[LBlossomTours$Valley;", Cond.methodLink RX4 252 Lib.Math.max.name, Cond.static Lib.Math.max.name, Cond.initialized "java/lang/Math", Cond.code Lib.Math.max.name Lib.Math.max.code 2 (some .int), Cond.instanceMethod yX2_visits, Cond.selects RX2 yX2_visits yX2_visits, Cond.code yX2_visits cX2_visits 3 (some .boolean), Cond.fieldLink RX2 9 "BlossomTours$Tour" "stops" "[I", Cond.instanceMethod yX3_bloomOn, Cond.initialized RX3]
def wsX4_pass_r3 : List Cond := [Cond.selects RX3 yX3_bloomOn yX3_bloomOn, Cond.code yX3_bloomOn cX3_bloomOn 5 (some .int), Cond.fieldLink RX3 7 "BlossomTours$Valley" "from" "I", Cond.fieldLink RX3 13 "BlossomTours$Valley" "length" "I", Cond.methodLink RX3 16 Lib.Math.min.name, Cond.static Lib.Math.min.name, Cond.code Lib.Math.min.name Lib.Math.min.code 2 (some .int), Cond.methodLink RX4 165 yX4_stingsOn, Cond.instanceMethod yX4_stingsOn, Cond.selects RX4 yX4_stingsOn yX4_stingsOn, Cond.code yX4_stingsOn cX4_stingsOn 5 (some .int)]
def wsX4_pass : List Cond := .code yX4_pass cX4_pass 3 (some .int) :: ((wsX4_pass_r1 ++ (wsX4_pass_r2 ++ wsX4_pass_r3)) ++ wsX40 ++ wsX00 ++ wsX20 ++ wsX30 ++ (vx_atS RX4 52 "java/lang/IllegalArgumentException" ["java/lang/RuntimeException", "java/lang/Exception"]).filter goodWord)
def wsX4_joy_r1 : List Cond := [Cond.fieldLink RX4 17 "BlossomTours" "tours" "[LBlossomTours$Tour;", Cond.methodLink RX4 125 yX4_checkTour, Cond.instanceMethod yX4_checkTour, Cond.selects RX4 yX4_checkTour yX4_checkTour, Cond.initialized RX4, Cond.code yX4_checkTour cX4_checkTour 2 none, Cond.classLink RX4 97 "java/lang/IndexOutOfBoundsException", Cond.initialized "java/lang/IndexOutOfBoundsException", Cond.fieldLink RX4 117 "BlossomTours" "tourCount" "I", Cond.methodLink RX4 104 yX4_checkDay, Cond.static yX4_checkDay, Cond.code yX4_checkDay cX4_checkDay 1 none, Cond.classLink RX4 48 "java/lang/IllegalArgumentException", Cond.initialized "java/lang/IllegalArgumentException", Cond.methodLink RX4 161 yX4_joyOn, Cond.instanceMethod yX4_joyOn, Cond.selects RX4 yX4_joyOn yX4_joyOn, Cond.code yX4_joyOn cX4_joyOn 5 (some .int), Cond.fieldLink RX4 59 "BlossomTours" "valleyCount" "I", Cond.fieldLink RX4 11 "BlossomTours" "valleys" "[LBlossomTours$Valley;", Cond.methodLink RX4 252 Lib.Math.max.name, Cond.static Lib.Math.max.name, Cond.initialized "java/lang/Math", Cond.code Lib.Math.max.name Lib.Math.max.code 2 (some .int)]
def wsX4_joy_r2 : List Cond := [Cond.instanceMethod yX2_canGo, Cond.initialized RX2, Cond.selects RX2 yX2_canGo yX2_canGo, Cond.code yX2_canGo cX2_canGo 1 (some .boolean), Cond.fieldLink RX2 15 "BlossomTours$Tour" "stopCount" "I", Cond.fieldLink RX2 29 "BlossomTours$Tour" "minutes" "I", Cond.static yX4_isWithin, Cond.code yX4_isWithin cX4_isWithin 3 (some .boolean), Cond.instanceMethod yX2_visits, Cond.selects RX2 yX2_visits yX2_visits, Cond.code yX2_visits cX2_visits 3 (some .boolean), Cond.fieldLink RX2 9 "BlossomTours$Tour" "stops" "[I", Cond.instanceMethod yX3_bloomOn, Cond.initialized RX3, Cond.selects RX3 yX3_bloomOn yX3_bloomOn, Cond.code yX3_bloomOn cX3_bloomOn 5 (some .int), Cond.fieldLink RX3 7 "BlossomTours$Valley" "from" "I", Cond.fieldLink RX3 13 "BlossomTours$Valley" "length" "I", Cond.methodLink RX3 16 Lib.Math.min.name, Cond.static Lib.Math.min.name, Cond.code Lib.Math.min.name Lib.Math.min.code 2 (some .int)]
def wsX4_joy : List Cond := .code yX4_joy cX4_joy 3 (some .int) :: ((wsX4_joy_r1 ++ wsX4_joy_r2) ++ wsX40 ++ wsX30 ++ wsX20 ++ (vx_atS RX4 101 "java/lang/IndexOutOfBoundsException" ["java/lang/RuntimeException", "java/lang/Exception"]).filter goodWord ++ (vx_atS RX4 52 "java/lang/IllegalArgumentException" ["java/lang/RuntimeException", "java/lang/Exception"]).filter goodWord)
def wsX4_best_r1 : List Cond := [Cond.fieldLink RX4 17 "BlossomTours" "tours" "[LBlossomTours$Tour;", Cond.fieldLink RX4 158 "BlossomTours" "today" "I", Cond.methodLink RX4 125 yX4_checkTour, Cond.instanceMethod yX4_checkTour, Cond.selects RX4 yX4_checkTour yX4_checkTour, Cond.initialized RX4, Cond.code yX4_checkTour cX4_checkTour 2 none, Cond.classLink RX4 97 "java/lang/IndexOutOfBoundsException", Cond.initialized "java/lang/IndexOutOfBoundsException", Cond.fieldLink RX4 117 "BlossomTours" "tourCount" "I", Cond.methodLink RX4 161 yX4_joyOn, Cond.instanceMethod yX4_joyOn, Cond.selects RX4 yX4_joyOn yX4_joyOn, Cond.code yX4_joyOn cX4_joyOn 5 (some .int), Cond.fieldLink RX4 59 "BlossomTours" "valleyCount" "I", Cond.fieldLink RX4 11 "BlossomTours" "valleys" "[LBlossomTours$Valley;", Cond.methodLink RX4 252 Lib.Math.max.name, Cond.static Lib.Math.max.name, Cond.initialized "java/lang/Math", Cond.code Lib.Math.max.name Lib.Math.max.code 2 (some .int), Cond.instanceMethod yX2_canGo, Cond.initialized RX2, Cond.selects RX2 yX2_canGo yX2_canGo, Cond.code yX2_canGo cX2_canGo 1 (some .boolean)]
def wsX4_best_r2 : List Cond := [Cond.fieldLink RX2 15 "BlossomTours$Tour" "stopCount" "I", Cond.fieldLink RX2 29 "BlossomTours$Tour" "minutes" "I", Cond.static yX4_isWithin, Cond.code yX4_isWithin cX4_isWithin 3 (some .boolean), Cond.instanceMethod yX2_visits, Cond.selects RX2 yX2_visits yX2_visits, Cond.code yX2_visits cX2_visits 3 (some .boolean), Cond.fieldLink RX2 9 "BlossomTours$Tour" "stops" "[I", Cond.instanceMethod yX3_bloomOn, Cond.initialized RX3, Cond.selects RX3 yX3_bloomOn yX3_bloomOn, Cond.code yX3_bloomOn cX3_bloomOn 5 (some .int), Cond.fieldLink RX3 7 "BlossomTours$Valley" "from" "I", Cond.fieldLink RX3 13 "BlossomTours$Valley" "length" "I", Cond.methodLink RX3 16 Lib.Math.min.name, Cond.static Lib.Math.min.name, Cond.code Lib.Math.min.name Lib.Math.min.code 2 (some .int)]
def wsX4_best : List Cond := .code yX4_best cX4_best 6 (some .int) :: ((wsX4_best_r1 ++ wsX4_best_r2) ++ wsX40 ++ wsX30 ++ wsX20 ++ (vx_atS RX4 101 "java/lang/IndexOutOfBoundsException" ["java/lang/RuntimeException", "java/lang/Exception"]).filter goodWord)
def wsX4_joyWithStopAdded_r1 : List Cond := [Cond.fieldLink RX4 158 "BlossomTours" "today" "I", Cond.instanceMethod yX2_append, Cond.initialized RX2, Cond.selects RX2 yX2_append yX2_append, Cond.code yX2_append cX2_append 2 none, Cond.fieldLink RX2 9 "BlossomTours$Tour" "stops" "[I", Cond.fieldLink RX2 15 "BlossomTours$Tour" "stopCount" "I", Cond.methodLink RX2 19 yX2_isFull, Cond.instanceMethod yX2_isFull, Cond.selects RX2 yX2_isFull yX2_isFull, Cond.code yX2_isFull cX2_isFull 1 (some .boolean), Cond.methodLink RX4 94 yX4_reckonCrowds, Cond.instanceMethod yX4_reckonCrowds, Cond.selects RX4 yX4_reckonCrowds yX4_reckonCrowds, Cond.initialized RX4, Cond.code yX4_reckonCrowds cX4_reckonCrowds 2 none, Cond.fieldLink RX4 59 "BlossomTours" "valleyCount" "I", Cond.fieldLink RX4 11 "BlossomTours" "valleys" "[LBlossomTours$Valley;", Cond.fieldLink RX4 117 "BlossomTours" "tourCount" "I", Cond.fieldLink RX4 17 "BlossomTours" "tours" "[LBlossomTours$Tour;", Cond.fieldLink RX4 28 "BlossomTours" "roads" "LBlossomTours$Roads;", Cond.instanceMethod yX2_measure, Cond.selects RX2 yX2_measure yX2_measure, Cond.code yX2_measure cX2_measure 5 none]
def wsX4_joyWithStopAdded_r2 : List Cond := [Cond.fieldLink RX2 29 "BlossomTours$Tour" "minutes" "I", Cond.instanceMethod yX1_minutesBetween, Cond.initialized RX1, Cond.selects RX1 yX1_minutesBetween yX1_minutesBetween, Cond.code yX1_minutesBetween cX1_minutesBetween 3 (some .int), Cond.fieldLink RX1 11 "BlossomTours$Roads" "ways" "[[I", Cond.constant RX1 16 (1000000), Cond.methodLink RX1 17 yX1_isPlace, Cond.static yX1_isPlace, Cond.code yX1_isPlace cX1_isPlace 1 (some .boolean), Cond.static yX4_isWithin, Cond.code yX4_isWithin cX4_isWithin 3 (some .boolean), Cond.instanceMethod yX2_canGo, Cond.selects RX2 yX2_canGo yX2_canGo, Cond.code yX2_canGo cX2_canGo 1 (some .boolean), Cond.methodLink RX4 248 yX4_joinCrowds, Cond.instanceMethod yX4_joinCrowds, Cond.selects RX4 yX4_joinCrowds yX4_joinCrowds, Cond.code yX4_joinCrowds cX4_joinCrowds 3 none, Cond.instanceMethod yX2_visits, Cond.selects RX2 yX2_visits yX2_visits, Cond.code yX2_visits cX2_visits 3 (some .boolean), Cond.methodLink RX4 161 yX4_joyOn, Cond.instanceMethod yX4_joyOn]
def wsX4_joyWithStopAdded_r3 : List Cond := [Cond.selects RX4 yX4_joyOn yX4_joyOn, Cond.code yX4_joyOn cX4_joyOn 5 (some .int), Cond.methodLink RX4 252 Lib.Math.max.name, Cond.static Lib.Math.max.name, Cond.initialized "java/lang/Math", Cond.code Lib.Math.max.name Lib.Math.max.code 2 (some .int), Cond.instanceMethod yX3_bloomOn, Cond.initialized RX3, Cond.selects RX3 yX3_bloomOn yX3_bloomOn, Cond.code yX3_bloomOn cX3_bloomOn 5 (some .int), Cond.fieldLink RX3 7 "BlossomTours$Valley" "from" "I", Cond.fieldLink RX3 13 "BlossomTours$Valley" "length" "I", Cond.methodLink RX3 16 Lib.Math.min.name, Cond.static Lib.Math.min.name, Cond.code Lib.Math.min.name Lib.Math.min.code 2 (some .int), Cond.instanceMethod yX2_takeLast, Cond.selects RX2 yX2_takeLast yX2_takeLast, Cond.code yX2_takeLast cX2_takeLast 1 (some .int)]
def wsX4_joyWithStopAdded : List Cond := .code yX4_joyWithStopAdded cX4_joyWithStopAdded 4 (some .int) :: ((wsX4_joyWithStopAdded_r1 ++ (wsX4_joyWithStopAdded_r2 ++ wsX4_joyWithStopAdded_r3)) ++ wsX40 ++ wsX20 ++ wsX30 ++ wsX10)
def wsX4_advise_r1 : List Cond := [Cond.fieldLink RX4 17 "BlossomTours" "tours" "[LBlossomTours$Tour;", Cond.fieldLink RX4 158 "BlossomTours" "today" "I", Cond.fieldLink RX4 59 "BlossomTours" "valleyCount" "I", Cond.methodLink RX4 125 yX4_checkTour, Cond.instanceMethod yX4_checkTour, Cond.selects RX4 yX4_checkTour yX4_checkTour, Cond.initialized RX4, Cond.code yX4_checkTour cX4_checkTour 2 none, Cond.classLink RX4 97 "java/lang/IndexOutOfBoundsException", Cond.initialized "java/lang/IndexOutOfBoundsException", Cond.fieldLink RX4 117 "BlossomTours" "tourCount" "I", Cond.instanceMethod yX2_isFull, Cond.initialized RX2, Cond.selects RX2 yX2_isFull yX2_isFull, Cond.code yX2_isFull cX2_isFull 1 (some .boolean), Cond.fieldLink RX2 15 "BlossomTours$Tour" "stopCount" "I", Cond.fieldLink RX2 9 "BlossomTours$Tour" "stops" "[I", Cond.methodLink RX4 161 yX4_joyOn, Cond.instanceMethod yX4_joyOn, Cond.selects RX4 yX4_joyOn yX4_joyOn, Cond.code yX4_joyOn cX4_joyOn 5 (some .int), Cond.fieldLink RX4 11 "BlossomTours" "valleys" "[LBlossomTours$Valley;", Cond.methodLink RX4 252 Lib.Math.max.name, Cond.static Lib.Math.max.name]
def wsX4_advise_r2 : List Cond := [Cond.initialized "java/lang/Math", Cond.code Lib.Math.max.name Lib.Math.max.code 2 (some .int), Cond.instanceMethod yX2_canGo, Cond.selects RX2 yX2_canGo yX2_canGo, Cond.code yX2_canGo cX2_canGo 1 (some .boolean), Cond.fieldLink RX2 29 "BlossomTours$Tour" "minutes" "I", Cond.static yX4_isWithin, Cond.code yX4_isWithin cX4_isWithin 3 (some .boolean), Cond.instanceMethod yX2_visits, Cond.selects RX2 yX2_visits yX2_visits, Cond.code yX2_visits cX2_visits 3 (some .boolean), Cond.instanceMethod yX3_bloomOn, Cond.initialized RX3, Cond.selects RX3 yX3_bloomOn yX3_bloomOn, Cond.code yX3_bloomOn cX3_bloomOn 5 (some .int), Cond.fieldLink RX3 7 "BlossomTours$Valley" "from" "I", Cond.fieldLink RX3 13 "BlossomTours$Valley" "length" "I", Cond.methodLink RX3 16 Lib.Math.min.name, Cond.static Lib.Math.min.name, Cond.code Lib.Math.min.name Lib.Math.min.code 2 (some .int), Cond.methodLink RX4 200 yX4_joyWithStopAdded, Cond.instanceMethod yX4_joyWithStopAdded, Cond.selects RX4 yX4_joyWithStopAdded yX4_joyWithStopAdded, Cond.code yX4_joyWithStopAdded cX4_joyWithStopAdded 4 (some .int)]
def wsX4_advise_r3 : List Cond := [Cond.instanceMethod yX2_append, Cond.selects RX2 yX2_append yX2_append, Cond.code yX2_append cX2_append 2 none, Cond.methodLink RX2 19 yX2_isFull, Cond.methodLink RX4 94 yX4_reckonCrowds, Cond.instanceMethod yX4_reckonCrowds, Cond.selects RX4 yX4_reckonCrowds yX4_reckonCrowds, Cond.code yX4_reckonCrowds cX4_reckonCrowds 2 none, Cond.fieldLink RX4 28 "BlossomTours" "roads" "LBlossomTours$Roads;", Cond.instanceMethod yX2_measure, Cond.selects RX2 yX2_measure yX2_measure, Cond.code yX2_measure cX2_measure 5 none, Cond.instanceMethod yX1_minutesBetween, Cond.initialized RX1, Cond.selects RX1 yX1_minutesBetween yX1_minutesBetween, Cond.code yX1_minutesBetween cX1_minutesBetween 3 (some .int), Cond.fieldLink RX1 11 "BlossomTours$Roads" "ways" "[[I", Cond.constant RX1 16 (1000000), Cond.methodLink RX1 17 yX1_isPlace, Cond.static yX1_isPlace, Cond.code yX1_isPlace cX1_isPlace 1 (some .boolean), Cond.methodLink RX4 248 yX4_joinCrowds, Cond.instanceMethod yX4_joinCrowds, Cond.selects RX4 yX4_joinCrowds yX4_joinCrowds]
def wsX4_advise_r4 : List Cond := [Cond.code yX4_joinCrowds cX4_joinCrowds 3 none, Cond.instanceMethod yX2_takeLast, Cond.selects RX2 yX2_takeLast yX2_takeLast, Cond.code yX2_takeLast cX2_takeLast 1 (some .int)]
def wsX4_advise : List Cond := .code yX4_advise cX4_advise 7 (some .int) :: ((wsX4_advise_r1 ++ (wsX4_advise_r2 ++ (wsX4_advise_r3 ++ wsX4_advise_r4))) ++ wsX40 ++ wsX20 ++ wsX30 ++ wsX10 ++ (vx_atS RX4 101 "java/lang/IndexOutOfBoundsException" ["java/lang/RuntimeException", "java/lang/Exception"]).filter goodWord)
def wsX4_foresee_r1 : List Cond := [Cond.classLink RX4 97 "java/lang/IndexOutOfBoundsException", Cond.initialized "java/lang/IndexOutOfBoundsException", Cond.fieldLink RX4 39 "BlossomTours" "draft" "LBlossomTours$Books;", Cond.fieldLink RX4 35 "BlossomTours" "books" "LBlossomTours$Books;", Cond.fieldLink RX4 158 "BlossomTours" "today" "I", Cond.methodLink RX4 193 yX4_checkSpan, Cond.static yX4_checkSpan, Cond.initialized RX4, Cond.code yX4_checkSpan cX4_checkSpan 1 none, Cond.classLink RX4 48 "java/lang/IllegalArgumentException", Cond.initialized "java/lang/IllegalArgumentException", Cond.methodLink RX4 44 yX4_isWithin, Cond.static yX4_isWithin, Cond.code yX4_isWithin cX4_isWithin 3 (some .boolean), Cond.instanceMethod yX0_copyFrom, Cond.initialized RX0, Cond.selects RX0 yX0_copyFrom yX0_copyFrom, Cond.code yX0_copyFrom cX0_copyFrom 2 none, Cond.fieldLink RX0 7 "BlossomTours$Books" "coins" "I", Cond.fieldLink RX0 13 "BlossomTours$Books" "joyInAll" "I", Cond.fieldLink RX0 16 "BlossomTours$Books" "stingsInAll" "I", Cond.methodLink RX4 196 yX4_enterDays, Cond.instanceMethod yX4_enterDays, Cond.selects RX4 yX4_enterDays yX4_enterDays]
def wsX4_foresee_r2 : List Cond := [Cond.code yX4_enterDays cX4_enterDays 4 none, Cond.methodLink RX4 257 yX4_enterDay, Cond.instanceMethod yX4_enterDay, Cond.selects RX4 yX4_enterDay yX4_enterDay, Cond.code yX4_enterDay cX4_enterDay 7 none, Cond.fieldLink RX4 21 "BlossomTours" "heats" "[I", Cond.fieldLink RX4 117 "BlossomTours" "tourCount" "I", Cond.fieldLink RX4 17 "BlossomTours" "tours" "[LBlossomTours$Tour;", Cond.methodLink RX4 260 yJ9_floorMod_7cf53, Cond.static yJ9_floorMod_7cf53, Cond.initialized RJ9, Cond.code yJ9_floorMod_7cf53 cJ9_floorMod_7cf53 3 (some .int), Cond.instanceMethod yX2_canGo, Cond.initialized RX2, Cond.selects RX2 yX2_canGo yX2_canGo, Cond.code yX2_canGo cX2_canGo 1 (some .boolean), Cond.fieldLink RX2 15 "BlossomTours$Tour" "stopCount" "I", Cond.fieldLink RX2 29 "BlossomTours$Tour" "minutes" "I", Cond.methodLink RX4 161 yX4_joyOn, Cond.instanceMethod yX4_joyOn, Cond.selects RX4 yX4_joyOn yX4_joyOn, Cond.code yX4_joyOn cX4_joyOn 5 (some .int), Cond.fieldLink RX4 59 "BlossomTours" "valleyCount" "I", Cond.fieldLink RX4 11 "BlossomTours" "valleys" "[LBlossomTours$Valley;"]
def wsX4_foresee_r3 : List Cond := [Cond.methodLink RX4 252 Lib.Math.max.name, Cond.static Lib.Math.max.name, Cond.initialized "java/lang/Math", Cond.code Lib.Math.max.name Lib.Math.max.code 2 (some .int), Cond.instanceMethod yX2_visits, Cond.selects RX2 yX2_visits yX2_visits, Cond.code yX2_visits cX2_visits 3 (some .boolean), Cond.fieldLink RX2 9 "BlossomTours$Tour" "stops" "[I", Cond.instanceMethod yX3_bloomOn, Cond.initialized RX3, Cond.selects RX3 yX3_bloomOn yX3_bloomOn, Cond.code yX3_bloomOn cX3_bloomOn 5 (some .int), Cond.fieldLink RX3 7 "BlossomTours$Valley" "from" "I", Cond.fieldLink RX3 13 "BlossomTours$Valley" "length" "I", Cond.methodLink RX3 16 Lib.Math.min.name, Cond.static Lib.Math.min.name, Cond.code Lib.Math.min.name Lib.Math.min.code 2 (some .int), Cond.methodLink RX4 165 yX4_stingsOn, Cond.instanceMethod yX4_stingsOn, Cond.selects RX4 yX4_stingsOn yX4_stingsOn, Cond.code yX4_stingsOn cX4_stingsOn 5 (some .int), Cond.methodLink RX4 179 yX4_valleysInBloomOn, Cond.instanceMethod yX4_valleysInBloomOn, Cond.selects RX4 yX4_valleysInBloomOn yX4_valleysInBloomOn]
def wsX4_foresee_r4 : List Cond := [Cond.code yX4_valleysInBloomOn cX4_valleysInBloomOn 4 (some .int)]
def wsX4_foresee : List Cond := .code yX4_foresee cX4_foresee 3 (some .int) :: ((wsX4_foresee_r1 ++ (wsX4_foresee_r2 ++ (wsX4_foresee_r3 ++ wsX4_foresee_r4))) ++ wsX40 ++ wsX00 ++ wsX20 ++ wsX30 ++ (vx_atS RX4 101 "java/lang/IndexOutOfBoundsException" ["java/lang/RuntimeException", "java/lang/Exception"]).filter goodWord ++ (vx_atS RX4 52 "java/lang/IllegalArgumentException" ["java/lang/RuntimeException", "java/lang/Exception"]).filter goodWord)
def wsX4_mean : List Cond := .code yX4_mean cX4_mean 3 (some .double) :: ([.fieldLink RX4 59 "BlossomTours" "valleyCount" "I", .fieldLink RX4 11 "BlossomTours" "valleys" "[LBlossomTours$Valley;", .fieldLink RX4 158 "BlossomTours" "today" "I", .instanceMethod yX3_bloomOn, .initialized RX3, .selects RX3 yX3_bloomOn yX3_bloomOn, .code yX3_bloomOn cX3_bloomOn 5 (some .int), .fieldLink RX3 7 "BlossomTours$Valley" "from" "I", .fieldLink RX3 13 "BlossomTours$Valley" "length" "I", .methodLink RX3 16 Lib.Math.min.name, .static Lib.Math.min.name, .initialized "java/lang/Math", .code Lib.Math.min.name Lib.Math.min.code 2 (some .int)] ++ wsX40 ++ wsX30)
def wsX4_mixed : List Cond := .code yX4_mixed cX4_mixed 4 (some .long) :: ([.constantLong RX4 234 (31)])
def wsX4_mixedWithValley_r1 : List Cond := [Cond.fieldLink RX4 59 "BlossomTours" "valleyCount" "I", Cond.fieldLink RX4 28 "BlossomTours" "roads" "LBlossomTours$Roads;", Cond.methodLink RX4 225 yX4_about, Cond.instanceMethod yX4_about, Cond.selects RX4 yX4_about yX4_about, Cond.initialized RX4, Cond.code yX4_about cX4_about 4 (some .int), Cond.classLink RX4 97 "java/lang/IndexOutOfBoundsException", Cond.initialized "java/lang/IndexOutOfBoundsException", Cond.fieldLink RX4 11 "BlossomTours" "valleys" "[LBlossomTours$Valley;", Cond.fieldLink RX4 158 "BlossomTours" "today" "I", Cond.methodLink RX4 77 yX4_checkValley, Cond.instanceMethod yX4_checkValley, Cond.selects RX4 yX4_checkValley yX4_checkValley, Cond.code yX4_checkValley cX4_checkValley 2 none, Cond.instanceMethod yX3_bloomOn, Cond.initialized RX3, Cond.selects RX3 yX3_bloomOn yX3_bloomOn, Cond.code yX3_bloomOn cX3_bloomOn 5 (some .int), Cond.fieldLink RX3 7 "BlossomTours$Valley" "from" "I", Cond.fieldLink RX3 13 "BlossomTours$Valley" "length" "I", Cond.methodLink RX3 16 Lib.Math.min.name, Cond.static Lib.Math.min.name, Cond.initialized "java/lang/Math"]
def wsX4_mixedWithValley_r2 : List Cond := [Cond.code Lib.Math.min.name Lib.Math.min.code 2 (some .int), Cond.methodLink RX4 214 yX4_mixed, Cond.static yX4_mixed, Cond.code yX4_mixed cX4_mixed 4 (some .long), Cond.constantLong RX4 234 (31), Cond.instanceMethod yX1_minutesBetween, Cond.initialized RX1, Cond.selects RX1 yX1_minutesBetween yX1_minutesBetween, Cond.code yX1_minutesBetween cX1_minutesBetween 3 (some .int), Cond.fieldLink RX1 11 "BlossomTours$Roads" "ways" "[[I", Cond.constant RX1 16 (1000000), Cond.methodLink RX1 17 yX1_isPlace, Cond.static yX1_isPlace, Cond.code yX1_isPlace cX1_isPlace 1 (some .boolean), Cond.static yX4_isWithin, Cond.code yX4_isWithin cX4_isWithin 3 (some .boolean)]
def wsX4_mixedWithValley : List Cond := .code yX4_mixedWithValley cX4_mixedWithValley 7 (some .long) :: ((wsX4_mixedWithValley_r1 ++ wsX4_mixedWithValley_r2) ++ wsX40 ++ wsX30 ++ wsX10 ++ (vx_atS RX4 101 "java/lang/IndexOutOfBoundsException" ["java/lang/RuntimeException", "java/lang/Exception"]).filter goodWord)
def wsX4_mixedWithTour_r1 : List Cond := [Cond.fieldLink RX4 17 "BlossomTours" "tours" "[LBlossomTours$Tour;", Cond.methodLink RX4 228 yX4_told, Cond.instanceMethod yX4_told, Cond.selects RX4 yX4_told yX4_told, Cond.initialized RX4, Cond.code yX4_told cX4_told 4 (some .int), Cond.classLink RX4 97 "java/lang/IndexOutOfBoundsException", Cond.initialized "java/lang/IndexOutOfBoundsException", Cond.fieldLink RX4 158 "BlossomTours" "today" "I", Cond.methodLink RX4 125 yX4_checkTour, Cond.instanceMethod yX4_checkTour, Cond.selects RX4 yX4_checkTour yX4_checkTour, Cond.code yX4_checkTour cX4_checkTour 2 none, Cond.fieldLink RX4 117 "BlossomTours" "tourCount" "I", Cond.instanceMethod yX2_canGo, Cond.initialized RX2, Cond.selects RX2 yX2_canGo yX2_canGo, Cond.code yX2_canGo cX2_canGo 1 (some .boolean), Cond.fieldLink RX2 15 "BlossomTours$Tour" "stopCount" "I", Cond.fieldLink RX2 29 "BlossomTours$Tour" "minutes" "I", Cond.static yX4_isWithin, Cond.code yX4_isWithin cX4_isWithin 3 (some .boolean), Cond.methodLink RX4 161 yX4_joyOn, Cond.instanceMethod yX4_joyOn]
def wsX4_mixedWithTour_r2 : List Cond := [Cond.selects RX4 yX4_joyOn yX4_joyOn, Cond.code yX4_joyOn cX4_joyOn 5 (some .int), Cond.fieldLink RX4 59 "BlossomTours" "valleyCount" "I", Cond.fieldLink RX4 11 "BlossomTours" "valleys" "[LBlossomTours$Valley;", Cond.methodLink RX4 252 Lib.Math.max.name, Cond.static Lib.Math.max.name, Cond.initialized "java/lang/Math", Cond.code Lib.Math.max.name Lib.Math.max.code 2 (some .int), Cond.instanceMethod yX2_visits, Cond.selects RX2 yX2_visits yX2_visits, Cond.code yX2_visits cX2_visits 3 (some .boolean), Cond.fieldLink RX2 9 "BlossomTours$Tour" "stops" "[I", Cond.instanceMethod yX3_bloomOn, Cond.initialized RX3, Cond.selects RX3 yX3_bloomOn yX3_bloomOn, Cond.code yX3_bloomOn cX3_bloomOn 5 (some .int), Cond.fieldLink RX3 7 "BlossomTours$Valley" "from" "I", Cond.fieldLink RX3 13 "BlossomTours$Valley" "length" "I", Cond.methodLink RX3 16 Lib.Math.min.name, Cond.static Lib.Math.min.name, Cond.code Lib.Math.min.name Lib.Math.min.code 2 (some .int), Cond.methodLink RX4 165 yX4_stingsOn, Cond.instanceMethod yX4_stingsOn, Cond.selects RX4 yX4_stingsOn yX4_stingsOn]
def wsX4_mixedWithTour_r3 : List Cond := [Cond.code yX4_stingsOn cX4_stingsOn 5 (some .int), Cond.methodLink RX4 214 yX4_mixed, Cond.static yX4_mixed, Cond.code yX4_mixed cX4_mixed 4 (some .long), Cond.constantLong RX4 234 (31)]
def wsX4_mixedWithTour : List Cond := .code yX4_mixedWithTour cX4_mixedWithTour 7 (some .long) :: ((wsX4_mixedWithTour_r1 ++ (wsX4_mixedWithTour_r2 ++ wsX4_mixedWithTour_r3)) ++ wsX40 ++ wsX20 ++ wsX30 ++ (vx_atS RX4 101 "java/lang/IndexOutOfBoundsException" ["java/lang/RuntimeException", "java/lang/Exception"]).filter goodWord)
def wsX4_digest_r1 : List Cond := [Cond.constantLong RX4 209 (1213), Cond.fieldLink RX4 21 "BlossomTours" "heats" "[I", Cond.fieldLink RX4 59 "BlossomTours" "valleyCount" "I", Cond.fieldLink RX4 117 "BlossomTours" "tourCount" "I", Cond.methodLink RX4 211 yX4_count, Cond.instanceMethod yX4_count, Cond.selects RX4 yX4_count yX4_count, Cond.initialized RX4, Cond.code yX4_count cX4_count 2 (some .int), Cond.classLink RX4 97 "java/lang/IndexOutOfBoundsException", Cond.initialized "java/lang/IndexOutOfBoundsException", Cond.fieldLink RX4 158 "BlossomTours" "today" "I", Cond.fieldLink RX4 28 "BlossomTours" "roads" "LBlossomTours$Roads;", Cond.fieldLink RX4 35 "BlossomTours" "books" "LBlossomTours$Books;", Cond.methodLink RX4 176 yX4_toursThatCanGo, Cond.instanceMethod yX4_toursThatCanGo, Cond.selects RX4 yX4_toursThatCanGo yX4_toursThatCanGo, Cond.code yX4_toursThatCanGo cX4_toursThatCanGo 3 (some .int), Cond.fieldLink RX4 17 "BlossomTours" "tours" "[LBlossomTours$Tour;", Cond.instanceMethod yX2_canGo, Cond.initialized RX2, Cond.selects RX2 yX2_canGo yX2_canGo, Cond.code yX2_canGo cX2_canGo 1 (some .boolean), Cond.fieldLink RX2 15 "BlossomTours$Tour" "stopCount" "I"]
def wsX4_digest_r2 : List Cond := [Cond.fieldLink RX2 29 "BlossomTours$Tour" "minutes" "I", Cond.static yX4_isWithin, Cond.code yX4_isWithin cX4_isWithin 3 (some .boolean), Cond.methodLink RX4 179 yX4_valleysInBloomOn, Cond.instanceMethod yX4_valleysInBloomOn, Cond.selects RX4 yX4_valleysInBloomOn yX4_valleysInBloomOn, Cond.code yX4_valleysInBloomOn cX4_valleysInBloomOn 4 (some .int), Cond.fieldLink RX4 11 "BlossomTours" "valleys" "[LBlossomTours$Valley;", Cond.instanceMethod yX3_bloomOn, Cond.initialized RX3, Cond.selects RX3 yX3_bloomOn yX3_bloomOn, Cond.code yX3_bloomOn cX3_bloomOn 5 (some .int), Cond.fieldLink RX3 7 "BlossomTours$Valley" "from" "I", Cond.fieldLink RX3 13 "BlossomTours$Valley" "length" "I", Cond.methodLink RX3 16 Lib.Math.min.name, Cond.static Lib.Math.min.name, Cond.initialized "java/lang/Math", Cond.code Lib.Math.min.name Lib.Math.min.code 2 (some .int), Cond.methodLink RX4 214 yX4_mixed, Cond.static yX4_mixed, Cond.code yX4_mixed cX4_mixed 4 (some .long), Cond.constantLong RX4 234 (31), Cond.methodLink RX4 218 yX4_mixedWithValley, Cond.instanceMethod yX4_mixedWithValley]
def wsX4_digest_r3 : List Cond := [Cond.selects RX4 yX4_mixedWithValley yX4_mixedWithValley, Cond.code yX4_mixedWithValley cX4_mixedWithValley 7 (some .long), Cond.methodLink RX4 225 yX4_about, Cond.instanceMethod yX4_about, Cond.selects RX4 yX4_about yX4_about, Cond.code yX4_about cX4_about 4 (some .int), Cond.methodLink RX4 77 yX4_checkValley, Cond.instanceMethod yX4_checkValley, Cond.selects RX4 yX4_checkValley yX4_checkValley, Cond.code yX4_checkValley cX4_checkValley 2 none, Cond.instanceMethod yX1_minutesBetween, Cond.initialized RX1, Cond.selects RX1 yX1_minutesBetween yX1_minutesBetween, Cond.code yX1_minutesBetween cX1_minutesBetween 3 (some .int), Cond.fieldLink RX1 11 "BlossomTours$Roads" "ways" "[[I", Cond.constant RX1 16 (1000000), Cond.methodLink RX1 17 yX1_isPlace, Cond.static yX1_isPlace, Cond.code yX1_isPlace cX1_isPlace 1 (some .boolean), Cond.methodLink RX4 222 yX4_mixedWithTour, Cond.instanceMethod yX4_mixedWithTour, Cond.selects RX4 yX4_mixedWithTour yX4_mixedWithTour, Cond.code yX4_mixedWithTour cX4_mixedWithTour 7 (some .long), Cond.methodLink RX4 228 yX4_told]
def wsX4_digest_r4 : List Cond := [Cond.instanceMethod yX4_told, Cond.selects RX4 yX4_told yX4_told, Cond.code yX4_told cX4_told 4 (some .int), Cond.methodLink RX4 125 yX4_checkTour, Cond.instanceMethod yX4_checkTour, Cond.selects RX4 yX4_checkTour yX4_checkTour, Cond.code yX4_checkTour cX4_checkTour 2 none, Cond.methodLink RX4 161 yX4_joyOn, Cond.instanceMethod yX4_joyOn, Cond.selects RX4 yX4_joyOn yX4_joyOn, Cond.code yX4_joyOn cX4_joyOn 5 (some .int), Cond.methodLink RX4 252 Lib.Math.max.name, Cond.static Lib.Math.max.name, Cond.code Lib.Math.max.name Lib.Math.max.code 2 (some .int), Cond.instanceMethod yX2_visits, Cond.selects RX2 yX2_visits yX2_visits, Cond.code yX2_visits cX2_visits 3 (some .boolean), Cond.fieldLink RX2 9 "BlossomTours$Tour" "stops" "[I", Cond.methodLink RX4 165 yX4_stingsOn, Cond.instanceMethod yX4_stingsOn, Cond.selects RX4 yX4_stingsOn yX4_stingsOn, Cond.code yX4_stingsOn cX4_stingsOn 5 (some .int)]
def wsX4_digest : List Cond := .code yX4_digest cX4_digest 4 (some .long) :: ((wsX4_digest_r1 ++ (wsX4_digest_r2 ++ (wsX4_digest_r3 ++ wsX4_digest_r4))) ++ wsX40 ++ wsX10 ++ wsX00 ++ wsX20 ++ wsX30 ++ (vx_atS RX4 101 "java/lang/IndexOutOfBoundsException" ["java/lang/RuntimeException", "java/lang/Exception"]).filter goodWord)
def wsX5_init : List Cond := .code yX5_init cX5_init 2 none :: ([.methodLink RX5 1 objectInit, .instanceMethod objectInit, .code objectInit ⟨#[0xb1]⟩ 1 none, .arrayClass .int, .fieldLink RX5 9 "BlossomToursModel" "from" "[I", .fieldLink RX5 13 "BlossomToursModel" "length" "[I", .fieldLink RX5 16 "BlossomToursModel" "bees" "[I", .fieldLink RX5 19 "BlossomToursModel" "ways" "[I", .fieldLink RX5 22 "BlossomToursModel" "heat" "[I", .fieldLink RX5 25 "BlossomToursModel" "tourists" "[I", .fieldLink RX5 28 "BlossomToursModel" "many" "[I", .fieldLink RX5 31 "BlossomToursModel" "list" "[I", .fieldLink RX5 34 "BlossomToursModel" "numbers" "[I"] ++ wsX50)
def wsX5_thrown : List Cond := .code yX5_thrown cX5_thrown 1 (some .int) :: ([.fieldLink RX5 37 "BlossomToursModel" "thrown" "I"] ++ wsX50)
def wsX5_no : List Cond := .code yX5_no cX5_no 2 (some .int) :: ([.fieldLink RX5 37 "BlossomToursModel" "thrown" "I"] ++ wsX50)
def wsX5_isIn : List Cond := .code yX5_isIn cX5_isIn 3 (some .boolean) :: ([])
def wsX5_isValley : List Cond := .code yX5_isValley cX5_isValley 2 (some .boolean) :: ([.fieldLink RX5 41 "BlossomToursModel" "valleys" "I", .methodLink RX5 44 yX5_isIn, .static yX5_isIn, .initialized RX5, .code yX5_isIn cX5_isIn 3 (some .boolean)] ++ wsX50)
def wsX5_isTour : List Cond := .code yX5_isTour cX5_isTour 2 (some .boolean) :: ([.fieldLink RX5 48 "BlossomToursModel" "tours" "I", .methodLink RX5 44 yX5_isIn, .static yX5_isIn, .initialized RX5, .code yX5_isIn cX5_isIn 3 (some .boolean)] ++ wsX50)
def wsX5_valley : List Cond := .code yX5_valley cX5_valley 4 (some .int) :: ([.fieldLink RX5 37 "BlossomToursModel" "thrown" "I", .fieldLink RX5 41 "BlossomToursModel" "valleys" "I", .fieldLink RX5 9 "BlossomToursModel" "from" "[I", .fieldLink RX5 13 "BlossomToursModel" "length" "[I", .fieldLink RX5 16 "BlossomToursModel" "bees" "[I", .methodLink RX5 44 yX5_isIn, .static yX5_isIn, .initialized RX5, .code yX5_isIn cX5_isIn 3 (some .boolean), .methodLink RX5 51 yX5_no, .instanceMethod yX5_no, .selects RX5 yX5_no yX5_no, .code yX5_no cX5_no 2 (some .int)] ++ wsX50)
def wsX5_shorten : List Cond := .code yX5_shorten cX5_shorten 9 none :: ([.fieldLink RX5 19 "BlossomToursModel" "ways" "[I"] ++ wsX50)
def wsX5_road : List Cond := .code yX5_road cX5_road 4 (some .int) :: ([.fieldLink RX5 37 "BlossomToursModel" "thrown" "I", .fieldLink RX5 59 "BlossomToursModel" "roads" "I", .methodLink RX5 55 yX5_isValley, .instanceMethod yX5_isValley, .selects RX5 yX5_isValley yX5_isValley, .initialized RX5, .code yX5_isValley cX5_isValley 2 (some .boolean), .fieldLink RX5 41 "BlossomToursModel" "valleys" "I", .methodLink RX5 44 yX5_isIn, .static yX5_isIn, .code yX5_isIn cX5_isIn 3 (some .boolean), .methodLink RX5 51 yX5_no, .instanceMethod yX5_no, .selects RX5 yX5_no yX5_no, .code yX5_no cX5_no 2 (some .int), .methodLink RX5 62 yX5_shorten, .instanceMethod yX5_shorten, .selects RX5 yX5_shorten yX5_shorten, .code yX5_shorten cX5_shorten 9 none, .fieldLink RX5 19 "BlossomToursModel" "ways" "[I"] ++ wsX50)
def wsX5_setHeat : List Cond := .code yX5_setHeat cX5_setHeat 4 (some .int) :: ([.fieldLink RX5 37 "BlossomToursModel" "thrown" "I", .fieldLink RX5 22 "BlossomToursModel" "heat" "[I", .methodLink RX5 44 yX5_isIn, .static yX5_isIn, .initialized RX5, .code yX5_isIn cX5_isIn 3 (some .boolean), .methodLink RX5 51 yX5_no, .instanceMethod yX5_no, .selects RX5 yX5_no yX5_no, .code yX5_no cX5_no 2 (some .int)] ++ wsX50)
def wsX5_blooms : List Cond := .code yX5_blooms cX5_blooms 3 (some .int) :: ([.fieldLink RX5 9 "BlossomToursModel" "from" "[I", .fieldLink RX5 13 "BlossomToursModel" "length" "[I", .methodLink RX5 66 Lib.Math.min.name, .static Lib.Math.min.name, .initialized "java/lang/Math", .code Lib.Math.min.name Lib.Math.min.code 2 (some .int), .methodLink RX5 44 yX5_isIn, .static yX5_isIn, .initialized RX5, .code yX5_isIn cX5_isIn 3 (some .boolean)] ++ wsX50)
def wsX5_bloom : List Cond := .code yX5_bloom cX5_bloom 3 (some .int) :: ([.fieldLink RX5 37 "BlossomToursModel" "thrown" "I", .methodLink RX5 55 yX5_isValley, .instanceMethod yX5_isValley, .selects RX5 yX5_isValley yX5_isValley, .initialized RX5, .code yX5_isValley cX5_isValley 2 (some .boolean), .fieldLink RX5 41 "BlossomToursModel" "valleys" "I", .methodLink RX5 44 yX5_isIn, .static yX5_isIn, .code yX5_isIn cX5_isIn 3 (some .boolean), .methodLink RX5 51 yX5_no, .instanceMethod yX5_no, .selects RX5 yX5_no yX5_no, .code yX5_no cX5_no 2 (some .int), .methodLink RX5 72 yX5_blooms, .instanceMethod yX5_blooms, .selects RX5 yX5_blooms yX5_blooms, .code yX5_blooms cX5_blooms 3 (some .int), .fieldLink RX5 9 "BlossomToursModel" "from" "[I", .fieldLink RX5 13 "BlossomToursModel" "length" "[I", .methodLink RX5 66 Lib.Math.min.name, .static Lib.Math.min.name, .initialized "java/lang/Math", .code Lib.Math.min.name Lib.Math.min.code 2 (some .int)] ++ wsX50)
def wsX5_way : List Cond := .code yX5_way cX5_way 3 (some .int) :: ([.fieldLink RX5 37 "BlossomToursModel" "thrown" "I", .fieldLink RX5 19 "BlossomToursModel" "ways" "[I", .methodLink RX5 55 yX5_isValley, .instanceMethod yX5_isValley, .selects RX5 yX5_isValley yX5_isValley, .initialized RX5, .code yX5_isValley cX5_isValley 2 (some .boolean), .fieldLink RX5 41 "BlossomToursModel" "valleys" "I", .methodLink RX5 44 yX5_isIn, .static yX5_isIn, .code yX5_isIn cX5_isIn 3 (some .boolean), .methodLink RX5 51 yX5_no, .instanceMethod yX5_no, .selects RX5 yX5_no yX5_no, .code yX5_no cX5_no 2 (some .int)] ++ wsX50)
def wsX5_at : List Cond := .code yX5_at cX5_at 3 (some .int) :: ([.fieldLink RX5 31 "BlossomToursModel" "list" "[I"] ++ wsX50)
def wsX5_has : List Cond := .code yX5_has cX5_has 4 (some .boolean) :: ([.fieldLink RX5 28 "BlossomToursModel" "many" "[I", .methodLink RX5 75 yX5_at, .instanceMethod yX5_at, .selects RX5 yX5_at yX5_at, .initialized RX5, .code yX5_at cX5_at 3 (some .int), .fieldLink RX5 31 "BlossomToursModel" "list" "[I"] ++ wsX50)
def wsX5_minutes : List Cond := .code yX5_minutes cX5_minutes 5 (some .int) :: ([.fieldLink RX5 28 "BlossomToursModel" "many" "[I", .fieldLink RX5 19 "BlossomToursModel" "ways" "[I", .methodLink RX5 75 yX5_at, .instanceMethod yX5_at, .selects RX5 yX5_at yX5_at, .initialized RX5, .code yX5_at cX5_at 3 (some .int), .fieldLink RX5 31 "BlossomToursModel" "list" "[I"] ++ wsX50)
def wsX5_goes : List Cond := .code yX5_goes cX5_goes 2 (some .boolean) :: ([.methodLink RX5 78 yX5_minutes, .instanceMethod yX5_minutes, .selects RX5 yX5_minutes yX5_minutes, .initialized RX5, .code yX5_minutes cX5_minutes 5 (some .int), .fieldLink RX5 28 "BlossomToursModel" "many" "[I", .fieldLink RX5 19 "BlossomToursModel" "ways" "[I", .methodLink RX5 75 yX5_at, .instanceMethod yX5_at, .selects RX5 yX5_at yX5_at, .code yX5_at cX5_at 3 (some .int), .fieldLink RX5 31 "BlossomToursModel" "list" "[I", .methodLink RX5 44 yX5_isIn, .static yX5_isIn, .code yX5_isIn cX5_isIn 3 (some .boolean)] ++ wsX50)
def wsX5_crowd_r1 : List Cond := [Cond.fieldLink RX5 48 "BlossomToursModel" "tours" "I", Cond.fieldLink RX5 25 "BlossomToursModel" "tourists" "[I", Cond.methodLink RX5 81 yX5_has, Cond.instanceMethod yX5_has, Cond.selects RX5 yX5_has yX5_has, Cond.initialized RX5, Cond.code yX5_has cX5_has 4 (some .boolean), Cond.fieldLink RX5 28 "BlossomToursModel" "many" "[I", Cond.methodLink RX5 75 yX5_at, Cond.instanceMethod yX5_at, Cond.selects RX5 yX5_at yX5_at, Cond.code yX5_at cX5_at 3 (some .int), Cond.fieldLink RX5 31 "BlossomToursModel" "list" "[I", Cond.methodLink RX5 85 yX5_goes, Cond.instanceMethod yX5_goes, Cond.selects RX5 yX5_goes yX5_goes, Cond.code yX5_goes cX5_goes 2 (some .boolean), Cond.methodLink RX5 78 yX5_minutes, Cond.instanceMethod yX5_minutes, Cond.selects RX5 yX5_minutes yX5_minutes, Cond.code yX5_minutes cX5_minutes 5 (some .int), Cond.fieldLink RX5 19 "BlossomToursModel" "ways" "[I", Cond.methodLink RX5 44 yX5_isIn, Cond.static yX5_isIn]
def wsX5_crowd_r2 : List Cond := [Cond.code yX5_isIn cX5_isIn 3 (some .boolean)]
def wsX5_crowd : List Cond := .code yX5_crowd cX5_crowd 4 (some .int) :: ((wsX5_crowd_r1 ++ wsX5_crowd_r2) ++ wsX50)
def wsX5_joyOf_r1 : List Cond := [Cond.fieldLink RX5 28 "BlossomToursModel" "many" "[I", Cond.methodLink RX5 91 Lib.Math.max.name, Cond.static Lib.Math.max.name, Cond.initialized "java/lang/Math", Cond.code Lib.Math.max.name Lib.Math.max.code 2 (some .int), Cond.methodLink RX5 85 yX5_goes, Cond.instanceMethod yX5_goes, Cond.selects RX5 yX5_goes yX5_goes, Cond.initialized RX5, Cond.code yX5_goes cX5_goes 2 (some .boolean), Cond.methodLink RX5 78 yX5_minutes, Cond.instanceMethod yX5_minutes, Cond.selects RX5 yX5_minutes yX5_minutes, Cond.code yX5_minutes cX5_minutes 5 (some .int), Cond.fieldLink RX5 19 "BlossomToursModel" "ways" "[I", Cond.methodLink RX5 75 yX5_at, Cond.instanceMethod yX5_at, Cond.selects RX5 yX5_at yX5_at, Cond.code yX5_at cX5_at 3 (some .int), Cond.fieldLink RX5 31 "BlossomToursModel" "list" "[I", Cond.methodLink RX5 44 yX5_isIn, Cond.static yX5_isIn, Cond.code yX5_isIn cX5_isIn 3 (some .boolean), Cond.methodLink RX5 72 yX5_blooms]
def wsX5_joyOf_r2 : List Cond := [Cond.instanceMethod yX5_blooms, Cond.selects RX5 yX5_blooms yX5_blooms, Cond.code yX5_blooms cX5_blooms 3 (some .int), Cond.fieldLink RX5 9 "BlossomToursModel" "from" "[I", Cond.fieldLink RX5 13 "BlossomToursModel" "length" "[I", Cond.methodLink RX5 66 Lib.Math.min.name, Cond.static Lib.Math.min.name, Cond.code Lib.Math.min.name Lib.Math.min.code 2 (some .int), Cond.methodLink RX5 88 yX5_crowd, Cond.instanceMethod yX5_crowd, Cond.selects RX5 yX5_crowd yX5_crowd, Cond.code yX5_crowd cX5_crowd 4 (some .int), Cond.fieldLink RX5 48 "BlossomToursModel" "tours" "I", Cond.fieldLink RX5 25 "BlossomToursModel" "tourists" "[I", Cond.methodLink RX5 81 yX5_has, Cond.instanceMethod yX5_has, Cond.selects RX5 yX5_has yX5_has, Cond.code yX5_has cX5_has 4 (some .boolean)]
def wsX5_joyOf : List Cond := .code yX5_joyOf cX5_joyOf 5 (some .int) :: ((wsX5_joyOf_r1 ++ wsX5_joyOf_r2) ++ wsX50)
def wsX5_stingsOf_r1 : List Cond := [Cond.fieldLink RX5 28 "BlossomToursModel" "many" "[I", Cond.fieldLink RX5 25 "BlossomToursModel" "tourists" "[I", Cond.fieldLink RX5 16 "BlossomToursModel" "bees" "[I", Cond.methodLink RX5 85 yX5_goes, Cond.instanceMethod yX5_goes, Cond.selects RX5 yX5_goes yX5_goes, Cond.initialized RX5, Cond.code yX5_goes cX5_goes 2 (some .boolean), Cond.methodLink RX5 78 yX5_minutes, Cond.instanceMethod yX5_minutes, Cond.selects RX5 yX5_minutes yX5_minutes, Cond.code yX5_minutes cX5_minutes 5 (some .int), Cond.fieldLink RX5 19 "BlossomToursModel" "ways" "[I", Cond.methodLink RX5 75 yX5_at, Cond.instanceMethod yX5_at, Cond.selects RX5 yX5_at yX5_at, Cond.code yX5_at cX5_at 3 (some .int), Cond.fieldLink RX5 31 "BlossomToursModel" "list" "[I", Cond.methodLink RX5 44 yX5_isIn, Cond.static yX5_isIn, Cond.code yX5_isIn cX5_isIn 3 (some .boolean), Cond.methodLink RX5 72 yX5_blooms, Cond.instanceMethod yX5_blooms, Cond.selects RX5 yX5_blooms yX5_blooms]
def wsX5_stingsOf_r2 : List Cond := [Cond.code yX5_blooms cX5_blooms 3 (some .int), Cond.fieldLink RX5 9 "BlossomToursModel" "from" "[I", Cond.fieldLink RX5 13 "BlossomToursModel" "length" "[I", Cond.methodLink RX5 66 Lib.Math.min.name, Cond.static Lib.Math.min.name, Cond.initialized "java/lang/Math", Cond.code Lib.Math.min.name Lib.Math.min.code 2 (some .int)]
def wsX5_stingsOf : List Cond := .code yX5_stingsOf cX5_stingsOf 5 (some .int) :: ((wsX5_stingsOf_r1 ++ wsX5_stingsOf_r2) ++ wsX50)
def wsX5_tour : List Cond := .code yX5_tour cX5_tour 2 (some .int) :: ([.fieldLink RX5 37 "BlossomToursModel" "thrown" "I", .fieldLink RX5 48 "BlossomToursModel" "tours" "I", .fieldLink RX5 25 "BlossomToursModel" "tourists" "[I", .methodLink RX5 44 yX5_isIn, .static yX5_isIn, .initialized RX5, .code yX5_isIn cX5_isIn 3 (some .boolean), .methodLink RX5 51 yX5_no, .instanceMethod yX5_no, .selects RX5 yX5_no yX5_no, .code yX5_no cX5_no 2 (some .int)] ++ wsX50)
def wsX5_add_r1 : List Cond := [Cond.fieldLink RX5 37 "BlossomToursModel" "thrown" "I", Cond.fieldLink RX5 28 "BlossomToursModel" "many" "[I", Cond.fieldLink RX5 31 "BlossomToursModel" "list" "[I", Cond.methodLink RX5 94 yX5_isTour, Cond.instanceMethod yX5_isTour, Cond.selects RX5 yX5_isTour yX5_isTour, Cond.initialized RX5, Cond.code yX5_isTour cX5_isTour 2 (some .boolean), Cond.fieldLink RX5 48 "BlossomToursModel" "tours" "I", Cond.methodLink RX5 44 yX5_isIn, Cond.static yX5_isIn, Cond.code yX5_isIn cX5_isIn 3 (some .boolean), Cond.methodLink RX5 55 yX5_isValley, Cond.instanceMethod yX5_isValley, Cond.selects RX5 yX5_isValley yX5_isValley, Cond.code yX5_isValley cX5_isValley 2 (some .boolean), Cond.fieldLink RX5 41 "BlossomToursModel" "valleys" "I", Cond.methodLink RX5 51 yX5_no, Cond.instanceMethod yX5_no, Cond.selects RX5 yX5_no yX5_no, Cond.code yX5_no cX5_no 2 (some .int), Cond.methodLink RX5 81 yX5_has, Cond.instanceMethod yX5_has, Cond.selects RX5 yX5_has yX5_has]
def wsX5_add_r2 : List Cond := [Cond.code yX5_has cX5_has 4 (some .boolean), Cond.methodLink RX5 75 yX5_at, Cond.instanceMethod yX5_at, Cond.selects RX5 yX5_at yX5_at, Cond.code yX5_at cX5_at 3 (some .int)]
def wsX5_add : List Cond := .code yX5_add cX5_add 3 (some .int) :: ((wsX5_add_r1 ++ wsX5_add_r2) ++ wsX50)
def wsX5_cut : List Cond := .code yX5_cut cX5_cut 2 (some .int) :: ([.fieldLink RX5 37 "BlossomToursModel" "thrown" "I", .fieldLink RX5 28 "BlossomToursModel" "many" "[I", .methodLink RX5 94 yX5_isTour, .instanceMethod yX5_isTour, .selects RX5 yX5_isTour yX5_isTour, .initialized RX5, .code yX5_isTour cX5_isTour 2 (some .boolean), .fieldLink RX5 48 "BlossomToursModel" "tours" "I", .methodLink RX5 44 yX5_isIn, .static yX5_isIn, .code yX5_isIn cX5_isIn 3 (some .boolean), .methodLink RX5 51 yX5_no, .instanceMethod yX5_no, .selects RX5 yX5_no yX5_no, .code yX5_no cX5_no 2 (some .int), .methodLink RX5 75 yX5_at, .instanceMethod yX5_at, .selects RX5 yX5_at yX5_at, .code yX5_at cX5_at 3 (some .int), .fieldLink RX5 31 "BlossomToursModel" "list" "[I"] ++ wsX50)
def wsX5_tourTold_r1 : List Cond := [Cond.fieldLink RX5 25 "BlossomToursModel" "tourists" "[I", Cond.fieldLink RX5 28 "BlossomToursModel" "many" "[I", Cond.fieldLink RX5 34 "BlossomToursModel" "numbers" "[I", Cond.methodLink RX5 78 yX5_minutes, Cond.instanceMethod yX5_minutes, Cond.selects RX5 yX5_minutes yX5_minutes, Cond.initialized RX5, Cond.code yX5_minutes cX5_minutes 5 (some .int), Cond.fieldLink RX5 19 "BlossomToursModel" "ways" "[I", Cond.methodLink RX5 75 yX5_at, Cond.instanceMethod yX5_at, Cond.selects RX5 yX5_at yX5_at, Cond.code yX5_at cX5_at 3 (some .int), Cond.fieldLink RX5 31 "BlossomToursModel" "list" "[I", Cond.methodLink RX5 85 yX5_goes, Cond.instanceMethod yX5_goes, Cond.selects RX5 yX5_goes yX5_goes, Cond.code yX5_goes cX5_goes 2 (some .boolean), Cond.methodLink RX5 44 yX5_isIn, Cond.static yX5_isIn, Cond.code yX5_isIn cX5_isIn 3 (some .boolean), Cond.methodLink RX5 97 yX5_joyOf, Cond.instanceMethod yX5_joyOf, Cond.selects RX5 yX5_joyOf yX5_joyOf]
def wsX5_tourTold_r2 : List Cond := [Cond.code yX5_joyOf cX5_joyOf 5 (some .int), Cond.methodLink RX5 91 Lib.Math.max.name, Cond.static Lib.Math.max.name, Cond.initialized "java/lang/Math", Cond.code Lib.Math.max.name Lib.Math.max.code 2 (some .int), Cond.methodLink RX5 72 yX5_blooms, Cond.instanceMethod yX5_blooms, Cond.selects RX5 yX5_blooms yX5_blooms, Cond.code yX5_blooms cX5_blooms 3 (some .int), Cond.fieldLink RX5 9 "BlossomToursModel" "from" "[I", Cond.fieldLink RX5 13 "BlossomToursModel" "length" "[I", Cond.methodLink RX5 66 Lib.Math.min.name, Cond.static Lib.Math.min.name, Cond.code Lib.Math.min.name Lib.Math.min.code 2 (some .int), Cond.methodLink RX5 88 yX5_crowd, Cond.instanceMethod yX5_crowd, Cond.selects RX5 yX5_crowd yX5_crowd, Cond.code yX5_crowd cX5_crowd 4 (some .int), Cond.fieldLink RX5 48 "BlossomToursModel" "tours" "I", Cond.methodLink RX5 81 yX5_has, Cond.instanceMethod yX5_has, Cond.selects RX5 yX5_has yX5_has, Cond.code yX5_has cX5_has 4 (some .boolean), Cond.methodLink RX5 100 yX5_stingsOf]
def wsX5_tourTold_r3 : List Cond := [Cond.instanceMethod yX5_stingsOf, Cond.selects RX5 yX5_stingsOf yX5_stingsOf, Cond.code yX5_stingsOf cX5_stingsOf 5 (some .int), Cond.fieldLink RX5 16 "BlossomToursModel" "bees" "[I"]
def wsX5_tourTold : List Cond := .code yX5_tourTold cX5_tourTold 3 (some .int) :: ((wsX5_tourTold_r1 ++ (wsX5_tourTold_r2 ++ wsX5_tourTold_r3)) ++ wsX50)
def wsX5_told_r1 : List Cond := [Cond.fieldLink RX5 37 "BlossomToursModel" "thrown" "I", Cond.methodLink RX5 94 yX5_isTour, Cond.instanceMethod yX5_isTour, Cond.selects RX5 yX5_isTour yX5_isTour, Cond.initialized RX5, Cond.code yX5_isTour cX5_isTour 2 (some .boolean), Cond.fieldLink RX5 48 "BlossomToursModel" "tours" "I", Cond.methodLink RX5 44 yX5_isIn, Cond.static yX5_isIn, Cond.code yX5_isIn cX5_isIn 3 (some .boolean), Cond.methodLink RX5 103 yX5_tourTold, Cond.instanceMethod yX5_tourTold, Cond.selects RX5 yX5_tourTold yX5_tourTold, Cond.code yX5_tourTold cX5_tourTold 3 (some .int), Cond.fieldLink RX5 25 "BlossomToursModel" "tourists" "[I", Cond.fieldLink RX5 28 "BlossomToursModel" "many" "[I", Cond.fieldLink RX5 34 "BlossomToursModel" "numbers" "[I", Cond.methodLink RX5 78 yX5_minutes, Cond.instanceMethod yX5_minutes, Cond.selects RX5 yX5_minutes yX5_minutes, Cond.code yX5_minutes cX5_minutes 5 (some .int), Cond.fieldLink RX5 19 "BlossomToursModel" "ways" "[I", Cond.methodLink RX5 75 yX5_at, Cond.instanceMethod yX5_at]
def wsX5_told_r2 : List Cond := [Cond.selects RX5 yX5_at yX5_at, Cond.code yX5_at cX5_at 3 (some .int), Cond.fieldLink RX5 31 "BlossomToursModel" "list" "[I", Cond.methodLink RX5 85 yX5_goes, Cond.instanceMethod yX5_goes, Cond.selects RX5 yX5_goes yX5_goes, Cond.code yX5_goes cX5_goes 2 (some .boolean), Cond.methodLink RX5 97 yX5_joyOf, Cond.instanceMethod yX5_joyOf, Cond.selects RX5 yX5_joyOf yX5_joyOf, Cond.code yX5_joyOf cX5_joyOf 5 (some .int), Cond.methodLink RX5 91 Lib.Math.max.name, Cond.static Lib.Math.max.name, Cond.initialized "java/lang/Math", Cond.code Lib.Math.max.name Lib.Math.max.code 2 (some .int), Cond.methodLink RX5 72 yX5_blooms, Cond.instanceMethod yX5_blooms, Cond.selects RX5 yX5_blooms yX5_blooms, Cond.code yX5_blooms cX5_blooms 3 (some .int), Cond.fieldLink RX5 9 "BlossomToursModel" "from" "[I", Cond.fieldLink RX5 13 "BlossomToursModel" "length" "[I", Cond.methodLink RX5 66 Lib.Math.min.name, Cond.static Lib.Math.min.name, Cond.code Lib.Math.min.name Lib.Math.min.code 2 (some .int)]
def wsX5_told_r3 : List Cond := [Cond.methodLink RX5 88 yX5_crowd, Cond.instanceMethod yX5_crowd, Cond.selects RX5 yX5_crowd yX5_crowd, Cond.code yX5_crowd cX5_crowd 4 (some .int), Cond.methodLink RX5 81 yX5_has, Cond.instanceMethod yX5_has, Cond.selects RX5 yX5_has yX5_has, Cond.code yX5_has cX5_has 4 (some .boolean), Cond.methodLink RX5 100 yX5_stingsOf, Cond.instanceMethod yX5_stingsOf, Cond.selects RX5 yX5_stingsOf yX5_stingsOf, Cond.code yX5_stingsOf cX5_stingsOf 5 (some .int), Cond.fieldLink RX5 16 "BlossomToursModel" "bees" "[I", Cond.methodLink RX5 51 yX5_no, Cond.instanceMethod yX5_no, Cond.selects RX5 yX5_no yX5_no, Cond.code yX5_no cX5_no 2 (some .int)]
def wsX5_told : List Cond := .code yX5_told cX5_told 3 (some .int) :: ((wsX5_told_r1 ++ (wsX5_told_r2 ++ wsX5_told_r3)) ++ wsX50)
def wsX5_valleyTold_r1 : List Cond := [Cond.fieldLink RX5 48 "BlossomToursModel" "tours" "I", Cond.fieldLink RX5 9 "BlossomToursModel" "from" "[I", Cond.fieldLink RX5 13 "BlossomToursModel" "length" "[I", Cond.fieldLink RX5 16 "BlossomToursModel" "bees" "[I", Cond.fieldLink RX5 34 "BlossomToursModel" "numbers" "[I", Cond.methodLink RX5 81 yX5_has, Cond.instanceMethod yX5_has, Cond.selects RX5 yX5_has yX5_has, Cond.initialized RX5, Cond.code yX5_has cX5_has 4 (some .boolean), Cond.fieldLink RX5 28 "BlossomToursModel" "many" "[I", Cond.methodLink RX5 75 yX5_at, Cond.instanceMethod yX5_at, Cond.selects RX5 yX5_at yX5_at, Cond.code yX5_at cX5_at 3 (some .int), Cond.fieldLink RX5 31 "BlossomToursModel" "list" "[I", Cond.methodLink RX5 85 yX5_goes, Cond.instanceMethod yX5_goes, Cond.selects RX5 yX5_goes yX5_goes, Cond.code yX5_goes cX5_goes 2 (some .boolean), Cond.methodLink RX5 78 yX5_minutes, Cond.instanceMethod yX5_minutes, Cond.selects RX5 yX5_minutes yX5_minutes, Cond.code yX5_minutes cX5_minutes 5 (some .int)]
def wsX5_valleyTold_r2 : List Cond := [Cond.fieldLink RX5 19 "BlossomToursModel" "ways" "[I", Cond.methodLink RX5 44 yX5_isIn, Cond.static yX5_isIn, Cond.code yX5_isIn cX5_isIn 3 (some .boolean), Cond.methodLink RX5 72 yX5_blooms, Cond.instanceMethod yX5_blooms, Cond.selects RX5 yX5_blooms yX5_blooms, Cond.code yX5_blooms cX5_blooms 3 (some .int), Cond.methodLink RX5 66 Lib.Math.min.name, Cond.static Lib.Math.min.name, Cond.initialized "java/lang/Math", Cond.code Lib.Math.min.name Lib.Math.min.code 2 (some .int), Cond.methodLink RX5 88 yX5_crowd, Cond.instanceMethod yX5_crowd, Cond.selects RX5 yX5_crowd yX5_crowd, Cond.code yX5_crowd cX5_crowd 4 (some .int), Cond.fieldLink RX5 25 "BlossomToursModel" "tourists" "[I"]
def wsX5_valleyTold : List Cond := .code yX5_valleyTold cX5_valleyTold 5 (some .int) :: ((wsX5_valleyTold_r1 ++ wsX5_valleyTold_r2) ++ wsX50)
def wsX5_about_r1 : List Cond := [Cond.fieldLink RX5 37 "BlossomToursModel" "thrown" "I", Cond.methodLink RX5 55 yX5_isValley, Cond.instanceMethod yX5_isValley, Cond.selects RX5 yX5_isValley yX5_isValley, Cond.initialized RX5, Cond.code yX5_isValley cX5_isValley 2 (some .boolean), Cond.fieldLink RX5 41 "BlossomToursModel" "valleys" "I", Cond.methodLink RX5 44 yX5_isIn, Cond.static yX5_isIn, Cond.code yX5_isIn cX5_isIn 3 (some .boolean), Cond.methodLink RX5 106 yX5_valleyTold, Cond.instanceMethod yX5_valleyTold, Cond.selects RX5 yX5_valleyTold yX5_valleyTold, Cond.code yX5_valleyTold cX5_valleyTold 5 (some .int), Cond.fieldLink RX5 48 "BlossomToursModel" "tours" "I", Cond.fieldLink RX5 9 "BlossomToursModel" "from" "[I", Cond.fieldLink RX5 13 "BlossomToursModel" "length" "[I", Cond.fieldLink RX5 16 "BlossomToursModel" "bees" "[I", Cond.fieldLink RX5 34 "BlossomToursModel" "numbers" "[I", Cond.methodLink RX5 81 yX5_has, Cond.instanceMethod yX5_has, Cond.selects RX5 yX5_has yX5_has, Cond.code yX5_has cX5_has 4 (some .boolean), Cond.fieldLink RX5 28 "BlossomToursModel" "many" "[I"]
def wsX5_about_r2 : List Cond := [Cond.methodLink RX5 75 yX5_at, Cond.instanceMethod yX5_at, Cond.selects RX5 yX5_at yX5_at, Cond.code yX5_at cX5_at 3 (some .int), Cond.fieldLink RX5 31 "BlossomToursModel" "list" "[I", Cond.methodLink RX5 85 yX5_goes, Cond.instanceMethod yX5_goes, Cond.selects RX5 yX5_goes yX5_goes, Cond.code yX5_goes cX5_goes 2 (some .boolean), Cond.methodLink RX5 78 yX5_minutes, Cond.instanceMethod yX5_minutes, Cond.selects RX5 yX5_minutes yX5_minutes, Cond.code yX5_minutes cX5_minutes 5 (some .int), Cond.fieldLink RX5 19 "BlossomToursModel" "ways" "[I", Cond.methodLink RX5 72 yX5_blooms, Cond.instanceMethod yX5_blooms, Cond.selects RX5 yX5_blooms yX5_blooms, Cond.code yX5_blooms cX5_blooms 3 (some .int), Cond.methodLink RX5 66 Lib.Math.min.name, Cond.static Lib.Math.min.name, Cond.initialized "java/lang/Math", Cond.code Lib.Math.min.name Lib.Math.min.code 2 (some .int), Cond.methodLink RX5 88 yX5_crowd, Cond.instanceMethod yX5_crowd]
def wsX5_about_r3 : List Cond := [Cond.selects RX5 yX5_crowd yX5_crowd, Cond.code yX5_crowd cX5_crowd 4 (some .int), Cond.fieldLink RX5 25 "BlossomToursModel" "tourists" "[I", Cond.methodLink RX5 51 yX5_no, Cond.instanceMethod yX5_no, Cond.selects RX5 yX5_no yX5_no, Cond.code yX5_no cX5_no 2 (some .int)]
def wsX5_about : List Cond := .code yX5_about cX5_about 3 (some .int) :: ((wsX5_about_r1 ++ (wsX5_about_r2 ++ wsX5_about_r3)) ++ wsX50)
def wsX5_counted_r1 : List Cond := [Cond.fieldLink RX5 41 "BlossomToursModel" "valleys" "I", Cond.fieldLink RX5 48 "BlossomToursModel" "tours" "I", Cond.arrayClass .int, Cond.fieldLink RX5 59 "BlossomToursModel" "roads" "I", Cond.methodLink RX5 72 yX5_blooms, Cond.instanceMethod yX5_blooms, Cond.selects RX5 yX5_blooms yX5_blooms, Cond.initialized RX5, Cond.code yX5_blooms cX5_blooms 3 (some .int), Cond.fieldLink RX5 9 "BlossomToursModel" "from" "[I", Cond.fieldLink RX5 13 "BlossomToursModel" "length" "[I", Cond.methodLink RX5 66 Lib.Math.min.name, Cond.static Lib.Math.min.name, Cond.initialized "java/lang/Math", Cond.code Lib.Math.min.name Lib.Math.min.code 2 (some .int), Cond.methodLink RX5 44 yX5_isIn, Cond.static yX5_isIn, Cond.code yX5_isIn cX5_isIn 3 (some .boolean), Cond.methodLink RX5 85 yX5_goes, Cond.instanceMethod yX5_goes, Cond.selects RX5 yX5_goes yX5_goes, Cond.code yX5_goes cX5_goes 2 (some .boolean), Cond.methodLink RX5 78 yX5_minutes, Cond.instanceMethod yX5_minutes]
def wsX5_counted_r2 : List Cond := [Cond.selects RX5 yX5_minutes yX5_minutes, Cond.code yX5_minutes cX5_minutes 5 (some .int), Cond.fieldLink RX5 28 "BlossomToursModel" "many" "[I", Cond.fieldLink RX5 19 "BlossomToursModel" "ways" "[I", Cond.methodLink RX5 75 yX5_at, Cond.instanceMethod yX5_at, Cond.selects RX5 yX5_at yX5_at, Cond.code yX5_at cX5_at 3 (some .int), Cond.fieldLink RX5 31 "BlossomToursModel" "list" "[I"]
def wsX5_counted : List Cond := .code yX5_counted cX5_counted 6 (some .int) :: ((wsX5_counted_r1 ++ wsX5_counted_r2) ++ wsX50)
def wsX5_count_r1 : List Cond := [Cond.fieldLink RX5 37 "BlossomToursModel" "thrown" "I", Cond.fieldLink RX5 34 "BlossomToursModel" "numbers" "[I", Cond.methodLink RX5 44 yX5_isIn, Cond.static yX5_isIn, Cond.initialized RX5, Cond.code yX5_isIn cX5_isIn 3 (some .boolean), Cond.methodLink RX5 109 yX5_counted, Cond.instanceMethod yX5_counted, Cond.selects RX5 yX5_counted yX5_counted, Cond.code yX5_counted cX5_counted 6 (some .int), Cond.fieldLink RX5 41 "BlossomToursModel" "valleys" "I", Cond.fieldLink RX5 48 "BlossomToursModel" "tours" "I", Cond.arrayClass .int, Cond.fieldLink RX5 59 "BlossomToursModel" "roads" "I", Cond.methodLink RX5 72 yX5_blooms, Cond.instanceMethod yX5_blooms, Cond.selects RX5 yX5_blooms yX5_blooms, Cond.code yX5_blooms cX5_blooms 3 (some .int), Cond.fieldLink RX5 9 "BlossomToursModel" "from" "[I", Cond.fieldLink RX5 13 "BlossomToursModel" "length" "[I", Cond.methodLink RX5 66 Lib.Math.min.name, Cond.static Lib.Math.min.name, Cond.initialized "java/lang/Math", Cond.code Lib.Math.min.name Lib.Math.min.code 2 (some .int)]
def wsX5_count_r2 : List Cond := [Cond.methodLink RX5 85 yX5_goes, Cond.instanceMethod yX5_goes, Cond.selects RX5 yX5_goes yX5_goes, Cond.code yX5_goes cX5_goes 2 (some .boolean), Cond.methodLink RX5 78 yX5_minutes, Cond.instanceMethod yX5_minutes, Cond.selects RX5 yX5_minutes yX5_minutes, Cond.code yX5_minutes cX5_minutes 5 (some .int), Cond.fieldLink RX5 28 "BlossomToursModel" "many" "[I", Cond.fieldLink RX5 19 "BlossomToursModel" "ways" "[I", Cond.methodLink RX5 75 yX5_at, Cond.instanceMethod yX5_at, Cond.selects RX5 yX5_at yX5_at, Cond.code yX5_at cX5_at 3 (some .int), Cond.fieldLink RX5 31 "BlossomToursModel" "list" "[I", Cond.methodLink RX5 51 yX5_no, Cond.instanceMethod yX5_no, Cond.selects RX5 yX5_no yX5_no, Cond.code yX5_no cX5_no 2 (some .int)]
def wsX5_count : List Cond := .code yX5_count cX5_count 2 (some .int) :: ((wsX5_count_r1 ++ wsX5_count_r2) ++ wsX50)
def wsX5_pass_r1 : List Cond := [Cond.fieldLink RX5 48 "BlossomToursModel" "tours" "I", Cond.fieldLink RX5 25 "BlossomToursModel" "tourists" "[I", Cond.fieldLink RX5 22 "BlossomToursModel" "heat" "[I", Cond.methodLink RX5 85 yX5_goes, Cond.instanceMethod yX5_goes, Cond.selects RX5 yX5_goes yX5_goes, Cond.initialized RX5, Cond.code yX5_goes cX5_goes 2 (some .boolean), Cond.methodLink RX5 78 yX5_minutes, Cond.instanceMethod yX5_minutes, Cond.selects RX5 yX5_minutes yX5_minutes, Cond.code yX5_minutes cX5_minutes 5 (some .int), Cond.fieldLink RX5 28 "BlossomToursModel" "many" "[I", Cond.fieldLink RX5 19 "BlossomToursModel" "ways" "[I", Cond.methodLink RX5 75 yX5_at, Cond.instanceMethod yX5_at, Cond.selects RX5 yX5_at yX5_at, Cond.code yX5_at cX5_at 3 (some .int), Cond.fieldLink RX5 31 "BlossomToursModel" "list" "[I", Cond.methodLink RX5 44 yX5_isIn, Cond.static yX5_isIn, Cond.code yX5_isIn cX5_isIn 3 (some .boolean), Cond.methodLink RX5 97 yX5_joyOf, Cond.instanceMethod yX5_joyOf]
def wsX5_pass_r2 : List Cond := [Cond.selects RX5 yX5_joyOf yX5_joyOf, Cond.code yX5_joyOf cX5_joyOf 5 (some .int), Cond.methodLink RX5 91 Lib.Math.max.name, Cond.static Lib.Math.max.name, Cond.initialized "java/lang/Math", Cond.code Lib.Math.max.name Lib.Math.max.code 2 (some .int), Cond.methodLink RX5 72 yX5_blooms, Cond.instanceMethod yX5_blooms, Cond.selects RX5 yX5_blooms yX5_blooms, Cond.code yX5_blooms cX5_blooms 3 (some .int), Cond.fieldLink RX5 9 "BlossomToursModel" "from" "[I", Cond.fieldLink RX5 13 "BlossomToursModel" "length" "[I", Cond.methodLink RX5 66 Lib.Math.min.name, Cond.static Lib.Math.min.name, Cond.code Lib.Math.min.name Lib.Math.min.code 2 (some .int), Cond.methodLink RX5 88 yX5_crowd, Cond.instanceMethod yX5_crowd, Cond.selects RX5 yX5_crowd yX5_crowd, Cond.code yX5_crowd cX5_crowd 4 (some .int), Cond.methodLink RX5 81 yX5_has, Cond.instanceMethod yX5_has, Cond.selects RX5 yX5_has yX5_has, Cond.code yX5_has cX5_has 4 (some .boolean), Cond.methodLink RX5 100 yX5_stingsOf]
def wsX5_pass_r3 : List Cond := [Cond.instanceMethod yX5_stingsOf, Cond.selects RX5 yX5_stingsOf yX5_stingsOf, Cond.code yX5_stingsOf cX5_stingsOf 5 (some .int), Cond.fieldLink RX5 16 "BlossomToursModel" "bees" "[I"]
def wsX5_pass : List Cond := .code yX5_pass cX5_pass 4 none :: ((wsX5_pass_r1 ++ (wsX5_pass_r2 ++ wsX5_pass_r3)) ++ wsX50)
def wsX5_pass__r1 : List Cond := [Cond.fieldLink RX5 37 "BlossomToursModel" "thrown" "I", Cond.fieldLink RX5 34 "BlossomToursModel" "numbers" "[I", Cond.methodLink RX5 44 yX5_isIn, Cond.static yX5_isIn, Cond.initialized RX5, Cond.code yX5_isIn cX5_isIn 3 (some .boolean), Cond.methodLink RX5 51 yX5_no, Cond.instanceMethod yX5_no, Cond.selects RX5 yX5_no yX5_no, Cond.code yX5_no cX5_no 2 (some .int), Cond.methodLink RX5 113 yX5_pass, Cond.instanceMethod yX5_pass, Cond.selects RX5 yX5_pass yX5_pass, Cond.code yX5_pass cX5_pass 4 none, Cond.fieldLink RX5 48 "BlossomToursModel" "tours" "I", Cond.fieldLink RX5 25 "BlossomToursModel" "tourists" "[I", Cond.fieldLink RX5 22 "BlossomToursModel" "heat" "[I", Cond.methodLink RX5 85 yX5_goes, Cond.instanceMethod yX5_goes, Cond.selects RX5 yX5_goes yX5_goes, Cond.code yX5_goes cX5_goes 2 (some .boolean), Cond.methodLink RX5 78 yX5_minutes, Cond.instanceMethod yX5_minutes, Cond.selects RX5 yX5_minutes yX5_minutes]
def wsX5_pass__r2 : List Cond := [Cond.code yX5_minutes cX5_minutes 5 (some .int), Cond.fieldLink RX5 28 "BlossomToursModel" "many" "[I", Cond.fieldLink RX5 19 "BlossomToursModel" "ways" "[I", Cond.methodLink RX5 75 yX5_at, Cond.instanceMethod yX5_at, Cond.selects RX5 yX5_at yX5_at, Cond.code yX5_at cX5_at 3 (some .int), Cond.fieldLink RX5 31 "BlossomToursModel" "list" "[I", Cond.methodLink RX5 97 yX5_joyOf, Cond.instanceMethod yX5_joyOf, Cond.selects RX5 yX5_joyOf yX5_joyOf, Cond.code yX5_joyOf cX5_joyOf 5 (some .int), Cond.methodLink RX5 91 Lib.Math.max.name, Cond.static Lib.Math.max.name, Cond.initialized "java/lang/Math", Cond.code Lib.Math.max.name Lib.Math.max.code 2 (some .int), Cond.methodLink RX5 72 yX5_blooms, Cond.instanceMethod yX5_blooms, Cond.selects RX5 yX5_blooms yX5_blooms, Cond.code yX5_blooms cX5_blooms 3 (some .int), Cond.fieldLink RX5 9 "BlossomToursModel" "from" "[I", Cond.fieldLink RX5 13 "BlossomToursModel" "length" "[I", Cond.methodLink RX5 66 Lib.Math.min.name, Cond.static Lib.Math.min.name]
def wsX5_pass__r3 : List Cond := [Cond.code Lib.Math.min.name Lib.Math.min.code 2 (some .int), Cond.methodLink RX5 88 yX5_crowd, Cond.instanceMethod yX5_crowd, Cond.selects RX5 yX5_crowd yX5_crowd, Cond.code yX5_crowd cX5_crowd 4 (some .int), Cond.methodLink RX5 81 yX5_has, Cond.instanceMethod yX5_has, Cond.selects RX5 yX5_has yX5_has, Cond.code yX5_has cX5_has 4 (some .boolean), Cond.methodLink RX5 100 yX5_stingsOf, Cond.instanceMethod yX5_stingsOf, Cond.selects RX5 yX5_stingsOf yX5_stingsOf, Cond.code yX5_stingsOf cX5_stingsOf 5 (some .int), Cond.fieldLink RX5 16 "BlossomToursModel" "bees" "[I"]
def wsX5_pass_ : List Cond := .code yX5_pass_ cX5_pass_ 4 (some .int) :: ((wsX5_pass__r1 ++ (wsX5_pass__r2 ++ wsX5_pass__r3)) ++ wsX50)
def wsX5_joy_r1 : List Cond := [Cond.fieldLink RX5 37 "BlossomToursModel" "thrown" "I", Cond.methodLink RX5 94 yX5_isTour, Cond.instanceMethod yX5_isTour, Cond.selects RX5 yX5_isTour yX5_isTour, Cond.initialized RX5, Cond.code yX5_isTour cX5_isTour 2 (some .boolean), Cond.fieldLink RX5 48 "BlossomToursModel" "tours" "I", Cond.methodLink RX5 44 yX5_isIn, Cond.static yX5_isIn, Cond.code yX5_isIn cX5_isIn 3 (some .boolean), Cond.methodLink RX5 51 yX5_no, Cond.instanceMethod yX5_no, Cond.selects RX5 yX5_no yX5_no, Cond.code yX5_no cX5_no 2 (some .int), Cond.methodLink RX5 97 yX5_joyOf, Cond.instanceMethod yX5_joyOf, Cond.selects RX5 yX5_joyOf yX5_joyOf, Cond.code yX5_joyOf cX5_joyOf 5 (some .int), Cond.fieldLink RX5 28 "BlossomToursModel" "many" "[I", Cond.methodLink RX5 91 Lib.Math.max.name, Cond.static Lib.Math.max.name, Cond.initialized "java/lang/Math", Cond.code Lib.Math.max.name Lib.Math.max.code 2 (some .int), Cond.methodLink RX5 85 yX5_goes]
def wsX5_joy_r2 : List Cond := [Cond.instanceMethod yX5_goes, Cond.selects RX5 yX5_goes yX5_goes, Cond.code yX5_goes cX5_goes 2 (some .boolean), Cond.methodLink RX5 78 yX5_minutes, Cond.instanceMethod yX5_minutes, Cond.selects RX5 yX5_minutes yX5_minutes, Cond.code yX5_minutes cX5_minutes 5 (some .int), Cond.fieldLink RX5 19 "BlossomToursModel" "ways" "[I", Cond.methodLink RX5 75 yX5_at, Cond.instanceMethod yX5_at, Cond.selects RX5 yX5_at yX5_at, Cond.code yX5_at cX5_at 3 (some .int), Cond.fieldLink RX5 31 "BlossomToursModel" "list" "[I", Cond.methodLink RX5 72 yX5_blooms, Cond.instanceMethod yX5_blooms, Cond.selects RX5 yX5_blooms yX5_blooms, Cond.code yX5_blooms cX5_blooms 3 (some .int), Cond.fieldLink RX5 9 "BlossomToursModel" "from" "[I", Cond.fieldLink RX5 13 "BlossomToursModel" "length" "[I", Cond.methodLink RX5 66 Lib.Math.min.name, Cond.static Lib.Math.min.name, Cond.code Lib.Math.min.name Lib.Math.min.code 2 (some .int), Cond.methodLink RX5 88 yX5_crowd, Cond.instanceMethod yX5_crowd]
def wsX5_joy_r3 : List Cond := [Cond.selects RX5 yX5_crowd yX5_crowd, Cond.code yX5_crowd cX5_crowd 4 (some .int), Cond.fieldLink RX5 25 "BlossomToursModel" "tourists" "[I", Cond.methodLink RX5 81 yX5_has, Cond.instanceMethod yX5_has, Cond.selects RX5 yX5_has yX5_has, Cond.code yX5_has cX5_has 4 (some .boolean)]
def wsX5_joy : List Cond := .code yX5_joy cX5_joy 3 (some .int) :: ((wsX5_joy_r1 ++ (wsX5_joy_r2 ++ wsX5_joy_r3)) ++ wsX50)
def wsX5_best_r1 : List Cond := [Cond.fieldLink RX5 37 "BlossomToursModel" "thrown" "I", Cond.fieldLink RX5 34 "BlossomToursModel" "numbers" "[I", Cond.methodLink RX5 94 yX5_isTour, Cond.instanceMethod yX5_isTour, Cond.selects RX5 yX5_isTour yX5_isTour, Cond.initialized RX5, Cond.code yX5_isTour cX5_isTour 2 (some .boolean), Cond.fieldLink RX5 48 "BlossomToursModel" "tours" "I", Cond.methodLink RX5 44 yX5_isIn, Cond.static yX5_isIn, Cond.code yX5_isIn cX5_isIn 3 (some .boolean), Cond.methodLink RX5 51 yX5_no, Cond.instanceMethod yX5_no, Cond.selects RX5 yX5_no yX5_no, Cond.code yX5_no cX5_no 2 (some .int), Cond.methodLink RX5 97 yX5_joyOf, Cond.instanceMethod yX5_joyOf, Cond.selects RX5 yX5_joyOf yX5_joyOf, Cond.code yX5_joyOf cX5_joyOf 5 (some .int), Cond.fieldLink RX5 28 "BlossomToursModel" "many" "[I", Cond.methodLink RX5 91 Lib.Math.max.name, Cond.static Lib.Math.max.name, Cond.initialized "java/lang/Math", Cond.code Lib.Math.max.name Lib.Math.max.code 2 (some .int)]
def wsX5_best_r2 : List Cond := [Cond.methodLink RX5 85 yX5_goes, Cond.instanceMethod yX5_goes, Cond.selects RX5 yX5_goes yX5_goes, Cond.code yX5_goes cX5_goes 2 (some .boolean), Cond.methodLink RX5 78 yX5_minutes, Cond.instanceMethod yX5_minutes, Cond.selects RX5 yX5_minutes yX5_minutes, Cond.code yX5_minutes cX5_minutes 5 (some .int), Cond.fieldLink RX5 19 "BlossomToursModel" "ways" "[I", Cond.methodLink RX5 75 yX5_at, Cond.instanceMethod yX5_at, Cond.selects RX5 yX5_at yX5_at, Cond.code yX5_at cX5_at 3 (some .int), Cond.fieldLink RX5 31 "BlossomToursModel" "list" "[I", Cond.methodLink RX5 72 yX5_blooms, Cond.instanceMethod yX5_blooms, Cond.selects RX5 yX5_blooms yX5_blooms, Cond.code yX5_blooms cX5_blooms 3 (some .int), Cond.fieldLink RX5 9 "BlossomToursModel" "from" "[I", Cond.fieldLink RX5 13 "BlossomToursModel" "length" "[I", Cond.methodLink RX5 66 Lib.Math.min.name, Cond.static Lib.Math.min.name, Cond.code Lib.Math.min.name Lib.Math.min.code 2 (some .int), Cond.methodLink RX5 88 yX5_crowd]
def wsX5_best_r3 : List Cond := [Cond.instanceMethod yX5_crowd, Cond.selects RX5 yX5_crowd yX5_crowd, Cond.code yX5_crowd cX5_crowd 4 (some .int), Cond.fieldLink RX5 25 "BlossomToursModel" "tourists" "[I", Cond.methodLink RX5 81 yX5_has, Cond.instanceMethod yX5_has, Cond.selects RX5 yX5_has yX5_has, Cond.code yX5_has cX5_has 4 (some .boolean)]
def wsX5_best : List Cond := .code yX5_best cX5_best 6 (some .int) :: ((wsX5_best_r1 ++ (wsX5_best_r2 ++ wsX5_best_r3)) ++ wsX50)
def wsX5_advise_r1 : List Cond := [Cond.fieldLink RX5 37 "BlossomToursModel" "thrown" "I", Cond.fieldLink RX5 28 "BlossomToursModel" "many" "[I", Cond.fieldLink RX5 34 "BlossomToursModel" "numbers" "[I", Cond.fieldLink RX5 41 "BlossomToursModel" "valleys" "I", Cond.fieldLink RX5 31 "BlossomToursModel" "list" "[I", Cond.methodLink RX5 94 yX5_isTour, Cond.instanceMethod yX5_isTour, Cond.selects RX5 yX5_isTour yX5_isTour, Cond.initialized RX5, Cond.code yX5_isTour cX5_isTour 2 (some .boolean), Cond.fieldLink RX5 48 "BlossomToursModel" "tours" "I", Cond.methodLink RX5 44 yX5_isIn, Cond.static yX5_isIn, Cond.code yX5_isIn cX5_isIn 3 (some .boolean), Cond.methodLink RX5 51 yX5_no, Cond.instanceMethod yX5_no, Cond.selects RX5 yX5_no yX5_no, Cond.code yX5_no cX5_no 2 (some .int), Cond.methodLink RX5 97 yX5_joyOf, Cond.instanceMethod yX5_joyOf, Cond.selects RX5 yX5_joyOf yX5_joyOf, Cond.code yX5_joyOf cX5_joyOf 5 (some .int), Cond.methodLink RX5 91 Lib.Math.max.name, Cond.static Lib.Math.max.name]
def wsX5_advise_r2 : List Cond := [Cond.initialized "java/lang/Math", Cond.code Lib.Math.max.name Lib.Math.max.code 2 (some .int), Cond.methodLink RX5 85 yX5_goes, Cond.instanceMethod yX5_goes, Cond.selects RX5 yX5_goes yX5_goes, Cond.code yX5_goes cX5_goes 2 (some .boolean), Cond.methodLink RX5 78 yX5_minutes, Cond.instanceMethod yX5_minutes, Cond.selects RX5 yX5_minutes yX5_minutes, Cond.code yX5_minutes cX5_minutes 5 (some .int), Cond.fieldLink RX5 19 "BlossomToursModel" "ways" "[I", Cond.methodLink RX5 75 yX5_at, Cond.instanceMethod yX5_at, Cond.selects RX5 yX5_at yX5_at, Cond.code yX5_at cX5_at 3 (some .int), Cond.methodLink RX5 72 yX5_blooms, Cond.instanceMethod yX5_blooms, Cond.selects RX5 yX5_blooms yX5_blooms, Cond.code yX5_blooms cX5_blooms 3 (some .int), Cond.fieldLink RX5 9 "BlossomToursModel" "from" "[I", Cond.fieldLink RX5 13 "BlossomToursModel" "length" "[I", Cond.methodLink RX5 66 Lib.Math.min.name, Cond.static Lib.Math.min.name, Cond.code Lib.Math.min.name Lib.Math.min.code 2 (some .int)]
def wsX5_advise_r3 : List Cond := [Cond.methodLink RX5 88 yX5_crowd, Cond.instanceMethod yX5_crowd, Cond.selects RX5 yX5_crowd yX5_crowd, Cond.code yX5_crowd cX5_crowd 4 (some .int), Cond.fieldLink RX5 25 "BlossomToursModel" "tourists" "[I", Cond.methodLink RX5 81 yX5_has, Cond.instanceMethod yX5_has, Cond.selects RX5 yX5_has yX5_has, Cond.code yX5_has cX5_has 4 (some .boolean)]
def wsX5_advise : List Cond := .code yX5_advise cX5_advise 6 (some .int) :: ((wsX5_advise_r1 ++ (wsX5_advise_r2 ++ wsX5_advise_r3)) ++ wsX50)
def wsX5_foresee_r1 : List Cond := [Cond.fieldLink RX5 37 "BlossomToursModel" "thrown" "I", Cond.fieldLink RX5 34 "BlossomToursModel" "numbers" "[I", Cond.methodLink RX5 117 ⟨"[I", "clone", "()Ljava/lang/Object;"⟩, Cond.sameMethod "[I" "java/lang/Object" "clone" "()Ljava/lang/Object;", Cond.native ⟨"java/lang/Object", "clone", "()Ljava/lang/Object;"⟩, Cond.instanceMethod ⟨"java/lang/Object", "clone", "()Ljava/lang/Object;"⟩, Cond.selects "[I" ⟨"[I", "clone", "()Ljava/lang/Object;"⟩ ⟨"java/lang/Object", "clone", "()Ljava/lang/Object;"⟩, Cond.classLink RX5 118 "[I", Cond.methodLink RX5 44 yX5_isIn, Cond.static yX5_isIn, Cond.initialized RX5, Cond.code yX5_isIn cX5_isIn 3 (some .boolean), Cond.methodLink RX5 51 yX5_no, Cond.instanceMethod yX5_no, Cond.selects RX5 yX5_no yX5_no, Cond.code yX5_no cX5_no 2 (some .int), Cond.methodLink RX5 113 yX5_pass, Cond.instanceMethod yX5_pass, Cond.selects RX5 yX5_pass yX5_pass, Cond.code yX5_pass cX5_pass 4 none, Cond.fieldLink RX5 48 "BlossomToursModel" "tours" "I", Cond.fieldLink RX5 25 "BlossomToursModel" "tourists" "[I", Cond.fieldLink RX5 22 "BlossomToursModel" "heat" "[I", Cond.methodLink RX5 85 yX5_goes]
def wsX5_foresee_r2 : List Cond := [Cond.instanceMethod yX5_goes, Cond.selects RX5 yX5_goes yX5_goes, Cond.code yX5_goes cX5_goes 2 (some .boolean), Cond.methodLink RX5 78 yX5_minutes, Cond.instanceMethod yX5_minutes, Cond.selects RX5 yX5_minutes yX5_minutes, Cond.code yX5_minutes cX5_minutes 5 (some .int), Cond.fieldLink RX5 28 "BlossomToursModel" "many" "[I", Cond.fieldLink RX5 19 "BlossomToursModel" "ways" "[I", Cond.methodLink RX5 75 yX5_at, Cond.instanceMethod yX5_at, Cond.selects RX5 yX5_at yX5_at, Cond.code yX5_at cX5_at 3 (some .int), Cond.fieldLink RX5 31 "BlossomToursModel" "list" "[I", Cond.methodLink RX5 97 yX5_joyOf, Cond.instanceMethod yX5_joyOf, Cond.selects RX5 yX5_joyOf yX5_joyOf, Cond.code yX5_joyOf cX5_joyOf 5 (some .int), Cond.methodLink RX5 91 Lib.Math.max.name, Cond.static Lib.Math.max.name, Cond.initialized "java/lang/Math", Cond.code Lib.Math.max.name Lib.Math.max.code 2 (some .int), Cond.methodLink RX5 72 yX5_blooms, Cond.instanceMethod yX5_blooms]
def wsX5_foresee_r3 : List Cond := [Cond.selects RX5 yX5_blooms yX5_blooms, Cond.code yX5_blooms cX5_blooms 3 (some .int), Cond.fieldLink RX5 9 "BlossomToursModel" "from" "[I", Cond.fieldLink RX5 13 "BlossomToursModel" "length" "[I", Cond.methodLink RX5 66 Lib.Math.min.name, Cond.static Lib.Math.min.name, Cond.code Lib.Math.min.name Lib.Math.min.code 2 (some .int), Cond.methodLink RX5 88 yX5_crowd, Cond.instanceMethod yX5_crowd, Cond.selects RX5 yX5_crowd yX5_crowd, Cond.code yX5_crowd cX5_crowd 4 (some .int), Cond.methodLink RX5 81 yX5_has, Cond.instanceMethod yX5_has, Cond.selects RX5 yX5_has yX5_has, Cond.code yX5_has cX5_has 4 (some .boolean), Cond.methodLink RX5 100 yX5_stingsOf, Cond.instanceMethod yX5_stingsOf, Cond.selects RX5 yX5_stingsOf yX5_stingsOf, Cond.code yX5_stingsOf cX5_stingsOf 5 (some .int), Cond.fieldLink RX5 16 "BlossomToursModel" "bees" "[I", Cond.methodLink RX5 109 yX5_counted, Cond.instanceMethod yX5_counted, Cond.selects RX5 yX5_counted yX5_counted, Cond.code yX5_counted cX5_counted 6 (some .int)]
def wsX5_foresee_r4 : List Cond := [Cond.fieldLink RX5 41 "BlossomToursModel" "valleys" "I", Cond.arrayClass .int, Cond.fieldLink RX5 59 "BlossomToursModel" "roads" "I"]
def wsX5_foresee : List Cond := .code yX5_foresee cX5_foresee 5 (some .int) :: ((wsX5_foresee_r1 ++ (wsX5_foresee_r2 ++ (wsX5_foresee_r3 ++ wsX5_foresee_r4))) ++ wsX50)
def wsX5_mean : List Cond := .code yX5_mean cX5_mean 3 (some .double) :: ([.fieldLink RX5 37 "BlossomToursModel" "thrown" "I", .fieldLink RX5 41 "BlossomToursModel" "valleys" "I", .fieldLink RX5 34 "BlossomToursModel" "numbers" "[I", .methodLink RX5 72 yX5_blooms, .instanceMethod yX5_blooms, .selects RX5 yX5_blooms yX5_blooms, .initialized RX5, .code yX5_blooms cX5_blooms 3 (some .int), .fieldLink RX5 9 "BlossomToursModel" "from" "[I", .fieldLink RX5 13 "BlossomToursModel" "length" "[I", .methodLink RX5 66 Lib.Math.min.name, .static Lib.Math.min.name, .initialized "java/lang/Math", .code Lib.Math.min.name Lib.Math.min.code 2 (some .int), .methodLink RX5 44 yX5_isIn, .static yX5_isIn, .code yX5_isIn cX5_isIn 3 (some .boolean)] ++ wsX50)
def wsX5_digest_r1 : List Cond := [Cond.fieldLink RX5 37 "BlossomToursModel" "thrown" "I", Cond.constantLong RX5 122 (1213), Cond.constantLong RX5 124 (31), Cond.fieldLink RX5 34 "BlossomToursModel" "numbers" "[I", Cond.fieldLink RX5 22 "BlossomToursModel" "heat" "[I", Cond.fieldLink RX5 41 "BlossomToursModel" "valleys" "I", Cond.fieldLink RX5 19 "BlossomToursModel" "ways" "[I", Cond.fieldLink RX5 48 "BlossomToursModel" "tours" "I", Cond.fieldLink RX5 28 "BlossomToursModel" "many" "[I", Cond.methodLink RX5 109 yX5_counted, Cond.instanceMethod yX5_counted, Cond.selects RX5 yX5_counted yX5_counted, Cond.initialized RX5, Cond.code yX5_counted cX5_counted 6 (some .int), Cond.arrayClass .int, Cond.fieldLink RX5 59 "BlossomToursModel" "roads" "I", Cond.methodLink RX5 72 yX5_blooms, Cond.instanceMethod yX5_blooms, Cond.selects RX5 yX5_blooms yX5_blooms, Cond.code yX5_blooms cX5_blooms 3 (some .int), Cond.fieldLink RX5 9 "BlossomToursModel" "from" "[I", Cond.fieldLink RX5 13 "BlossomToursModel" "length" "[I", Cond.methodLink RX5 66 Lib.Math.min.name, Cond.static Lib.Math.min.name]
def wsX5_digest_r2 : List Cond := [Cond.initialized "java/lang/Math", Cond.code Lib.Math.min.name Lib.Math.min.code 2 (some .int), Cond.methodLink RX5 44 yX5_isIn, Cond.static yX5_isIn, Cond.code yX5_isIn cX5_isIn 3 (some .boolean), Cond.methodLink RX5 85 yX5_goes, Cond.instanceMethod yX5_goes, Cond.selects RX5 yX5_goes yX5_goes, Cond.code yX5_goes cX5_goes 2 (some .boolean), Cond.methodLink RX5 78 yX5_minutes, Cond.instanceMethod yX5_minutes, Cond.selects RX5 yX5_minutes yX5_minutes, Cond.code yX5_minutes cX5_minutes 5 (some .int), Cond.methodLink RX5 75 yX5_at, Cond.instanceMethod yX5_at, Cond.selects RX5 yX5_at yX5_at, Cond.code yX5_at cX5_at 3 (some .int), Cond.fieldLink RX5 31 "BlossomToursModel" "list" "[I", Cond.methodLink RX5 106 yX5_valleyTold, Cond.instanceMethod yX5_valleyTold, Cond.selects RX5 yX5_valleyTold yX5_valleyTold, Cond.code yX5_valleyTold cX5_valleyTold 5 (some .int), Cond.fieldLink RX5 16 "BlossomToursModel" "bees" "[I", Cond.methodLink RX5 81 yX5_has]
def wsX5_digest_r3 : List Cond := [Cond.instanceMethod yX5_has, Cond.selects RX5 yX5_has yX5_has, Cond.code yX5_has cX5_has 4 (some .boolean), Cond.methodLink RX5 88 yX5_crowd, Cond.instanceMethod yX5_crowd, Cond.selects RX5 yX5_crowd yX5_crowd, Cond.code yX5_crowd cX5_crowd 4 (some .int), Cond.fieldLink RX5 25 "BlossomToursModel" "tourists" "[I", Cond.methodLink RX5 103 yX5_tourTold, Cond.instanceMethod yX5_tourTold, Cond.selects RX5 yX5_tourTold yX5_tourTold, Cond.code yX5_tourTold cX5_tourTold 3 (some .int), Cond.methodLink RX5 97 yX5_joyOf, Cond.instanceMethod yX5_joyOf, Cond.selects RX5 yX5_joyOf yX5_joyOf, Cond.code yX5_joyOf cX5_joyOf 5 (some .int), Cond.methodLink RX5 91 Lib.Math.max.name, Cond.static Lib.Math.max.name, Cond.code Lib.Math.max.name Lib.Math.max.code 2 (some .int), Cond.methodLink RX5 100 yX5_stingsOf, Cond.instanceMethod yX5_stingsOf, Cond.selects RX5 yX5_stingsOf yX5_stingsOf, Cond.code yX5_stingsOf cX5_stingsOf 5 (some .int)]
def wsX5_digest : List Cond := .code yX5_digest cX5_digest 7 (some .long) :: ((wsX5_digest_r1 ++ (wsX5_digest_r2 ++ wsX5_digest_r3)) ++ wsX50)
def wsJ9_max_7cf53 : List Cond := .code yJ9_max_7cf53 cJ9_max_7cf53 2 (some .int) :: ([])
def wsJ9_min_7cf53 : List Cond := .code yJ9_min_7cf53 cJ9_min_7cf53 2 (some .int) :: ([])
def wsL_valley : List Cond := .codeWith yL_valley cL_valley 6 (some .int) [(0, 12, 15, 13), (0, 12, 19, 15)] :: ([.classLink RL 13 "java/lang/IllegalArgumentException", .classLink RL 15 "java/lang/IllegalStateException", .methodLink RL 7 yX4_valley, .instanceMethod yX4_valley, .selects RX4 yX4_valley yX4_valley, .initialized RX4, .code yX4_valley cX4_valley 5 (some .int), .classLink RX4 48 "java/lang/IllegalArgumentException", .initialized "java/lang/IllegalArgumentException", .classLink RX4 63 "java/lang/IllegalStateException", .initialized "java/lang/IllegalStateException", .fieldLink RX4 59 "BlossomTours" "valleyCount" "I", .fieldLink RX4 11 "BlossomTours" "valleys" "[LBlossomTours$Valley;", .methodLink RX4 44 yX4_isWithin, .static yX4_isWithin, .code yX4_isWithin cX4_isWithin 3 (some .boolean)] ++ wsX40 ++ wsX30 ++ (vx_atS RX4 52 "java/lang/IllegalArgumentException" ["java/lang/RuntimeException", "java/lang/Exception"]).filter goodWord ++ (vx_atS RX4 67 "java/lang/IllegalStateException" ["java/lang/RuntimeException", "java/lang/Exception"]).filter goodWord)
def wsL_road_r1 : List Cond := [Cond.classLink RL 20 "java/lang/IndexOutOfBoundsException", Cond.classLink RL 13 "java/lang/IllegalArgumentException", Cond.classLink RL 15 "java/lang/IllegalStateException", Cond.methodLink RL 17 yX4_road, Cond.instanceMethod yX4_road, Cond.selects RX4 yX4_road yX4_road, Cond.initialized RX4, Cond.code yX4_road cX4_road 4 (some .int), Cond.classLink RX4 48 "java/lang/IllegalArgumentException", Cond.initialized "java/lang/IllegalArgumentException", Cond.classLink RX4 63 "java/lang/IllegalStateException", Cond.initialized "java/lang/IllegalStateException", Cond.fieldLink RX4 28 "BlossomTours" "roads" "LBlossomTours$Roads;", Cond.methodLink RX4 77 yX4_checkValley, Cond.instanceMethod yX4_checkValley, Cond.selects RX4 yX4_checkValley yX4_checkValley, Cond.code yX4_checkValley cX4_checkValley 2 none, Cond.classLink RX4 97 "java/lang/IndexOutOfBoundsException", Cond.initialized "java/lang/IndexOutOfBoundsException", Cond.fieldLink RX4 59 "BlossomTours" "valleyCount" "I", Cond.methodLink RX4 44 yX4_isWithin, Cond.static yX4_isWithin, Cond.code yX4_isWithin cX4_isWithin 3 (some .boolean), Cond.instanceMethod yX1_lay]
def wsL_road_r2 : List Cond := [Cond.initialized RX1, Cond.selects RX1 yX1_lay yX1_lay, Cond.code yX1_lay cX1_lay 8 none, Cond.fieldLink RX1 11 "BlossomTours$Roads" "ways" "[[I", Cond.methodLink RX1 21 Lib.Math.min.name, Cond.static Lib.Math.min.name, Cond.initialized "java/lang/Math", Cond.code Lib.Math.min.name Lib.Math.min.code 2 (some .int), Cond.fieldLink RX1 27 "BlossomTours$Roads" "laid" "I", Cond.methodLink RX1 17 yX1_isPlace, Cond.static yX1_isPlace, Cond.code yX1_isPlace cX1_isPlace 1 (some .boolean), Cond.methodLink RX4 94 yX4_reckonCrowds, Cond.instanceMethod yX4_reckonCrowds, Cond.selects RX4 yX4_reckonCrowds yX4_reckonCrowds, Cond.code yX4_reckonCrowds cX4_reckonCrowds 2 none, Cond.fieldLink RX4 11 "BlossomTours" "valleys" "[LBlossomTours$Valley;", Cond.fieldLink RX4 117 "BlossomTours" "tourCount" "I", Cond.fieldLink RX4 17 "BlossomTours" "tours" "[LBlossomTours$Tour;", Cond.instanceMethod yX2_measure, Cond.initialized RX2, Cond.selects RX2 yX2_measure yX2_measure, Cond.code yX2_measure cX2_measure 5 none, Cond.fieldLink RX2 15 "BlossomTours$Tour" "stopCount" "I"]
def wsL_road_r3 : List Cond := [Cond.fieldLink RX2 9 "BlossomTours$Tour" "stops" "[I", Cond.fieldLink RX2 29 "BlossomTours$Tour" "minutes" "I", Cond.instanceMethod yX1_minutesBetween, Cond.selects RX1 yX1_minutesBetween yX1_minutesBetween, Cond.code yX1_minutesBetween cX1_minutesBetween 3 (some .int), Cond.constant RX1 16 (1000000), Cond.instanceMethod yX2_canGo, Cond.selects RX2 yX2_canGo yX2_canGo, Cond.code yX2_canGo cX2_canGo 1 (some .boolean), Cond.methodLink RX4 248 yX4_joinCrowds, Cond.instanceMethod yX4_joinCrowds, Cond.selects RX4 yX4_joinCrowds yX4_joinCrowds, Cond.code yX4_joinCrowds cX4_joinCrowds 3 none, Cond.instanceMethod yX2_visits, Cond.selects RX2 yX2_visits yX2_visits, Cond.code yX2_visits cX2_visits 3 (some .boolean)]
def wsL_road : List Cond := .codeWith yL_road cL_road 6 (some .int) [(0, 12, 15, 20), (0, 12, 19, 13), (0, 12, 23, 15)] :: ((wsL_road_r1 ++ (wsL_road_r2 ++ wsL_road_r3)) ++ wsX40 ++ wsX10 ++ wsX30 ++ wsX20 ++ (vx_atS RX4 52 "java/lang/IllegalArgumentException" ["java/lang/RuntimeException", "java/lang/Exception"]).filter goodWord ++ (vx_atS RX4 67 "java/lang/IllegalStateException" ["java/lang/RuntimeException", "java/lang/Exception"]).filter goodWord ++ (vx_atS RX4 101 "java/lang/IndexOutOfBoundsException" ["java/lang/RuntimeException", "java/lang/Exception"]).filter goodWord)
def wsL_setHeat : List Cond := .codeWith yL_setHeat cL_setHeat 5 (some .int) [(0, 10, 13, 20), (0, 10, 17, 13)] :: ([.classLink RL 20 "java/lang/IndexOutOfBoundsException", .classLink RL 13 "java/lang/IllegalArgumentException", .methodLink RL 22 yX4_setHeat, .instanceMethod yX4_setHeat, .selects RX4 yX4_setHeat yX4_setHeat, .initialized RX4, .code yX4_setHeat cX4_setHeat 4 (some .int), .classLink RX4 97 "java/lang/IndexOutOfBoundsException", .initialized "java/lang/IndexOutOfBoundsException", .classLink RX4 48 "java/lang/IllegalArgumentException", .initialized "java/lang/IllegalArgumentException", .fieldLink RX4 21 "BlossomTours" "heats" "[I", .methodLink RX4 44 yX4_isWithin, .static yX4_isWithin, .code yX4_isWithin cX4_isWithin 3 (some .boolean)] ++ wsX40 ++ (vx_atS RX4 101 "java/lang/IndexOutOfBoundsException" ["java/lang/RuntimeException", "java/lang/Exception"]).filter goodWord ++ (vx_atS RX4 52 "java/lang/IllegalArgumentException" ["java/lang/RuntimeException", "java/lang/Exception"]).filter goodWord)
def wsL_bloom_r1 : List Cond := [Cond.classLink RL 20 "java/lang/IndexOutOfBoundsException", Cond.classLink RL 13 "java/lang/IllegalArgumentException", Cond.methodLink RL 26 yX4_bloom, Cond.instanceMethod yX4_bloom, Cond.selects RX4 yX4_bloom yX4_bloom, Cond.initialized RX4, Cond.code yX4_bloom cX4_bloom 3 (some .int), Cond.fieldLink RX4 11 "BlossomTours" "valleys" "[LBlossomTours$Valley;", Cond.methodLink RX4 77 yX4_checkValley, Cond.instanceMethod yX4_checkValley, Cond.selects RX4 yX4_checkValley yX4_checkValley, Cond.code yX4_checkValley cX4_checkValley 2 none, Cond.classLink RX4 97 "java/lang/IndexOutOfBoundsException", Cond.initialized "java/lang/IndexOutOfBoundsException", Cond.fieldLink RX4 59 "BlossomTours" "valleyCount" "I", Cond.methodLink RX4 104 yX4_checkDay, Cond.static yX4_checkDay, Cond.code yX4_checkDay cX4_checkDay 1 none, Cond.classLink RX4 48 "java/lang/IllegalArgumentException", Cond.initialized "java/lang/IllegalArgumentException", Cond.instanceMethod yX3_bloomOn, Cond.initialized RX3, Cond.selects RX3 yX3_bloomOn yX3_bloomOn, Cond.code yX3_bloomOn cX3_bloomOn 5 (some .int)]
def wsL_bloom_r2 : List Cond := [Cond.fieldLink RX3 7 "BlossomTours$Valley" "from" "I", Cond.fieldLink RX3 13 "BlossomTours$Valley" "length" "I", Cond.methodLink RX3 16 Lib.Math.min.name, Cond.static Lib.Math.min.name, Cond.initialized "java/lang/Math", Cond.code Lib.Math.min.name Lib.Math.min.code 2 (some .int)]
def wsL_bloom : List Cond := .codeWith yL_bloom cL_bloom 5 (some .int) [(0, 10, 13, 20), (0, 10, 17, 13)] :: ((wsL_bloom_r1 ++ wsL_bloom_r2) ++ wsX40 ++ wsX30 ++ (vx_atS RX4 101 "java/lang/IndexOutOfBoundsException" ["java/lang/RuntimeException", "java/lang/Exception"]).filter goodWord ++ (vx_atS RX4 52 "java/lang/IllegalArgumentException" ["java/lang/RuntimeException", "java/lang/Exception"]).filter goodWord)
def wsL_way_r1 : List Cond := [Cond.classLink RL 20 "java/lang/IndexOutOfBoundsException", Cond.methodLink RL 29 yX4_way, Cond.instanceMethod yX4_way, Cond.selects RX4 yX4_way yX4_way, Cond.initialized RX4, Cond.code yX4_way cX4_way 3 (some .int), Cond.fieldLink RX4 28 "BlossomTours" "roads" "LBlossomTours$Roads;", Cond.methodLink RX4 77 yX4_checkValley, Cond.instanceMethod yX4_checkValley, Cond.selects RX4 yX4_checkValley yX4_checkValley, Cond.code yX4_checkValley cX4_checkValley 2 none, Cond.classLink RX4 97 "java/lang/IndexOutOfBoundsException", Cond.initialized "java/lang/IndexOutOfBoundsException", Cond.fieldLink RX4 59 "BlossomTours" "valleyCount" "I", Cond.instanceMethod yX1_minutesBetween, Cond.initialized RX1, Cond.selects RX1 yX1_minutesBetween yX1_minutesBetween, Cond.code yX1_minutesBetween cX1_minutesBetween 3 (some .int), Cond.fieldLink RX1 11 "BlossomTours$Roads" "ways" "[[I", Cond.constant RX1 16 (1000000), Cond.methodLink RX1 17 yX1_isPlace, Cond.static yX1_isPlace, Cond.code yX1_isPlace cX1_isPlace 1 (some .boolean), Cond.static yX4_isWithin]
def wsL_way_r2 : List Cond := [Cond.code yX4_isWithin cX4_isWithin 3 (some .boolean)]
def wsL_way : List Cond := .codeWith yL_way cL_way 5 (some .int) [(0, 10, 13, 20)] :: ((wsL_way_r1 ++ wsL_way_r2) ++ wsX40 ++ wsX10 ++ (vx_atS RX4 101 "java/lang/IndexOutOfBoundsException" ["java/lang/RuntimeException", "java/lang/Exception"]).filter goodWord)
def wsL_tour : List Cond := .codeWith yL_tour cL_tour 4 (some .int) [(0, 9, 12, 13), (0, 9, 15, 15)] :: ([.classLink RL 13 "java/lang/IllegalArgumentException", .classLink RL 15 "java/lang/IllegalStateException", .methodLink RL 32 yX4_tour, .instanceMethod yX4_tour, .selects RX4 yX4_tour yX4_tour, .initialized RX4, .code yX4_tour cX4_tour 2 (some .int), .classLink RX4 48 "java/lang/IllegalArgumentException", .initialized "java/lang/IllegalArgumentException", .classLink RX4 63 "java/lang/IllegalStateException", .initialized "java/lang/IllegalStateException", .fieldLink RX4 117 "BlossomTours" "tourCount" "I", .fieldLink RX4 17 "BlossomTours" "tours" "[LBlossomTours$Tour;", .methodLink RX4 44 yX4_isWithin, .static yX4_isWithin, .code yX4_isWithin cX4_isWithin 3 (some .boolean)] ++ wsX40 ++ wsX20 ++ (vx_atS RX4 52 "java/lang/IllegalArgumentException" ["java/lang/RuntimeException", "java/lang/Exception"]).filter goodWord ++ (vx_atS RX4 67 "java/lang/IllegalStateException" ["java/lang/RuntimeException", "java/lang/Exception"]).filter goodWord)
def wsL_add_r1 : List Cond := [Cond.classLink RL 20 "java/lang/IndexOutOfBoundsException", Cond.classLink RL 15 "java/lang/IllegalStateException", Cond.methodLink RL 36 yX4_add, Cond.instanceMethod yX4_add, Cond.selects RX4 yX4_add yX4_add, Cond.initialized RX4, Cond.code yX4_add cX4_add 4 (some .int), Cond.classLink RX4 63 "java/lang/IllegalStateException", Cond.initialized "java/lang/IllegalStateException", Cond.fieldLink RX4 17 "BlossomTours" "tours" "[LBlossomTours$Tour;", Cond.methodLink RX4 125 yX4_checkTour, Cond.instanceMethod yX4_checkTour, Cond.selects RX4 yX4_checkTour yX4_checkTour, Cond.code yX4_checkTour cX4_checkTour 2 none, Cond.classLink RX4 97 "java/lang/IndexOutOfBoundsException", Cond.initialized "java/lang/IndexOutOfBoundsException", Cond.fieldLink RX4 117 "BlossomTours" "tourCount" "I", Cond.methodLink RX4 77 yX4_checkValley, Cond.instanceMethod yX4_checkValley, Cond.selects RX4 yX4_checkValley yX4_checkValley, Cond.code yX4_checkValley cX4_checkValley 2 none, Cond.fieldLink RX4 59 "BlossomTours" "valleyCount" "I", Cond.instanceMethod yX2_isFull, Cond.initialized RX2]
def wsL_add_r2 : List Cond := [Cond.selects RX2 yX2_isFull yX2_isFull, Cond.code yX2_isFull cX2_isFull 1 (some .boolean), Cond.fieldLink RX2 15 "BlossomTours$Tour" "stopCount" "I", Cond.fieldLink RX2 9 "BlossomTours$Tour" "stops" "[I", Cond.instanceMethod yX2_visits, Cond.selects RX2 yX2_visits yX2_visits, Cond.code yX2_visits cX2_visits 3 (some .boolean), Cond.instanceMethod yX2_append, Cond.selects RX2 yX2_append yX2_append, Cond.code yX2_append cX2_append 2 none, Cond.methodLink RX2 19 yX2_isFull, Cond.methodLink RX4 94 yX4_reckonCrowds, Cond.instanceMethod yX4_reckonCrowds, Cond.selects RX4 yX4_reckonCrowds yX4_reckonCrowds, Cond.code yX4_reckonCrowds cX4_reckonCrowds 2 none, Cond.fieldLink RX4 11 "BlossomTours" "valleys" "[LBlossomTours$Valley;", Cond.fieldLink RX4 28 "BlossomTours" "roads" "LBlossomTours$Roads;", Cond.instanceMethod yX2_measure, Cond.selects RX2 yX2_measure yX2_measure, Cond.code yX2_measure cX2_measure 5 none, Cond.fieldLink RX2 29 "BlossomTours$Tour" "minutes" "I", Cond.instanceMethod yX1_minutesBetween, Cond.initialized RX1, Cond.selects RX1 yX1_minutesBetween yX1_minutesBetween]
def wsL_add_r3 : List Cond := [Cond.code yX1_minutesBetween cX1_minutesBetween 3 (some .int), Cond.fieldLink RX1 11 "BlossomTours$Roads" "ways" "[[I", Cond.constant RX1 16 (1000000), Cond.methodLink RX1 17 yX1_isPlace, Cond.static yX1_isPlace, Cond.code yX1_isPlace cX1_isPlace 1 (some .boolean), Cond.static yX4_isWithin, Cond.code yX4_isWithin cX4_isWithin 3 (some .boolean), Cond.instanceMethod yX2_canGo, Cond.selects RX2 yX2_canGo yX2_canGo, Cond.code yX2_canGo cX2_canGo 1 (some .boolean), Cond.methodLink RX4 248 yX4_joinCrowds, Cond.instanceMethod yX4_joinCrowds, Cond.selects RX4 yX4_joinCrowds yX4_joinCrowds, Cond.code yX4_joinCrowds cX4_joinCrowds 3 none]
def wsL_add : List Cond := .codeWith yL_add cL_add 5 (some .int) [(0, 10, 13, 20), (0, 10, 17, 15)] :: ((wsL_add_r1 ++ (wsL_add_r2 ++ wsL_add_r3)) ++ wsX40 ++ wsX20 ++ wsX30 ++ wsX10 ++ (vx_atS RX4 67 "java/lang/IllegalStateException" ["java/lang/RuntimeException", "java/lang/Exception"]).filter goodWord ++ (vx_atS RX4 101 "java/lang/IndexOutOfBoundsException" ["java/lang/RuntimeException", "java/lang/Exception"]).filter goodWord)
def wsL_cut_r1 : List Cond := [Cond.classLink RL 20 "java/lang/IndexOutOfBoundsException", Cond.classLink RL 15 "java/lang/IllegalStateException", Cond.methodLink RL 39 yX4_cut, Cond.instanceMethod yX4_cut, Cond.selects RX4 yX4_cut yX4_cut, Cond.initialized RX4, Cond.code yX4_cut cX4_cut 4 (some .int), Cond.classLink RX4 63 "java/lang/IllegalStateException", Cond.initialized "java/lang/IllegalStateException", Cond.fieldLink RX4 17 "BlossomTours" "tours" "[LBlossomTours$Tour;", Cond.methodLink RX4 125 yX4_checkTour, Cond.instanceMethod yX4_checkTour, Cond.selects RX4 yX4_checkTour yX4_checkTour, Cond.code yX4_checkTour cX4_checkTour 2 none, Cond.classLink RX4 97 "java/lang/IndexOutOfBoundsException", Cond.initialized "java/lang/IndexOutOfBoundsException", Cond.fieldLink RX4 117 "BlossomTours" "tourCount" "I", Cond.instanceMethod yX2_takeLast, Cond.initialized RX2, Cond.selects RX2 yX2_takeLast yX2_takeLast, Cond.code yX2_takeLast cX2_takeLast 1 (some .int), Cond.fieldLink RX2 15 "BlossomTours$Tour" "stopCount" "I", Cond.fieldLink RX2 9 "BlossomTours$Tour" "stops" "[I", Cond.methodLink RX4 94 yX4_reckonCrowds]
def wsL_cut_r2 : List Cond := [Cond.instanceMethod yX4_reckonCrowds, Cond.selects RX4 yX4_reckonCrowds yX4_reckonCrowds, Cond.code yX4_reckonCrowds cX4_reckonCrowds 2 none, Cond.fieldLink RX4 59 "BlossomTours" "valleyCount" "I", Cond.fieldLink RX4 11 "BlossomTours" "valleys" "[LBlossomTours$Valley;", Cond.fieldLink RX4 28 "BlossomTours" "roads" "LBlossomTours$Roads;", Cond.instanceMethod yX2_measure, Cond.selects RX2 yX2_measure yX2_measure, Cond.code yX2_measure cX2_measure 5 none, Cond.fieldLink RX2 29 "BlossomTours$Tour" "minutes" "I", Cond.instanceMethod yX1_minutesBetween, Cond.initialized RX1, Cond.selects RX1 yX1_minutesBetween yX1_minutesBetween, Cond.code yX1_minutesBetween cX1_minutesBetween 3 (some .int), Cond.fieldLink RX1 11 "BlossomTours$Roads" "ways" "[[I", Cond.constant RX1 16 (1000000), Cond.methodLink RX1 17 yX1_isPlace, Cond.static yX1_isPlace, Cond.code yX1_isPlace cX1_isPlace 1 (some .boolean), Cond.static yX4_isWithin, Cond.code yX4_isWithin cX4_isWithin 3 (some .boolean), Cond.instanceMethod yX2_canGo, Cond.selects RX2 yX2_canGo yX2_canGo, Cond.code yX2_canGo cX2_canGo 1 (some .boolean)]
def wsL_cut_r3 : List Cond := [Cond.methodLink RX4 248 yX4_joinCrowds, Cond.instanceMethod yX4_joinCrowds, Cond.selects RX4 yX4_joinCrowds yX4_joinCrowds, Cond.code yX4_joinCrowds cX4_joinCrowds 3 none, Cond.instanceMethod yX2_visits, Cond.selects RX2 yX2_visits yX2_visits, Cond.code yX2_visits cX2_visits 3 (some .boolean)]
def wsL_cut : List Cond := .codeWith yL_cut cL_cut 4 (some .int) [(0, 9, 12, 20), (0, 9, 15, 15)] :: ((wsL_cut_r1 ++ (wsL_cut_r2 ++ wsL_cut_r3)) ++ wsX40 ++ wsX20 ++ wsX30 ++ wsX10 ++ (vx_atS RX4 67 "java/lang/IllegalStateException" ["java/lang/RuntimeException", "java/lang/Exception"]).filter goodWord ++ (vx_atS RX4 101 "java/lang/IndexOutOfBoundsException" ["java/lang/RuntimeException", "java/lang/Exception"]).filter goodWord)
def wsL_told_r1 : List Cond := [Cond.classLink RL 20 "java/lang/IndexOutOfBoundsException", Cond.methodLink RL 42 yX4_told, Cond.instanceMethod yX4_told, Cond.selects RX4 yX4_told yX4_told, Cond.initialized RX4, Cond.code yX4_told cX4_told 4 (some .int), Cond.classLink RX4 97 "java/lang/IndexOutOfBoundsException", Cond.initialized "java/lang/IndexOutOfBoundsException", Cond.fieldLink RX4 17 "BlossomTours" "tours" "[LBlossomTours$Tour;", Cond.fieldLink RX4 158 "BlossomTours" "today" "I", Cond.methodLink RX4 125 yX4_checkTour, Cond.instanceMethod yX4_checkTour, Cond.selects RX4 yX4_checkTour yX4_checkTour, Cond.code yX4_checkTour cX4_checkTour 2 none, Cond.fieldLink RX4 117 "BlossomTours" "tourCount" "I", Cond.instanceMethod yX2_canGo, Cond.initialized RX2, Cond.selects RX2 yX2_canGo yX2_canGo, Cond.code yX2_canGo cX2_canGo 1 (some .boolean), Cond.fieldLink RX2 15 "BlossomTours$Tour" "stopCount" "I", Cond.fieldLink RX2 29 "BlossomTours$Tour" "minutes" "I", Cond.static yX4_isWithin, Cond.code yX4_isWithin cX4_isWithin 3 (some .boolean), Cond.methodLink RX4 161 yX4_joyOn]
def wsL_told_r2 : List Cond := [Cond.instanceMethod yX4_joyOn, Cond.selects RX4 yX4_joyOn yX4_joyOn, Cond.code yX4_joyOn cX4_joyOn 5 (some .int), Cond.fieldLink RX4 59 "BlossomTours" "valleyCount" "I", Cond.fieldLink RX4 11 "BlossomTours" "valleys" "[LBlossomTours$Valley;", Cond.methodLink RX4 252 Lib.Math.max.name, Cond.static Lib.Math.max.name, Cond.initialized "java/lang/Math", Cond.code Lib.Math.max.name Lib.Math.max.code 2 (some .int), Cond.instanceMethod yX2_visits, Cond.selects RX2 yX2_visits yX2_visits, Cond.code yX2_visits cX2_visits 3 (some .boolean), Cond.fieldLink RX2 9 "BlossomTours$Tour" "stops" "[I", Cond.instanceMethod yX3_bloomOn, Cond.initialized RX3, Cond.selects RX3 yX3_bloomOn yX3_bloomOn, Cond.code yX3_bloomOn cX3_bloomOn 5 (some .int), Cond.fieldLink RX3 7 "BlossomTours$Valley" "from" "I", Cond.fieldLink RX3 13 "BlossomTours$Valley" "length" "I", Cond.methodLink RX3 16 Lib.Math.min.name, Cond.static Lib.Math.min.name, Cond.code Lib.Math.min.name Lib.Math.min.code 2 (some .int), Cond.methodLink RX4 165 yX4_stingsOn, Cond.instanceMethod yX4_stingsOn]
def wsL_told_r3 : List Cond := [Cond.selects RX4 yX4_stingsOn yX4_stingsOn, Cond.code yX4_stingsOn cX4_stingsOn 5 (some .int)]
def wsL_told : List Cond := .codeWith yL_told cL_told 5 (some .int) [(0, 10, 13, 20)] :: ((wsL_told_r1 ++ (wsL_told_r2 ++ wsL_told_r3)) ++ wsX40 ++ wsX20 ++ wsX30 ++ (vx_atS RX4 101 "java/lang/IndexOutOfBoundsException" ["java/lang/RuntimeException", "java/lang/Exception"]).filter goodWord)
def wsL_about_r1 : List Cond := [Cond.classLink RL 20 "java/lang/IndexOutOfBoundsException", Cond.methodLink RL 45 yX4_about, Cond.instanceMethod yX4_about, Cond.selects RX4 yX4_about yX4_about, Cond.initialized RX4, Cond.code yX4_about cX4_about 4 (some .int), Cond.classLink RX4 97 "java/lang/IndexOutOfBoundsException", Cond.initialized "java/lang/IndexOutOfBoundsException", Cond.fieldLink RX4 11 "BlossomTours" "valleys" "[LBlossomTours$Valley;", Cond.fieldLink RX4 158 "BlossomTours" "today" "I", Cond.methodLink RX4 77 yX4_checkValley, Cond.instanceMethod yX4_checkValley, Cond.selects RX4 yX4_checkValley yX4_checkValley, Cond.code yX4_checkValley cX4_checkValley 2 none, Cond.fieldLink RX4 59 "BlossomTours" "valleyCount" "I", Cond.instanceMethod yX3_bloomOn, Cond.initialized RX3, Cond.selects RX3 yX3_bloomOn yX3_bloomOn, Cond.code yX3_bloomOn cX3_bloomOn 5 (some .int), Cond.fieldLink RX3 7 "BlossomTours$Valley" "from" "I", Cond.fieldLink RX3 13 "BlossomTours$Valley" "length" "I", Cond.methodLink RX3 16 Lib.Math.min.name, Cond.static Lib.Math.min.name, Cond.initialized "java/lang/Math"]
def wsL_about_r2 : List Cond := [Cond.code Lib.Math.min.name Lib.Math.min.code 2 (some .int)]
def wsL_about : List Cond := .codeWith yL_about cL_about 5 (some .int) [(0, 10, 13, 20)] :: ((wsL_about_r1 ++ wsL_about_r2) ++ wsX40 ++ wsX30 ++ (vx_atS RX4 101 "java/lang/IndexOutOfBoundsException" ["java/lang/RuntimeException", "java/lang/Exception"]).filter goodWord)
def wsL_count_r1 : List Cond := [Cond.classLink RL 20 "java/lang/IndexOutOfBoundsException", Cond.methodLink RL 48 yX4_count, Cond.instanceMethod yX4_count, Cond.selects RX4 yX4_count yX4_count, Cond.initialized RX4, Cond.code yX4_count cX4_count 2 (some .int), Cond.classLink RX4 97 "java/lang/IndexOutOfBoundsException", Cond.initialized "java/lang/IndexOutOfBoundsException", Cond.fieldLink RX4 158 "BlossomTours" "today" "I", Cond.fieldLink RX4 59 "BlossomTours" "valleyCount" "I", Cond.fieldLink RX4 28 "BlossomTours" "roads" "LBlossomTours$Roads;", Cond.fieldLink RX4 117 "BlossomTours" "tourCount" "I", Cond.fieldLink RX4 35 "BlossomTours" "books" "LBlossomTours$Books;", Cond.methodLink RX4 176 yX4_toursThatCanGo, Cond.instanceMethod yX4_toursThatCanGo, Cond.selects RX4 yX4_toursThatCanGo yX4_toursThatCanGo, Cond.code yX4_toursThatCanGo cX4_toursThatCanGo 3 (some .int), Cond.fieldLink RX4 17 "BlossomTours" "tours" "[LBlossomTours$Tour;", Cond.instanceMethod yX2_canGo, Cond.initialized RX2, Cond.selects RX2 yX2_canGo yX2_canGo, Cond.code yX2_canGo cX2_canGo 1 (some .boolean), Cond.fieldLink RX2 15 "BlossomTours$Tour" "stopCount" "I", Cond.fieldLink RX2 29 "BlossomTours$Tour" "minutes" "I"]
def wsL_count_r2 : List Cond := [Cond.static yX4_isWithin, Cond.code yX4_isWithin cX4_isWithin 3 (some .boolean), Cond.methodLink RX4 179 yX4_valleysInBloomOn, Cond.instanceMethod yX4_valleysInBloomOn, Cond.selects RX4 yX4_valleysInBloomOn yX4_valleysInBloomOn, Cond.code yX4_valleysInBloomOn cX4_valleysInBloomOn 4 (some .int), Cond.fieldLink RX4 11 "BlossomTours" "valleys" "[LBlossomTours$Valley;", Cond.instanceMethod yX3_bloomOn, Cond.initialized RX3, Cond.selects RX3 yX3_bloomOn yX3_bloomOn, Cond.code yX3_bloomOn cX3_bloomOn 5 (some .int), Cond.fieldLink RX3 7 "BlossomTours$Valley" "from" "I", Cond.fieldLink RX3 13 "BlossomTours$Valley" "length" "I", Cond.methodLink RX3 16 Lib.Math.min.name, Cond.static Lib.Math.min.name, Cond.initialized "java/lang/Math", Cond.code Lib.Math.min.name Lib.Math.min.code 2 (some .int)]
def wsL_count : List Cond := .codeWith yL_count cL_count 4 (some .int) [(0, 9, 12, 20)] :: ((wsL_count_r1 ++ wsL_count_r2) ++ wsX40 ++ wsX10 ++ wsX00 ++ wsX20 ++ wsX30 ++ (vx_atS RX4 101 "java/lang/IndexOutOfBoundsException" ["java/lang/RuntimeException", "java/lang/Exception"]).filter goodWord)
def wsL_pass_r1 : List Cond := [Cond.classLink RL 13 "java/lang/IllegalArgumentException", Cond.methodLink RL 51 yX4_pass, Cond.instanceMethod yX4_pass, Cond.selects RX4 yX4_pass yX4_pass, Cond.initialized RX4, Cond.code yX4_pass cX4_pass 3 (some .int), Cond.fieldLink RX4 35 "BlossomTours" "books" "LBlossomTours$Books;", Cond.fieldLink RX4 158 "BlossomTours" "today" "I", Cond.methodLink RX4 193 yX4_checkSpan, Cond.static yX4_checkSpan, Cond.code yX4_checkSpan cX4_checkSpan 1 none, Cond.classLink RX4 48 "java/lang/IllegalArgumentException", Cond.initialized "java/lang/IllegalArgumentException", Cond.methodLink RX4 44 yX4_isWithin, Cond.static yX4_isWithin, Cond.code yX4_isWithin cX4_isWithin 3 (some .boolean), Cond.methodLink RX4 196 yX4_enterDays, Cond.instanceMethod yX4_enterDays, Cond.selects RX4 yX4_enterDays yX4_enterDays, Cond.code yX4_enterDays cX4_enterDays 4 none, Cond.methodLink RX4 257 yX4_enterDay, Cond.instanceMethod yX4_enterDay, Cond.selects RX4 yX4_enterDay yX4_enterDay, Cond.code yX4_enterDay cX4_enterDay 7 none]
def wsL_pass_r2 : List Cond := [Cond.fieldLink RX4 21 "BlossomTours" "heats" "[I", Cond.fieldLink RX4 117 "BlossomTours" "tourCount" "I", Cond.fieldLink RX4 17 "BlossomTours" "tours" "[LBlossomTours$Tour;", Cond.methodLink RX4 260 yJ9_floorMod_7cf53, Cond.static yJ9_floorMod_7cf53, Cond.initialized RJ9, Cond.code yJ9_floorMod_7cf53 cJ9_floorMod_7cf53 3 (some .int), Cond.instanceMethod yX2_canGo, Cond.initialized RX2, Cond.selects RX2 yX2_canGo yX2_canGo, Cond.code yX2_canGo cX2_canGo 1 (some .boolean), Cond.fieldLink RX2 15 "BlossomTours$Tour" "stopCount" "I", Cond.fieldLink RX2 29 "BlossomTours$Tour" "minutes" "I", Cond.methodLink RX4 161 yX4_joyOn, Cond.instanceMethod yX4_joyOn, Cond.selects RX4 yX4_joyOn yX4_joyOn, Cond.code yX4_joyOn cX4_joyOn 5 (some .int), Cond.fieldLink RX4 59 "BlossomTours" "valleyCount" "I", Cond.fieldLink RX4 11 "BlossomTours" "valleys" "[LBlossomTours$Valley;", Cond.methodLink RX4 252 Lib.Math.max.name, Cond.static Lib.Math.max.name, Cond.initialized "java/lang/Math", Cond.code Lib.Math.max.name Lib.Math.max.code 2 (some .int), Cond.instanceMethod yX2_visits]
def wsL_pass_r3 : List Cond := [Cond.selects RX2 yX2_visits yX2_visits, Cond.code yX2_visits cX2_visits 3 (some .boolean), Cond.fieldLink RX2 9 "BlossomTours$Tour" "stops" "[I", Cond.instanceMethod yX3_bloomOn, Cond.initialized RX3, Cond.selects RX3 yX3_bloomOn yX3_bloomOn, Cond.code yX3_bloomOn cX3_bloomOn 5 (some .int), Cond.fieldLink RX3 7 "BlossomTours$Valley" "from" "I", Cond.fieldLink RX3 13 "BlossomTours$Valley" "length" "I", Cond.methodLink RX3 16 Lib.Math.min.name, Cond.static Lib.Math.min.name, Cond.code Lib.Math.min.name Lib.Math.min.code 2 (some .int), Cond.methodLink RX4 165 yX4_stingsOn, Cond.instanceMethod yX4_stingsOn, Cond.selects RX4 yX4_stingsOn yX4_stingsOn, Cond.code yX4_stingsOn cX4_stingsOn 5 (some .int)]
def wsL_pass : List Cond := .codeWith yL_pass cL_pass 4 (some .int) [(0, 9, 12, 13)] :: ((wsL_pass_r1 ++ (wsL_pass_r2 ++ wsL_pass_r3)) ++ wsX40 ++ wsX00 ++ wsX20 ++ wsX30 ++ (vx_atS RX4 52 "java/lang/IllegalArgumentException" ["java/lang/RuntimeException", "java/lang/Exception"]).filter goodWord)
def wsL_joy_r1 : List Cond := [Cond.classLink RL 20 "java/lang/IndexOutOfBoundsException", Cond.classLink RL 13 "java/lang/IllegalArgumentException", Cond.methodLink RL 54 yX4_joy, Cond.instanceMethod yX4_joy, Cond.selects RX4 yX4_joy yX4_joy, Cond.initialized RX4, Cond.code yX4_joy cX4_joy 3 (some .int), Cond.fieldLink RX4 17 "BlossomTours" "tours" "[LBlossomTours$Tour;", Cond.methodLink RX4 125 yX4_checkTour, Cond.instanceMethod yX4_checkTour, Cond.selects RX4 yX4_checkTour yX4_checkTour, Cond.code yX4_checkTour cX4_checkTour 2 none, Cond.classLink RX4 97 "java/lang/IndexOutOfBoundsException", Cond.initialized "java/lang/IndexOutOfBoundsException", Cond.fieldLink RX4 117 "BlossomTours" "tourCount" "I", Cond.methodLink RX4 104 yX4_checkDay, Cond.static yX4_checkDay, Cond.code yX4_checkDay cX4_checkDay 1 none, Cond.classLink RX4 48 "java/lang/IllegalArgumentException", Cond.initialized "java/lang/IllegalArgumentException", Cond.methodLink RX4 161 yX4_joyOn, Cond.instanceMethod yX4_joyOn, Cond.selects RX4 yX4_joyOn yX4_joyOn, Cond.code yX4_joyOn cX4_joyOn 5 (some .int)]
def wsL_joy_r2 : List Cond := [Cond.fieldLink RX4 59 "BlossomTours" "valleyCount" "I", Cond.fieldLink RX4 11 "BlossomTours" "valleys" "[LBlossomTours$Valley;", Cond.methodLink RX4 252 Lib.Math.max.name, Cond.static Lib.Math.max.name, Cond.initialized "java/lang/Math", Cond.code Lib.Math.max.name Lib.Math.max.code 2 (some .int), Cond.instanceMethod yX2_canGo, Cond.initialized RX2, Cond.selects RX2 yX2_canGo yX2_canGo, Cond.code yX2_canGo cX2_canGo 1 (some .boolean), Cond.fieldLink RX2 15 "BlossomTours$Tour" "stopCount" "I", Cond.fieldLink RX2 29 "BlossomTours$Tour" "minutes" "I", Cond.static yX4_isWithin, Cond.code yX4_isWithin cX4_isWithin 3 (some .boolean), Cond.instanceMethod yX2_visits, Cond.selects RX2 yX2_visits yX2_visits, Cond.code yX2_visits cX2_visits 3 (some .boolean), Cond.fieldLink RX2 9 "BlossomTours$Tour" "stops" "[I", Cond.instanceMethod yX3_bloomOn, Cond.initialized RX3, Cond.selects RX3 yX3_bloomOn yX3_bloomOn, Cond.code yX3_bloomOn cX3_bloomOn 5 (some .int), Cond.fieldLink RX3 7 "BlossomTours$Valley" "from" "I", Cond.fieldLink RX3 13 "BlossomTours$Valley" "length" "I"]
def wsL_joy_r3 : List Cond := [Cond.methodLink RX3 16 Lib.Math.min.name, Cond.static Lib.Math.min.name, Cond.code Lib.Math.min.name Lib.Math.min.code 2 (some .int)]
def wsL_joy : List Cond := .codeWith yL_joy cL_joy 5 (some .int) [(0, 10, 13, 20), (0, 10, 17, 13)] :: ((wsL_joy_r1 ++ (wsL_joy_r2 ++ wsL_joy_r3)) ++ wsX40 ++ wsX30 ++ wsX20 ++ (vx_atS RX4 101 "java/lang/IndexOutOfBoundsException" ["java/lang/RuntimeException", "java/lang/Exception"]).filter goodWord ++ (vx_atS RX4 52 "java/lang/IllegalArgumentException" ["java/lang/RuntimeException", "java/lang/Exception"]).filter goodWord)
def wsL_best_r1 : List Cond := [Cond.classLink RL 20 "java/lang/IndexOutOfBoundsException", Cond.methodLink RL 57 yX4_best, Cond.instanceMethod yX4_best, Cond.selects RX4 yX4_best yX4_best, Cond.initialized RX4, Cond.code yX4_best cX4_best 6 (some .int), Cond.fieldLink RX4 17 "BlossomTours" "tours" "[LBlossomTours$Tour;", Cond.fieldLink RX4 158 "BlossomTours" "today" "I", Cond.methodLink RX4 125 yX4_checkTour, Cond.instanceMethod yX4_checkTour, Cond.selects RX4 yX4_checkTour yX4_checkTour, Cond.code yX4_checkTour cX4_checkTour 2 none, Cond.classLink RX4 97 "java/lang/IndexOutOfBoundsException", Cond.initialized "java/lang/IndexOutOfBoundsException", Cond.fieldLink RX4 117 "BlossomTours" "tourCount" "I", Cond.methodLink RX4 161 yX4_joyOn, Cond.instanceMethod yX4_joyOn, Cond.selects RX4 yX4_joyOn yX4_joyOn, Cond.code yX4_joyOn cX4_joyOn 5 (some .int), Cond.fieldLink RX4 59 "BlossomTours" "valleyCount" "I", Cond.fieldLink RX4 11 "BlossomTours" "valleys" "[LBlossomTours$Valley;", Cond.methodLink RX4 252 Lib.Math.max.name, Cond.static Lib.Math.max.name, Cond.initialized "java/lang/Math"]
def wsL_best_r2 : List Cond := [Cond.code Lib.Math.max.name Lib.Math.max.code 2 (some .int), Cond.instanceMethod yX2_canGo, Cond.initialized RX2, Cond.selects RX2 yX2_canGo yX2_canGo, Cond.code yX2_canGo cX2_canGo 1 (some .boolean), Cond.fieldLink RX2 15 "BlossomTours$Tour" "stopCount" "I", Cond.fieldLink RX2 29 "BlossomTours$Tour" "minutes" "I", Cond.static yX4_isWithin, Cond.code yX4_isWithin cX4_isWithin 3 (some .boolean), Cond.instanceMethod yX2_visits, Cond.selects RX2 yX2_visits yX2_visits, Cond.code yX2_visits cX2_visits 3 (some .boolean), Cond.fieldLink RX2 9 "BlossomTours$Tour" "stops" "[I", Cond.instanceMethod yX3_bloomOn, Cond.initialized RX3, Cond.selects RX3 yX3_bloomOn yX3_bloomOn, Cond.code yX3_bloomOn cX3_bloomOn 5 (some .int), Cond.fieldLink RX3 7 "BlossomTours$Valley" "from" "I", Cond.fieldLink RX3 13 "BlossomTours$Valley" "length" "I", Cond.methodLink RX3 16 Lib.Math.min.name, Cond.static Lib.Math.min.name, Cond.code Lib.Math.min.name Lib.Math.min.code 2 (some .int)]
def wsL_best : List Cond := .codeWith yL_best cL_best 4 (some .int) [(0, 9, 12, 20)] :: ((wsL_best_r1 ++ wsL_best_r2) ++ wsX40 ++ wsX30 ++ wsX20 ++ (vx_atS RX4 101 "java/lang/IndexOutOfBoundsException" ["java/lang/RuntimeException", "java/lang/Exception"]).filter goodWord)
def wsL_advise_r1 : List Cond := [Cond.classLink RL 20 "java/lang/IndexOutOfBoundsException", Cond.methodLink RL 60 yX4_advise, Cond.instanceMethod yX4_advise, Cond.selects RX4 yX4_advise yX4_advise, Cond.initialized RX4, Cond.code yX4_advise cX4_advise 7 (some .int), Cond.fieldLink RX4 17 "BlossomTours" "tours" "[LBlossomTours$Tour;", Cond.fieldLink RX4 158 "BlossomTours" "today" "I", Cond.fieldLink RX4 59 "BlossomTours" "valleyCount" "I", Cond.methodLink RX4 125 yX4_checkTour, Cond.instanceMethod yX4_checkTour, Cond.selects RX4 yX4_checkTour yX4_checkTour, Cond.code yX4_checkTour cX4_checkTour 2 none, Cond.classLink RX4 97 "java/lang/IndexOutOfBoundsException", Cond.initialized "java/lang/IndexOutOfBoundsException", Cond.fieldLink RX4 117 "BlossomTours" "tourCount" "I", Cond.instanceMethod yX2_isFull, Cond.initialized RX2, Cond.selects RX2 yX2_isFull yX2_isFull, Cond.code yX2_isFull cX2_isFull 1 (some .boolean), Cond.fieldLink RX2 15 "BlossomTours$Tour" "stopCount" "I", Cond.fieldLink RX2 9 "BlossomTours$Tour" "stops" "[I", Cond.methodLink RX4 161 yX4_joyOn, Cond.instanceMethod yX4_joyOn]
def wsL_advise_r2 : List Cond := [Cond.selects RX4 yX4_joyOn yX4_joyOn, Cond.code yX4_joyOn cX4_joyOn 5 (some .int), Cond.fieldLink RX4 11 "BlossomTours" "valleys" "[LBlossomTours$Valley;", Cond.methodLink RX4 252 Lib.Math.max.name, Cond.static Lib.Math.max.name, Cond.initialized "java/lang/Math", Cond.code Lib.Math.max.name Lib.Math.max.code 2 (some .int), Cond.instanceMethod yX2_canGo, Cond.selects RX2 yX2_canGo yX2_canGo, Cond.code yX2_canGo cX2_canGo 1 (some .boolean), Cond.fieldLink RX2 29 "BlossomTours$Tour" "minutes" "I", Cond.static yX4_isWithin, Cond.code yX4_isWithin cX4_isWithin 3 (some .boolean), Cond.instanceMethod yX2_visits, Cond.selects RX2 yX2_visits yX2_visits, Cond.code yX2_visits cX2_visits 3 (some .boolean), Cond.instanceMethod yX3_bloomOn, Cond.initialized RX3, Cond.selects RX3 yX3_bloomOn yX3_bloomOn, Cond.code yX3_bloomOn cX3_bloomOn 5 (some .int), Cond.fieldLink RX3 7 "BlossomTours$Valley" "from" "I", Cond.fieldLink RX3 13 "BlossomTours$Valley" "length" "I", Cond.methodLink RX3 16 Lib.Math.min.name, Cond.static Lib.Math.min.name]
def wsL_advise_r3 : List Cond := [Cond.code Lib.Math.min.name Lib.Math.min.code 2 (some .int), Cond.methodLink RX4 200 yX4_joyWithStopAdded, Cond.instanceMethod yX4_joyWithStopAdded, Cond.selects RX4 yX4_joyWithStopAdded yX4_joyWithStopAdded, Cond.code yX4_joyWithStopAdded cX4_joyWithStopAdded 4 (some .int), Cond.instanceMethod yX2_append, Cond.selects RX2 yX2_append yX2_append, Cond.code yX2_append cX2_append 2 none, Cond.methodLink RX2 19 yX2_isFull, Cond.methodLink RX4 94 yX4_reckonCrowds, Cond.instanceMethod yX4_reckonCrowds, Cond.selects RX4 yX4_reckonCrowds yX4_reckonCrowds, Cond.code yX4_reckonCrowds cX4_reckonCrowds 2 none, Cond.fieldLink RX4 28 "BlossomTours" "roads" "LBlossomTours$Roads;", Cond.instanceMethod yX2_measure, Cond.selects RX2 yX2_measure yX2_measure, Cond.code yX2_measure cX2_measure 5 none, Cond.instanceMethod yX1_minutesBetween, Cond.initialized RX1, Cond.selects RX1 yX1_minutesBetween yX1_minutesBetween, Cond.code yX1_minutesBetween cX1_minutesBetween 3 (some .int), Cond.fieldLink RX1 11 "BlossomTours$Roads" "ways" "[[I", Cond.constant RX1 16 (1000000), Cond.methodLink RX1 17 yX1_isPlace]
def wsL_advise_r4 : List Cond := [Cond.static yX1_isPlace, Cond.code yX1_isPlace cX1_isPlace 1 (some .boolean), Cond.methodLink RX4 248 yX4_joinCrowds, Cond.instanceMethod yX4_joinCrowds, Cond.selects RX4 yX4_joinCrowds yX4_joinCrowds, Cond.code yX4_joinCrowds cX4_joinCrowds 3 none, Cond.instanceMethod yX2_takeLast, Cond.selects RX2 yX2_takeLast yX2_takeLast, Cond.code yX2_takeLast cX2_takeLast 1 (some .int)]
def wsL_advise : List Cond := .codeWith yL_advise cL_advise 4 (some .int) [(0, 9, 12, 20)] :: ((wsL_advise_r1 ++ (wsL_advise_r2 ++ (wsL_advise_r3 ++ wsL_advise_r4))) ++ wsX40 ++ wsX20 ++ wsX30 ++ wsX10 ++ (vx_atS RX4 101 "java/lang/IndexOutOfBoundsException" ["java/lang/RuntimeException", "java/lang/Exception"]).filter goodWord)
def wsL_foresee_r1 : List Cond := [Cond.classLink RL 13 "java/lang/IllegalArgumentException", Cond.classLink RL 20 "java/lang/IndexOutOfBoundsException", Cond.methodLink RL 63 yX4_foresee, Cond.instanceMethod yX4_foresee, Cond.selects RX4 yX4_foresee yX4_foresee, Cond.initialized RX4, Cond.code yX4_foresee cX4_foresee 3 (some .int), Cond.classLink RX4 97 "java/lang/IndexOutOfBoundsException", Cond.initialized "java/lang/IndexOutOfBoundsException", Cond.fieldLink RX4 39 "BlossomTours" "draft" "LBlossomTours$Books;", Cond.fieldLink RX4 35 "BlossomTours" "books" "LBlossomTours$Books;", Cond.fieldLink RX4 158 "BlossomTours" "today" "I", Cond.methodLink RX4 193 yX4_checkSpan, Cond.static yX4_checkSpan, Cond.code yX4_checkSpan cX4_checkSpan 1 none, Cond.classLink RX4 48 "java/lang/IllegalArgumentException", Cond.initialized "java/lang/IllegalArgumentException", Cond.methodLink RX4 44 yX4_isWithin, Cond.static yX4_isWithin, Cond.code yX4_isWithin cX4_isWithin 3 (some .boolean), Cond.instanceMethod yX0_copyFrom, Cond.initialized RX0, Cond.selects RX0 yX0_copyFrom yX0_copyFrom, Cond.code yX0_copyFrom cX0_copyFrom 2 none]
def wsL_foresee_r2 : List Cond := [Cond.fieldLink RX0 7 "BlossomTours$Books" "coins" "I", Cond.fieldLink RX0 13 "BlossomTours$Books" "joyInAll" "I", Cond.fieldLink RX0 16 "BlossomTours$Books" "stingsInAll" "I", Cond.methodLink RX4 196 yX4_enterDays, Cond.instanceMethod yX4_enterDays, Cond.selects RX4 yX4_enterDays yX4_enterDays, Cond.code yX4_enterDays cX4_enterDays 4 none, Cond.methodLink RX4 257 yX4_enterDay, Cond.instanceMethod yX4_enterDay, Cond.selects RX4 yX4_enterDay yX4_enterDay, Cond.code yX4_enterDay cX4_enterDay 7 none, Cond.fieldLink RX4 21 "BlossomTours" "heats" "[I", Cond.fieldLink RX4 117 "BlossomTours" "tourCount" "I", Cond.fieldLink RX4 17 "BlossomTours" "tours" "[LBlossomTours$Tour;", Cond.methodLink RX4 260 yJ9_floorMod_7cf53, Cond.static yJ9_floorMod_7cf53, Cond.initialized RJ9, Cond.code yJ9_floorMod_7cf53 cJ9_floorMod_7cf53 3 (some .int), Cond.instanceMethod yX2_canGo, Cond.initialized RX2, Cond.selects RX2 yX2_canGo yX2_canGo, Cond.code yX2_canGo cX2_canGo 1 (some .boolean), Cond.fieldLink RX2 15 "BlossomTours$Tour" "stopCount" "I", Cond.fieldLink RX2 29 "BlossomTours$Tour" "minutes" "I"]
def wsL_foresee_r3 : List Cond := [Cond.methodLink RX4 161 yX4_joyOn, Cond.instanceMethod yX4_joyOn, Cond.selects RX4 yX4_joyOn yX4_joyOn, Cond.code yX4_joyOn cX4_joyOn 5 (some .int), Cond.fieldLink RX4 59 "BlossomTours" "valleyCount" "I", Cond.fieldLink RX4 11 "BlossomTours" "valleys" "[LBlossomTours$Valley;", Cond.methodLink RX4 252 Lib.Math.max.name, Cond.static Lib.Math.max.name, Cond.initialized "java/lang/Math", Cond.code Lib.Math.max.name Lib.Math.max.code 2 (some .int), Cond.instanceMethod yX2_visits, Cond.selects RX2 yX2_visits yX2_visits, Cond.code yX2_visits cX2_visits 3 (some .boolean), Cond.fieldLink RX2 9 "BlossomTours$Tour" "stops" "[I", Cond.instanceMethod yX3_bloomOn, Cond.initialized RX3, Cond.selects RX3 yX3_bloomOn yX3_bloomOn, Cond.code yX3_bloomOn cX3_bloomOn 5 (some .int), Cond.fieldLink RX3 7 "BlossomTours$Valley" "from" "I", Cond.fieldLink RX3 13 "BlossomTours$Valley" "length" "I", Cond.methodLink RX3 16 Lib.Math.min.name, Cond.static Lib.Math.min.name, Cond.code Lib.Math.min.name Lib.Math.min.code 2 (some .int), Cond.methodLink RX4 165 yX4_stingsOn]
def wsL_foresee_r4 : List Cond := [Cond.instanceMethod yX4_stingsOn, Cond.selects RX4 yX4_stingsOn yX4_stingsOn, Cond.code yX4_stingsOn cX4_stingsOn 5 (some .int), Cond.methodLink RX4 179 yX4_valleysInBloomOn, Cond.instanceMethod yX4_valleysInBloomOn, Cond.selects RX4 yX4_valleysInBloomOn yX4_valleysInBloomOn, Cond.code yX4_valleysInBloomOn cX4_valleysInBloomOn 4 (some .int)]
def wsL_foresee : List Cond := .codeWith yL_foresee cL_foresee 5 (some .int) [(0, 10, 13, 13), (0, 10, 17, 20)] :: ((wsL_foresee_r1 ++ (wsL_foresee_r2 ++ (wsL_foresee_r3 ++ wsL_foresee_r4))) ++ wsX40 ++ wsX00 ++ wsX20 ++ wsX30 ++ (vx_atS RX4 101 "java/lang/IndexOutOfBoundsException" ["java/lang/RuntimeException", "java/lang/Exception"]).filter goodWord ++ (vx_atS RX4 52 "java/lang/IllegalArgumentException" ["java/lang/RuntimeException", "java/lang/Exception"]).filter goodWord)
def wsL_law0_r1 : List Cond := [Cond.classLink RL 8 RX4, Cond.instantiable RX4 9, Cond.initialized RX4, Cond.classLink RL 67 RX5, Cond.instantiable RX5 13, Cond.initialized RX5, Cond.arrayClass .long, Cond.methodLink RL 66 yX4_init, Cond.instanceMethod yX4_init, Cond.code yX4_init cX4_init 2 none, Cond.methodLink RX4 1 objectInit, Cond.instanceMethod objectInit, Cond.code objectInit ⟨#[0xb1]⟩ 1 none, Cond.classLink RX4 9 RX3, Cond.fieldLink RX4 11 "BlossomTours" "valleys" "[LBlossomTours$Valley;", Cond.classLink RX4 15 RX2, Cond.fieldLink RX4 17 "BlossomTours" "tours" "[LBlossomTours$Tour;", Cond.arrayClass .int, Cond.fieldLink RX4 21 "BlossomTours" "heats" "[I", Cond.classLink RX4 25 RX1, Cond.instantiable RX1 2, Cond.initialized RX1, Cond.fieldLink RX4 28 "BlossomTours" "roads" "LBlossomTours$Roads;", Cond.classLink RX4 32 RX0]
def wsL_law0_r2 : List Cond := [Cond.instantiable RX0 3, Cond.initialized RX0, Cond.fieldLink RX4 35 "BlossomTours" "books" "LBlossomTours$Books;", Cond.fieldLink RX4 39 "BlossomTours" "draft" "LBlossomTours$Books;", Cond.instantiable RX3 5, Cond.initialized RX3, Cond.instantiable RX2 4, Cond.initialized RX2, Cond.instanceMethod yX1_init, Cond.code yX1_init cX1_init 3 none, Cond.methodLink RX1 3 objectInit, Cond.classLink RX1 9 "[[I", Cond.fieldLink RX1 11 "BlossomTours$Roads" "ways" "[[I", Cond.constant RX1 16 (1000000), Cond.instanceMethod yX0_init, Cond.code yX0_init cX0_init 1 none, Cond.methodLink RX0 1 objectInit, Cond.instanceMethod yX3_init, Cond.code yX3_init cX3_init 1 none, Cond.methodLink RX3 1 objectInit, Cond.instanceMethod yX2_init, Cond.code yX2_init cX2_init 1 none, Cond.methodLink RX2 3 objectInit, Cond.fieldLink RX2 9 "BlossomTours$Tour" "stops" "[I"]
def wsL_law0_r3 : List Cond := [Cond.methodLink RL 69 yX5_init, Cond.instanceMethod yX5_init, Cond.code yX5_init cX5_init 2 none, Cond.methodLink RX5 1 objectInit, Cond.fieldLink RX5 9 "BlossomToursModel" "from" "[I", Cond.fieldLink RX5 13 "BlossomToursModel" "length" "[I", Cond.fieldLink RX5 16 "BlossomToursModel" "bees" "[I", Cond.fieldLink RX5 19 "BlossomToursModel" "ways" "[I", Cond.fieldLink RX5 22 "BlossomToursModel" "heat" "[I", Cond.fieldLink RX5 25 "BlossomToursModel" "tourists" "[I", Cond.fieldLink RX5 28 "BlossomToursModel" "many" "[I", Cond.fieldLink RX5 31 "BlossomToursModel" "list" "[I", Cond.fieldLink RX5 34 "BlossomToursModel" "numbers" "[I", Cond.methodLink RL 70 yL_valley, Cond.static yL_valley, Cond.initialized RL, Cond.codeWith yL_valley cL_valley 6 (some .int) [(0, 12, 15, 13), (0, 12, 19, 15)], Cond.classLink RL 13 "java/lang/IllegalArgumentException", Cond.classLink RL 15 "java/lang/IllegalStateException", Cond.methodLink RL 7 yX4_valley, Cond.instanceMethod yX4_valley, Cond.selects RX4 yX4_valley yX4_valley, Cond.code yX4_valley cX4_valley 5 (some .int), Cond.classLink RX4 48 "java/lang/IllegalArgumentException"]
def wsL_law0_r4 : List Cond := [Cond.initialized "java/lang/IllegalArgumentException", Cond.classLink RX4 63 "java/lang/IllegalStateException", Cond.initialized "java/lang/IllegalStateException", Cond.fieldLink RX4 59 "BlossomTours" "valleyCount" "I", Cond.methodLink RX4 44 yX4_isWithin, Cond.static yX4_isWithin, Cond.code yX4_isWithin cX4_isWithin 3 (some .boolean), Cond.methodLink RL 75 yX5_valley, Cond.instanceMethod yX5_valley, Cond.selects RX5 yX5_valley yX5_valley, Cond.code yX5_valley cX5_valley 4 (some .int), Cond.fieldLink RX5 37 "BlossomToursModel" "thrown" "I", Cond.fieldLink RX5 41 "BlossomToursModel" "valleys" "I", Cond.methodLink RX5 44 yX5_isIn, Cond.static yX5_isIn, Cond.code yX5_isIn cX5_isIn 3 (some .boolean), Cond.methodLink RX5 51 yX5_no, Cond.instanceMethod yX5_no, Cond.selects RX5 yX5_no yX5_no, Cond.code yX5_no cX5_no 2 (some .int), Cond.methodLink RL 76 yX5_thrown, Cond.instanceMethod yX5_thrown, Cond.selects RX5 yX5_thrown yX5_thrown, Cond.code yX5_thrown cX5_thrown 1 (some .int)]
def wsL_law0_r5 : List Cond := [Cond.methodLink RL 80 yL_road, Cond.static yL_road, Cond.codeWith yL_road cL_road 6 (some .int) [(0, 12, 15, 20), (0, 12, 19, 13), (0, 12, 23, 15)], Cond.classLink RL 20 "java/lang/IndexOutOfBoundsException", Cond.methodLink RL 17 yX4_road, Cond.instanceMethod yX4_road, Cond.selects RX4 yX4_road yX4_road, Cond.code yX4_road cX4_road 4 (some .int), Cond.methodLink RX4 77 yX4_checkValley, Cond.instanceMethod yX4_checkValley, Cond.selects RX4 yX4_checkValley yX4_checkValley, Cond.code yX4_checkValley cX4_checkValley 2 none, Cond.classLink RX4 97 "java/lang/IndexOutOfBoundsException", Cond.initialized "java/lang/IndexOutOfBoundsException", Cond.instanceMethod yX1_lay, Cond.selects RX1 yX1_lay yX1_lay, Cond.code yX1_lay cX1_lay 8 none, Cond.methodLink RX1 21 Lib.Math.min.name, Cond.static Lib.Math.min.name, Cond.initialized "java/lang/Math", Cond.code Lib.Math.min.name Lib.Math.min.code 2 (some .int), Cond.fieldLink RX1 27 "BlossomTours$Roads" "laid" "I", Cond.methodLink RX1 17 yX1_isPlace, Cond.static yX1_isPlace]
def wsL_law0_r6 : List Cond := [Cond.code yX1_isPlace cX1_isPlace 1 (some .boolean), Cond.methodLink RX4 94 yX4_reckonCrowds, Cond.instanceMethod yX4_reckonCrowds, Cond.selects RX4 yX4_reckonCrowds yX4_reckonCrowds, Cond.code yX4_reckonCrowds cX4_reckonCrowds 2 none, Cond.fieldLink RX4 117 "BlossomTours" "tourCount" "I", Cond.instanceMethod yX2_measure, Cond.selects RX2 yX2_measure yX2_measure, Cond.code yX2_measure cX2_measure 5 none, Cond.fieldLink RX2 15 "BlossomTours$Tour" "stopCount" "I", Cond.fieldLink RX2 29 "BlossomTours$Tour" "minutes" "I", Cond.instanceMethod yX1_minutesBetween, Cond.selects RX1 yX1_minutesBetween yX1_minutesBetween, Cond.code yX1_minutesBetween cX1_minutesBetween 3 (some .int), Cond.instanceMethod yX2_canGo, Cond.selects RX2 yX2_canGo yX2_canGo, Cond.code yX2_canGo cX2_canGo 1 (some .boolean), Cond.methodLink RX4 248 yX4_joinCrowds, Cond.instanceMethod yX4_joinCrowds, Cond.selects RX4 yX4_joinCrowds yX4_joinCrowds, Cond.code yX4_joinCrowds cX4_joinCrowds 3 none, Cond.instanceMethod yX2_visits, Cond.selects RX2 yX2_visits yX2_visits, Cond.code yX2_visits cX2_visits 3 (some .boolean)]
def wsL_law0_r7 : List Cond := [Cond.methodLink RL 82 yX5_road, Cond.instanceMethod yX5_road, Cond.selects RX5 yX5_road yX5_road, Cond.code yX5_road cX5_road 4 (some .int), Cond.fieldLink RX5 59 "BlossomToursModel" "roads" "I", Cond.methodLink RX5 55 yX5_isValley, Cond.instanceMethod yX5_isValley, Cond.selects RX5 yX5_isValley yX5_isValley, Cond.code yX5_isValley cX5_isValley 2 (some .boolean), Cond.methodLink RX5 62 yX5_shorten, Cond.instanceMethod yX5_shorten, Cond.selects RX5 yX5_shorten yX5_shorten, Cond.code yX5_shorten cX5_shorten 9 none, Cond.methodLink RL 83 yL_setHeat, Cond.static yL_setHeat, Cond.codeWith yL_setHeat cL_setHeat 5 (some .int) [(0, 10, 13, 20), (0, 10, 17, 13)], Cond.methodLink RL 22 yX4_setHeat, Cond.instanceMethod yX4_setHeat, Cond.selects RX4 yX4_setHeat yX4_setHeat, Cond.code yX4_setHeat cX4_setHeat 4 (some .int), Cond.methodLink RL 86 yX5_setHeat, Cond.instanceMethod yX5_setHeat, Cond.selects RX5 yX5_setHeat yX5_setHeat, Cond.code yX5_setHeat cX5_setHeat 4 (some .int)]
def wsL_law0_r8 : List Cond := [Cond.methodLink RL 87 yL_bloom, Cond.static yL_bloom, Cond.codeWith yL_bloom cL_bloom 5 (some .int) [(0, 10, 13, 20), (0, 10, 17, 13)], Cond.methodLink RL 26 yX4_bloom, Cond.instanceMethod yX4_bloom, Cond.selects RX4 yX4_bloom yX4_bloom, Cond.code yX4_bloom cX4_bloom 3 (some .int), Cond.methodLink RX4 104 yX4_checkDay, Cond.static yX4_checkDay, Cond.code yX4_checkDay cX4_checkDay 1 none, Cond.instanceMethod yX3_bloomOn, Cond.selects RX3 yX3_bloomOn yX3_bloomOn, Cond.code yX3_bloomOn cX3_bloomOn 5 (some .int), Cond.fieldLink RX3 7 "BlossomTours$Valley" "from" "I", Cond.fieldLink RX3 13 "BlossomTours$Valley" "length" "I", Cond.methodLink RX3 16 Lib.Math.min.name, Cond.methodLink RL 89 yX5_bloom, Cond.instanceMethod yX5_bloom, Cond.selects RX5 yX5_bloom yX5_bloom, Cond.code yX5_bloom cX5_bloom 3 (some .int), Cond.methodLink RX5 72 yX5_blooms, Cond.instanceMethod yX5_blooms, Cond.selects RX5 yX5_blooms yX5_blooms, Cond.code yX5_blooms cX5_blooms 3 (some .int)]
def wsL_law0_r9 : List Cond := [Cond.methodLink RX5 66 Lib.Math.min.name, Cond.methodLink RL 90 yL_way, Cond.static yL_way, Cond.codeWith yL_way cL_way 5 (some .int) [(0, 10, 13, 20)], Cond.methodLink RL 29 yX4_way, Cond.instanceMethod yX4_way, Cond.selects RX4 yX4_way yX4_way, Cond.code yX4_way cX4_way 3 (some .int), Cond.methodLink RL 92 yX5_way, Cond.instanceMethod yX5_way, Cond.selects RX5 yX5_way yX5_way, Cond.code yX5_way cX5_way 3 (some .int), Cond.methodLink RL 93 yL_tour, Cond.static yL_tour, Cond.codeWith yL_tour cL_tour 4 (some .int) [(0, 9, 12, 13), (0, 9, 15, 15)], Cond.methodLink RL 32 yX4_tour, Cond.instanceMethod yX4_tour, Cond.selects RX4 yX4_tour yX4_tour, Cond.code yX4_tour cX4_tour 2 (some .int), Cond.methodLink RL 96 yX5_tour, Cond.instanceMethod yX5_tour, Cond.selects RX5 yX5_tour yX5_tour, Cond.code yX5_tour cX5_tour 2 (some .int), Cond.fieldLink RX5 48 "BlossomToursModel" "tours" "I"]
def wsL_law0_r10 : List Cond := [Cond.methodLink RL 97 yL_add, Cond.static yL_add, Cond.codeWith yL_add cL_add 5 (some .int) [(0, 10, 13, 20), (0, 10, 17, 15)], Cond.methodLink RL 36 yX4_add, Cond.instanceMethod yX4_add, Cond.selects RX4 yX4_add yX4_add, Cond.code yX4_add cX4_add 4 (some .int), Cond.methodLink RX4 125 yX4_checkTour, Cond.instanceMethod yX4_checkTour, Cond.selects RX4 yX4_checkTour yX4_checkTour, Cond.code yX4_checkTour cX4_checkTour 2 none, Cond.instanceMethod yX2_isFull, Cond.selects RX2 yX2_isFull yX2_isFull, Cond.code yX2_isFull cX2_isFull 1 (some .boolean), Cond.instanceMethod yX2_append, Cond.selects RX2 yX2_append yX2_append, Cond.code yX2_append cX2_append 2 none, Cond.methodLink RX2 19 yX2_isFull, Cond.methodLink RL 99 yX5_add, Cond.instanceMethod yX5_add, Cond.selects RX5 yX5_add yX5_add, Cond.code yX5_add cX5_add 3 (some .int), Cond.methodLink RX5 94 yX5_isTour, Cond.instanceMethod yX5_isTour]
def wsL_law0_r11 : List Cond := [Cond.selects RX5 yX5_isTour yX5_isTour, Cond.code yX5_isTour cX5_isTour 2 (some .boolean), Cond.methodLink RX5 81 yX5_has, Cond.instanceMethod yX5_has, Cond.selects RX5 yX5_has yX5_has, Cond.code yX5_has cX5_has 4 (some .boolean), Cond.methodLink RX5 75 yX5_at, Cond.instanceMethod yX5_at, Cond.selects RX5 yX5_at yX5_at, Cond.code yX5_at cX5_at 3 (some .int), Cond.methodLink RL 100 yL_cut, Cond.static yL_cut, Cond.codeWith yL_cut cL_cut 4 (some .int) [(0, 9, 12, 20), (0, 9, 15, 15)], Cond.methodLink RL 39 yX4_cut, Cond.instanceMethod yX4_cut, Cond.selects RX4 yX4_cut yX4_cut, Cond.code yX4_cut cX4_cut 4 (some .int), Cond.instanceMethod yX2_takeLast, Cond.selects RX2 yX2_takeLast yX2_takeLast, Cond.code yX2_takeLast cX2_takeLast 1 (some .int), Cond.methodLink RL 102 yX5_cut, Cond.instanceMethod yX5_cut, Cond.selects RX5 yX5_cut yX5_cut, Cond.code yX5_cut cX5_cut 2 (some .int)]
def wsL_law0_r12 : List Cond := [Cond.methodLink RL 103 yL_told, Cond.static yL_told, Cond.codeWith yL_told cL_told 5 (some .int) [(0, 10, 13, 20)], Cond.methodLink RL 42 yX4_told, Cond.instanceMethod yX4_told, Cond.selects RX4 yX4_told yX4_told, Cond.code yX4_told cX4_told 4 (some .int), Cond.fieldLink RX4 158 "BlossomTours" "today" "I", Cond.methodLink RX4 161 yX4_joyOn, Cond.instanceMethod yX4_joyOn, Cond.selects RX4 yX4_joyOn yX4_joyOn, Cond.code yX4_joyOn cX4_joyOn 5 (some .int), Cond.methodLink RX4 252 Lib.Math.max.name, Cond.static Lib.Math.max.name, Cond.code Lib.Math.max.name Lib.Math.max.code 2 (some .int), Cond.methodLink RX4 165 yX4_stingsOn, Cond.instanceMethod yX4_stingsOn, Cond.selects RX4 yX4_stingsOn yX4_stingsOn, Cond.code yX4_stingsOn cX4_stingsOn 5 (some .int), Cond.methodLink RL 105 yX5_told, Cond.instanceMethod yX5_told, Cond.selects RX5 yX5_told yX5_told, Cond.code yX5_told cX5_told 3 (some .int), Cond.methodLink RX5 103 yX5_tourTold]
def wsL_law0_r13 : List Cond := [Cond.instanceMethod yX5_tourTold, Cond.selects RX5 yX5_tourTold yX5_tourTold, Cond.code yX5_tourTold cX5_tourTold 3 (some .int), Cond.methodLink RX5 78 yX5_minutes, Cond.instanceMethod yX5_minutes, Cond.selects RX5 yX5_minutes yX5_minutes, Cond.code yX5_minutes cX5_minutes 5 (some .int), Cond.methodLink RX5 85 yX5_goes, Cond.instanceMethod yX5_goes, Cond.selects RX5 yX5_goes yX5_goes, Cond.code yX5_goes cX5_goes 2 (some .boolean), Cond.methodLink RX5 97 yX5_joyOf, Cond.instanceMethod yX5_joyOf, Cond.selects RX5 yX5_joyOf yX5_joyOf, Cond.code yX5_joyOf cX5_joyOf 5 (some .int), Cond.methodLink RX5 91 Lib.Math.max.name, Cond.methodLink RX5 88 yX5_crowd, Cond.instanceMethod yX5_crowd, Cond.selects RX5 yX5_crowd yX5_crowd, Cond.code yX5_crowd cX5_crowd 4 (some .int), Cond.methodLink RX5 100 yX5_stingsOf, Cond.instanceMethod yX5_stingsOf, Cond.selects RX5 yX5_stingsOf yX5_stingsOf, Cond.code yX5_stingsOf cX5_stingsOf 5 (some .int)]
def wsL_law0_r14 : List Cond := [Cond.methodLink RL 106 yL_about, Cond.static yL_about, Cond.codeWith yL_about cL_about 5 (some .int) [(0, 10, 13, 20)], Cond.methodLink RL 45 yX4_about, Cond.instanceMethod yX4_about, Cond.selects RX4 yX4_about yX4_about, Cond.code yX4_about cX4_about 4 (some .int), Cond.methodLink RL 108 yX5_about, Cond.instanceMethod yX5_about, Cond.selects RX5 yX5_about yX5_about, Cond.code yX5_about cX5_about 3 (some .int), Cond.methodLink RX5 106 yX5_valleyTold, Cond.instanceMethod yX5_valleyTold, Cond.selects RX5 yX5_valleyTold yX5_valleyTold, Cond.code yX5_valleyTold cX5_valleyTold 5 (some .int), Cond.methodLink RL 109 yL_count, Cond.static yL_count, Cond.codeWith yL_count cL_count 4 (some .int) [(0, 9, 12, 20)], Cond.methodLink RL 48 yX4_count, Cond.instanceMethod yX4_count, Cond.selects RX4 yX4_count yX4_count, Cond.code yX4_count cX4_count 2 (some .int), Cond.methodLink RX4 176 yX4_toursThatCanGo, Cond.instanceMethod yX4_toursThatCanGo]
def wsL_law0_r15 : List Cond := [Cond.selects RX4 yX4_toursThatCanGo yX4_toursThatCanGo, Cond.code yX4_toursThatCanGo cX4_toursThatCanGo 3 (some .int), Cond.methodLink RX4 179 yX4_valleysInBloomOn, Cond.instanceMethod yX4_valleysInBloomOn, Cond.selects RX4 yX4_valleysInBloomOn yX4_valleysInBloomOn, Cond.code yX4_valleysInBloomOn cX4_valleysInBloomOn 4 (some .int), Cond.methodLink RL 111 yX5_count, Cond.instanceMethod yX5_count, Cond.selects RX5 yX5_count yX5_count, Cond.code yX5_count cX5_count 2 (some .int), Cond.methodLink RX5 109 yX5_counted, Cond.instanceMethod yX5_counted, Cond.selects RX5 yX5_counted yX5_counted, Cond.code yX5_counted cX5_counted 6 (some .int), Cond.methodLink RL 112 yL_pass, Cond.static yL_pass, Cond.codeWith yL_pass cL_pass 4 (some .int) [(0, 9, 12, 13)], Cond.methodLink RL 51 yX4_pass, Cond.instanceMethod yX4_pass, Cond.selects RX4 yX4_pass yX4_pass, Cond.code yX4_pass cX4_pass 3 (some .int), Cond.methodLink RX4 193 yX4_checkSpan, Cond.static yX4_checkSpan, Cond.code yX4_checkSpan cX4_checkSpan 1 none]
def wsL_law0_r16 : List Cond := [Cond.methodLink RX4 196 yX4_enterDays, Cond.instanceMethod yX4_enterDays, Cond.selects RX4 yX4_enterDays yX4_enterDays, Cond.code yX4_enterDays cX4_enterDays 4 none, Cond.methodLink RX4 257 yX4_enterDay, Cond.instanceMethod yX4_enterDay, Cond.selects RX4 yX4_enterDay yX4_enterDay, Cond.code yX4_enterDay cX4_enterDay 7 none, Cond.methodLink RX4 260 yJ9_floorMod_7cf53, Cond.static yJ9_floorMod_7cf53, Cond.initialized RJ9, Cond.code yJ9_floorMod_7cf53 cJ9_floorMod_7cf53 3 (some .int), Cond.methodLink RL 114 yX5_pass_, Cond.instanceMethod yX5_pass_, Cond.selects RX5 yX5_pass_ yX5_pass_, Cond.code yX5_pass_ cX5_pass_ 4 (some .int), Cond.methodLink RX5 113 yX5_pass, Cond.instanceMethod yX5_pass, Cond.selects RX5 yX5_pass yX5_pass, Cond.code yX5_pass cX5_pass 4 none, Cond.methodLink RL 115 yL_joy, Cond.static yL_joy, Cond.codeWith yL_joy cL_joy 5 (some .int) [(0, 10, 13, 20), (0, 10, 17, 13)], Cond.methodLink RL 54 yX4_joy]
def wsL_law0_r17 : List Cond := [Cond.instanceMethod yX4_joy, Cond.selects RX4 yX4_joy yX4_joy, Cond.code yX4_joy cX4_joy 3 (some .int), Cond.methodLink RL 117 yX5_joy, Cond.instanceMethod yX5_joy, Cond.selects RX5 yX5_joy yX5_joy, Cond.code yX5_joy cX5_joy 3 (some .int), Cond.methodLink RL 118 yL_best, Cond.static yL_best, Cond.codeWith yL_best cL_best 4 (some .int) [(0, 9, 12, 20)], Cond.methodLink RL 57 yX4_best, Cond.instanceMethod yX4_best, Cond.selects RX4 yX4_best yX4_best, Cond.code yX4_best cX4_best 6 (some .int), Cond.methodLink RL 120 yX5_best, Cond.instanceMethod yX5_best, Cond.selects RX5 yX5_best yX5_best, Cond.code yX5_best cX5_best 6 (some .int), Cond.methodLink RL 121 yL_advise, Cond.static yL_advise, Cond.codeWith yL_advise cL_advise 4 (some .int) [(0, 9, 12, 20)], Cond.methodLink RL 60 yX4_advise, Cond.instanceMethod yX4_advise, Cond.selects RX4 yX4_advise yX4_advise]
def wsL_law0_r18 : List Cond := [Cond.code yX4_advise cX4_advise 7 (some .int), Cond.methodLink RX4 200 yX4_joyWithStopAdded, Cond.instanceMethod yX4_joyWithStopAdded, Cond.selects RX4 yX4_joyWithStopAdded yX4_joyWithStopAdded, Cond.code yX4_joyWithStopAdded cX4_joyWithStopAdded 4 (some .int), Cond.methodLink RL 123 yX5_advise, Cond.instanceMethod yX5_advise, Cond.selects RX5 yX5_advise yX5_advise, Cond.code yX5_advise cX5_advise 6 (some .int), Cond.methodLink RL 124 yL_foresee, Cond.static yL_foresee, Cond.codeWith yL_foresee cL_foresee 5 (some .int) [(0, 10, 13, 13), (0, 10, 17, 20)], Cond.methodLink RL 63 yX4_foresee, Cond.instanceMethod yX4_foresee, Cond.selects RX4 yX4_foresee yX4_foresee, Cond.code yX4_foresee cX4_foresee 3 (some .int), Cond.instanceMethod yX0_copyFrom, Cond.selects RX0 yX0_copyFrom yX0_copyFrom, Cond.code yX0_copyFrom cX0_copyFrom 2 none, Cond.fieldLink RX0 7 "BlossomTours$Books" "coins" "I", Cond.fieldLink RX0 13 "BlossomTours$Books" "joyInAll" "I", Cond.fieldLink RX0 16 "BlossomTours$Books" "stingsInAll" "I", Cond.methodLink RL 126 yX5_foresee, Cond.instanceMethod yX5_foresee]
def wsL_law0_r19 : List Cond := [Cond.selects RX5 yX5_foresee yX5_foresee, Cond.code yX5_foresee cX5_foresee 5 (some .int), Cond.methodLink RX5 117 ⟨"[I", "clone", "()Ljava/lang/Object;"⟩, Cond.sameMethod "[I" "java/lang/Object" "clone" "()Ljava/lang/Object;", Cond.native ⟨"java/lang/Object", "clone", "()Ljava/lang/Object;"⟩, Cond.instanceMethod ⟨"java/lang/Object", "clone", "()Ljava/lang/Object;"⟩, Cond.selects "[I" ⟨"[I", "clone", "()Ljava/lang/Object;"⟩ ⟨"java/lang/Object", "clone", "()Ljava/lang/Object;"⟩, Cond.classLink RX5 118 "[I", Cond.methodLink RL 127 yX4_mean, Cond.instanceMethod yX4_mean, Cond.selects RX4 yX4_mean yX4_mean, Cond.code yX4_mean cX4_mean 3 (some .double), Cond.methodLink RL 131 yX5_mean, Cond.instanceMethod yX5_mean, Cond.selects RX5 yX5_mean yX5_mean, Cond.code yX5_mean cX5_mean 3 (some .double), Cond.methodLink RL 132 yX4_digest, Cond.instanceMethod yX4_digest, Cond.selects RX4 yX4_digest yX4_digest, Cond.code yX4_digest cX4_digest 4 (some .long), Cond.constantLong RX4 209 (1213), Cond.methodLink RX4 211 yX4_count, Cond.methodLink RX4 214 yX4_mixed, Cond.static yX4_mixed]
def wsL_law0_r20 : List Cond := [Cond.code yX4_mixed cX4_mixed 4 (some .long), Cond.constantLong RX4 234 (31), Cond.methodLink RX4 218 yX4_mixedWithValley, Cond.instanceMethod yX4_mixedWithValley, Cond.selects RX4 yX4_mixedWithValley yX4_mixedWithValley, Cond.code yX4_mixedWithValley cX4_mixedWithValley 7 (some .long), Cond.methodLink RX4 225 yX4_about, Cond.methodLink RX4 222 yX4_mixedWithTour, Cond.instanceMethod yX4_mixedWithTour, Cond.selects RX4 yX4_mixedWithTour yX4_mixedWithTour, Cond.code yX4_mixedWithTour cX4_mixedWithTour 7 (some .long), Cond.methodLink RX4 228 yX4_told, Cond.methodLink RL 136 yX5_digest, Cond.instanceMethod yX5_digest, Cond.selects RX5 yX5_digest yX5_digest, Cond.code yX5_digest cX5_digest 7 (some .long), Cond.constantLong RX5 122 (1213), Cond.constantLong RX5 124 (31)]
def wsL_law0 : List Cond := (wsL_law0_r1 ++ (wsL_law0_r2 ++ (wsL_law0_r3 ++ (wsL_law0_r4 ++ (wsL_law0_r5 ++ (wsL_law0_r6 ++ (wsL_law0_r7 ++ (wsL_law0_r8 ++ (wsL_law0_r9 ++ (wsL_law0_r10 ++ (wsL_law0_r11 ++ (wsL_law0_r12 ++ (wsL_law0_r13 ++ (wsL_law0_r14 ++ (wsL_law0_r15 ++ (wsL_law0_r16 ++ (wsL_law0_r17 ++ (wsL_law0_r18 ++ (wsL_law0_r19 ++ wsL_law0_r20))))))))))))))))))) ++ wsX40 ++ wsX50 ++ wsX10 ++ wsX00 ++ wsX30 ++ wsX20 ++ ([] : List Cond)
def wsL_law : List Cond := wsL_law0 ++ (vx_atS RX4 52 "java/lang/IllegalArgumentException" ["java/lang/RuntimeException", "java/lang/Exception"]).filter goodWord ++ (vx_atS RX4 67 "java/lang/IllegalStateException" ["java/lang/RuntimeException", "java/lang/Exception"]).filter goodWord ++ (vx_atS RX4 101 "java/lang/IndexOutOfBoundsException" ["java/lang/RuntimeException", "java/lang/Exception"]).filter goodWord
end
section
set_option maxRecDepth 100000 in
theorem wsL_law_c1 : ∀ w ∈ wsL_law0_r1, w ∈ lw_tbl := by decide +kernel
set_option maxRecDepth 100000 in
theorem wsL_law_c2 : ∀ w ∈ wsL_law0_r2, w ∈ lw_tbl := by decide +kernel
set_option maxRecDepth 100000 in
theorem wsL_law_c3 : ∀ w ∈ wsL_law0_r3, w ∈ lw_tbl := by decide +kernel
set_option maxRecDepth 100000 in
theorem wsL_law_c4 : ∀ w ∈ wsL_law0_r4, w ∈ lw_tbl := by decide +kernel
set_option maxRecDepth 100000 in
theorem wsL_law_c5 : ∀ w ∈ wsL_law0_r5, w ∈ lw_tbl := by decide +kernel
set_option maxRecDepth 100000 in
theorem wsL_law_c6 : ∀ w ∈ wsL_law0_r6, w ∈ lw_tbl := by decide +kernel
set_option maxRecDepth 100000 in
theorem wsL_law_c7 : ∀ w ∈ wsL_law0_r7, w ∈ lw_tbl := by decide +kernel
set_option maxRecDepth 100000 in
theorem wsL_law_c8 : ∀ w ∈ wsL_law0_r8, w ∈ lw_tbl := by decide +kernel
set_option maxRecDepth 100000 in
theorem wsL_law_c9 : ∀ w ∈ wsL_law0_r9, w ∈ lw_tbl := by decide +kernel
set_option maxRecDepth 100000 in
theorem wsL_law_c10 : ∀ w ∈ wsL_law0_r10, w ∈ lw_tbl := by decide +kernel
set_option maxRecDepth 100000 in
theorem wsL_law_c11 : ∀ w ∈ wsL_law0_r11, w ∈ lw_tbl := by decide +kernel
set_option maxRecDepth 100000 in
theorem wsL_law_c12 : ∀ w ∈ wsL_law0_r12, w ∈ lw_tbl := by decide +kernel
set_option maxRecDepth 100000 in
theorem wsL_law_c13 : ∀ w ∈ wsL_law0_r13, w ∈ lw_tbl := by decide +kernel
set_option maxRecDepth 100000 in
theorem wsL_law_c14 : ∀ w ∈ wsL_law0_r14, w ∈ lw_tbl := by decide +kernel
set_option maxRecDepth 100000 in
theorem wsL_law_c15 : ∀ w ∈ wsL_law0_r15, w ∈ lw_tbl := by decide +kernel
set_option maxRecDepth 100000 in
theorem wsL_law_c16 : ∀ w ∈ wsL_law0_r16, w ∈ lw_tbl := by decide +kernel
set_option maxRecDepth 100000 in
theorem wsL_law_c17 : ∀ w ∈ wsL_law0_r17, w ∈ lw_tbl := by decide +kernel
set_option maxRecDepth 100000 in
theorem wsL_law_c18 : ∀ w ∈ wsL_law0_r18, w ∈ lw_tbl := by decide +kernel
set_option maxRecDepth 100000 in
theorem wsL_law_c19 : ∀ w ∈ wsL_law0_r19, w ∈ lw_tbl := by decide +kernel
set_option maxRecDepth 100000 in
theorem wsL_law_c20 : ∀ w ∈ wsL_law0_r20, w ∈ lw_tbl := by decide +kernel
set_option maxRecDepth 100000 in
theorem wsL_law_k4 : ∀ w ∈ wsX40, w ∈ lw_tbl := by decide +kernel
set_option maxRecDepth 100000 in
theorem wsL_law_k5 : ∀ w ∈ wsX50, w ∈ lw_tbl := by decide +kernel
set_option maxRecDepth 100000 in
theorem wsL_law_k1 : ∀ w ∈ wsX10, w ∈ lw_tbl := by decide +kernel
set_option maxRecDepth 100000 in
theorem wsL_law_k0 : ∀ w ∈ wsX00, w ∈ lw_tbl := by decide +kernel
set_option maxRecDepth 100000 in
theorem wsL_law_k3 : ∀ w ∈ wsX30, w ∈ lw_tbl := by decide +kernel
set_option maxRecDepth 100000 in
theorem wsL_law_k2 : ∀ w ∈ wsX20, w ∈ lw_tbl := by decide +kernel
theorem wsL_law_in0 : ∀ w ∈ wsL_law0, w ∈ lw_tbl := by
  unfold wsL_law0
  exact (List.forall_mem_append.mpr ⟨(List.forall_mem_append.mpr ⟨(List.forall_mem_append.mpr ⟨(List.forall_mem_append.mpr ⟨(List.forall_mem_append.mpr ⟨(List.forall_mem_append.mpr ⟨(List.forall_mem_append.mpr ⟨(List.forall_mem_append.mpr ⟨wsL_law_c1, (List.forall_mem_append.mpr ⟨wsL_law_c2, (List.forall_mem_append.mpr ⟨wsL_law_c3, (List.forall_mem_append.mpr ⟨wsL_law_c4, (List.forall_mem_append.mpr ⟨wsL_law_c5, (List.forall_mem_append.mpr ⟨wsL_law_c6, (List.forall_mem_append.mpr ⟨wsL_law_c7, (List.forall_mem_append.mpr ⟨wsL_law_c8, (List.forall_mem_append.mpr ⟨wsL_law_c9, (List.forall_mem_append.mpr ⟨wsL_law_c10, (List.forall_mem_append.mpr ⟨wsL_law_c11, (List.forall_mem_append.mpr ⟨wsL_law_c12, (List.forall_mem_append.mpr ⟨wsL_law_c13, (List.forall_mem_append.mpr ⟨wsL_law_c14, (List.forall_mem_append.mpr ⟨wsL_law_c15, (List.forall_mem_append.mpr ⟨wsL_law_c16, (List.forall_mem_append.mpr ⟨wsL_law_c17, (List.forall_mem_append.mpr ⟨wsL_law_c18, (List.forall_mem_append.mpr ⟨wsL_law_c19, wsL_law_c20⟩)⟩)⟩)⟩)⟩)⟩)⟩)⟩)⟩)⟩)⟩)⟩)⟩)⟩)⟩)⟩)⟩)⟩)⟩), wsL_law_k4⟩), wsL_law_k5⟩), wsL_law_k1⟩), wsL_law_k0⟩), wsL_law_k3⟩), wsL_law_k2⟩), fun _ h => absurd h List.not_mem_nil⟩)
theorem wsL_law_x0 : ∀ w ∈ (vx_atS RX4 52 "java/lang/IllegalArgumentException" ["java/lang/RuntimeException", "java/lang/Exception"]).filter goodWord, w ∈ lw_tbl := by decide +kernel
theorem wsL_law_x1 : ∀ w ∈ (vx_atS RX4 67 "java/lang/IllegalStateException" ["java/lang/RuntimeException", "java/lang/Exception"]).filter goodWord, w ∈ lw_tbl := by decide +kernel
theorem wsL_law_x2 : ∀ w ∈ (vx_atS RX4 101 "java/lang/IndexOutOfBoundsException" ["java/lang/RuntimeException", "java/lang/Exception"]).filter goodWord, w ∈ lw_tbl := by decide +kernel
theorem wsL_law_in : ∀ w ∈ wsL_law, w ∈ lw_tbl := fun w h => (List.mem_append.mp h).elim (fun h => (List.mem_append.mp h).elim (fun h => (List.mem_append.mp h).elim (fun h => wsL_law_in0 w h) (fun h => wsL_law_x0 w h)) (fun h => wsL_law_x1 w h)) (fun h => wsL_law_x2 w h)
theorem inlX0 : ∀ w ∈ wsX00, w ∈ wsL_law := fun _ h => List.mem_append_left _ (List.mem_append_left _ (List.mem_append_left _ (List.mem_append_left _ (List.mem_append_left _ (List.mem_append_left _ (List.mem_append_right _ h))))))
theorem inX0 : ∀ w ∈ wsX00, w ∈ lw_tbl := fun w h => wsL_law_in w (inlX0 w h)
theorem inlX1 : ∀ w ∈ wsX10, w ∈ wsL_law := fun _ h => List.mem_append_left _ (List.mem_append_left _ (List.mem_append_left _ (List.mem_append_left _ (List.mem_append_left _ (List.mem_append_left _ (List.mem_append_left _ (List.mem_append_right _ h)))))))
theorem inX1 : ∀ w ∈ wsX10, w ∈ lw_tbl := fun w h => wsL_law_in w (inlX1 w h)
theorem inlX2 : ∀ w ∈ wsX20, w ∈ wsL_law := fun _ h => List.mem_append_left _ (List.mem_append_left _ (List.mem_append_left _ (List.mem_append_left _ (List.mem_append_right _ h))))
theorem inX2 : ∀ w ∈ wsX20, w ∈ lw_tbl := fun w h => wsL_law_in w (inlX2 w h)
theorem inlX3 : ∀ w ∈ wsX30, w ∈ wsL_law := fun _ h => List.mem_append_left _ (List.mem_append_left _ (List.mem_append_left _ (List.mem_append_left _ (List.mem_append_left _ (List.mem_append_right _ h)))))
theorem inX3 : ∀ w ∈ wsX30, w ∈ lw_tbl := fun w h => wsL_law_in w (inlX3 w h)
theorem inlX4 : ∀ w ∈ wsX40, w ∈ wsL_law := fun _ h => List.mem_append_left _ (List.mem_append_left _ (List.mem_append_left _ (List.mem_append_left _ (List.mem_append_left _ (List.mem_append_left _ (List.mem_append_left _ (List.mem_append_left _ (List.mem_append_left _ (List.mem_append_right _ h)))))))))
theorem inX4 : ∀ w ∈ wsX40, w ∈ lw_tbl := fun w h => wsL_law_in w (inlX4 w h)
theorem inlX5 : ∀ w ∈ wsX50, w ∈ wsL_law := fun _ h => List.mem_append_left _ (List.mem_append_left _ (List.mem_append_left _ (List.mem_append_left _ (List.mem_append_left _ (List.mem_append_left _ (List.mem_append_left _ (List.mem_append_left _ (List.mem_append_right _ h))))))))
theorem inX5 : ∀ w ∈ wsX50, w ∈ lw_tbl := fun w h => wsL_law_in w (inlX5 w h)
theorem inJx8e188 : ∀ w ∈ wsJx8e1880, w ∈ lw_tbl := by decide +kernel
theorem inJ9 : ∀ w ∈ wsJ90, w ∈ lw_tbl := by decide +kernel
theorem inJ0 : ∀ w ∈ wsJ00, w ∈ lw_tbl := by decide +kernel
end
section
theorem dX0_init_0 : decode cX0_init 0 = .ok (.aload_n 0, 1) := by decide +kernel
theorem dX0_init_1 : decode cX0_init 1 = .ok (.invokespecial 1, 3) := by decide +kernel
theorem dX0_init_4 : decode cX0_init 4 = .ok (.return_, 1) := by decide +kernel
theorem dX0_copyFrom_0 : decode cX0_copyFrom 0 = .ok (.aload_n 0, 1) := by decide +kernel
theorem dX0_copyFrom_1 : decode cX0_copyFrom 1 = .ok (.aload_n 1, 1) := by decide +kernel
theorem dX0_copyFrom_2 : decode cX0_copyFrom 2 = .ok (.getfield 7, 3) := by decide +kernel
theorem dX0_copyFrom_5 : decode cX0_copyFrom 5 = .ok (.putfield 7, 3) := by decide +kernel
theorem dX0_copyFrom_8 : decode cX0_copyFrom 8 = .ok (.aload_n 0, 1) := by decide +kernel
theorem dX0_copyFrom_9 : decode cX0_copyFrom 9 = .ok (.aload_n 1, 1) := by decide +kernel
theorem dX0_copyFrom_10 : decode cX0_copyFrom 10 = .ok (.getfield 13, 3) := by decide +kernel
theorem dX0_copyFrom_13 : decode cX0_copyFrom 13 = .ok (.putfield 13, 3) := by decide +kernel
theorem dX0_copyFrom_16 : decode cX0_copyFrom 16 = .ok (.aload_n 0, 1) := by decide +kernel
theorem dX0_copyFrom_17 : decode cX0_copyFrom 17 = .ok (.aload_n 1, 1) := by decide +kernel
theorem dX0_copyFrom_18 : decode cX0_copyFrom 18 = .ok (.getfield 16, 3) := by decide +kernel
theorem dX0_copyFrom_21 : decode cX0_copyFrom 21 = .ok (.putfield 16, 3) := by decide +kernel
theorem dX0_copyFrom_24 : decode cX0_copyFrom 24 = .ok (.return_, 1) := by decide +kernel
theorem dX1_init_0 : decode cX1_init 0 = .ok (.aload_n 0, 1) := by decide +kernel
theorem dX1_init_1 : decode cX1_init 1 = .ok (.invokespecial 3, 3) := by decide +kernel
theorem dX1_init_4 : decode cX1_init 4 = .ok (.aload_n 0, 1) := by decide +kernel
theorem dX1_init_5 : decode cX1_init 5 = .ok (.bipush 8, 2) := by decide +kernel
theorem dX1_init_7 : decode cX1_init 7 = .ok (.bipush 8, 2) := by decide +kernel
theorem dX1_init_9 : decode cX1_init 9 = .ok (.multianewarray 9 2, 4) := by decide +kernel
theorem dX1_init_13 : decode cX1_init 13 = .ok (.putfield 11, 3) := by decide +kernel
theorem dX1_init_16 : decode cX1_init 16 = .ok (.iconst 0, 1) := by decide +kernel
theorem dX1_init_17 : decode cX1_init 17 = .ok (.istore_n 1, 1) := by decide +kernel
theorem dX1_init_18 : decode cX1_init 18 = .ok (.iload_n 1, 1) := by decide +kernel
theorem dX1_init_19 : decode cX1_init 19 = .ok (.bipush 8, 2) := by decide +kernel
theorem dX1_init_21 : decode cX1_init 21 = .ok (.if_icmp .ge 42, 3) := by decide +kernel
theorem dX1_init_24 : decode cX1_init 24 = .ok (.iconst 0, 1) := by decide +kernel
theorem dX1_init_25 : decode cX1_init 25 = .ok (.istore_n 2, 1) := by decide +kernel
theorem dX1_init_26 : decode cX1_init 26 = .ok (.iload_n 2, 1) := by decide +kernel
theorem dX1_init_27 : decode cX1_init 27 = .ok (.bipush 8, 2) := by decide +kernel
theorem dX1_init_29 : decode cX1_init 29 = .ok (.if_icmp .ge 28, 3) := by decide +kernel
theorem dX1_init_32 : decode cX1_init 32 = .ok (.aload_n 0, 1) := by decide +kernel
theorem dX1_init_33 : decode cX1_init 33 = .ok (.getfield 11, 3) := by decide +kernel
theorem dX1_init_36 : decode cX1_init 36 = .ok (.iload_n 1, 1) := by decide +kernel
theorem dX1_init_37 : decode cX1_init 37 = .ok (.aaload, 1) := by decide +kernel
theorem dX1_init_38 : decode cX1_init 38 = .ok (.iload_n 2, 1) := by decide +kernel
theorem dX1_init_39 : decode cX1_init 39 = .ok (.iload_n 1, 1) := by decide +kernel
theorem dX1_init_40 : decode cX1_init 40 = .ok (.iload_n 2, 1) := by decide +kernel
theorem dX1_init_41 : decode cX1_init 41 = .ok (.if_icmp .ne 7, 3) := by decide +kernel
theorem dX1_init_44 : decode cX1_init 44 = .ok (.iconst 0, 1) := by decide +kernel
theorem dX1_init_45 : decode cX1_init 45 = .ok (.goto 5, 3) := by decide +kernel
theorem dX1_init_48 : decode cX1_init 48 = .ok (.ldc 16, 2) := by decide +kernel
theorem dX1_init_50 : decode cX1_init 50 = .ok (.iastore, 1) := by decide +kernel
theorem dX1_init_51 : decode cX1_init 51 = .ok (.iinc 2 1, 3) := by decide +kernel
theorem dX1_init_54 : decode cX1_init 54 = .ok (.goto (-28), 3) := by decide +kernel
theorem dX1_init_57 : decode cX1_init 57 = .ok (.iinc 1 1, 3) := by decide +kernel
theorem dX1_init_60 : decode cX1_init 60 = .ok (.goto (-42), 3) := by decide +kernel
theorem dX1_init_63 : decode cX1_init 63 = .ok (.return_, 1) := by decide +kernel
set_option maxRecDepth 20000 in
theorem ggX1_minutesBetween_X1_isPlace : GoodIn wsX1_minutesBetween wsX1_isPlace := goodIn_r _ [6, 7, 8, 9] (by decide +kernel) (by decide +kernel)
set_option maxRecDepth 20000 in
theorem gX1_minutesBetween_X1_isPlace : GoodIn wsX1_minutesBetween (va_wsS RX1 17 yX1_isPlace wsX1_isPlace) := goodIn_app (goodIn_of _ (by decide +kernel)) ggX1_minutesBetween_X1_isPlace
theorem dX1_minutesBetween_0 : decode cX1_minutesBetween 0 = .ok (.iload_n 1, 1) := by decide +kernel
theorem dX1_minutesBetween_1 : decode cX1_minutesBetween 1 = .ok (.invokestatic 17, 3) := by decide +kernel
theorem dX1_minutesBetween_4 : decode cX1_minutesBetween 4 = .ok (.ifCond .eq 23, 3) := by decide +kernel
theorem dX1_minutesBetween_7 : decode cX1_minutesBetween 7 = .ok (.iload_n 2, 1) := by decide +kernel
theorem dX1_minutesBetween_8 : decode cX1_minutesBetween 8 = .ok (.invokestatic 17, 3) := by decide +kernel
theorem dX1_minutesBetween_11 : decode cX1_minutesBetween 11 = .ok (.ifCond .eq 16, 3) := by decide +kernel
theorem dX1_minutesBetween_14 : decode cX1_minutesBetween 14 = .ok (.aload_n 0, 1) := by decide +kernel
theorem dX1_minutesBetween_15 : decode cX1_minutesBetween 15 = .ok (.getfield 11, 3) := by decide +kernel
theorem dX1_minutesBetween_18 : decode cX1_minutesBetween 18 = .ok (.iload_n 1, 1) := by decide +kernel
theorem dX1_minutesBetween_19 : decode cX1_minutesBetween 19 = .ok (.aaload, 1) := by decide +kernel
theorem dX1_minutesBetween_20 : decode cX1_minutesBetween 20 = .ok (.iload_n 2, 1) := by decide +kernel
theorem dX1_minutesBetween_21 : decode cX1_minutesBetween 21 = .ok (.iaload, 1) := by decide +kernel
theorem dX1_minutesBetween_22 : decode cX1_minutesBetween 22 = .ok (.ldc 16, 2) := by decide +kernel
theorem dX1_minutesBetween_24 : decode cX1_minutesBetween 24 = .ok (.if_icmp .lt 5, 3) := by decide +kernel
theorem dX1_minutesBetween_27 : decode cX1_minutesBetween 27 = .ok (.iconst (-1), 1) := by decide +kernel
theorem dX1_minutesBetween_28 : decode cX1_minutesBetween 28 = .ok (.ireturn, 1) := by decide +kernel
theorem dX1_minutesBetween_29 : decode cX1_minutesBetween 29 = .ok (.aload_n 0, 1) := by decide +kernel
theorem dX1_minutesBetween_30 : decode cX1_minutesBetween 30 = .ok (.getfield 11, 3) := by decide +kernel
theorem dX1_minutesBetween_33 : decode cX1_minutesBetween 33 = .ok (.iload_n 1, 1) := by decide +kernel
theorem dX1_minutesBetween_34 : decode cX1_minutesBetween 34 = .ok (.aaload, 1) := by decide +kernel
theorem dX1_minutesBetween_35 : decode cX1_minutesBetween 35 = .ok (.iload_n 2, 1) := by decide +kernel
theorem dX1_minutesBetween_36 : decode cX1_minutesBetween 36 = .ok (.iaload, 1) := by decide +kernel
theorem dX1_minutesBetween_37 : decode cX1_minutesBetween 37 = .ok (.ireturn, 1) := by decide +kernel
set_option maxRecDepth 20000 in
theorem ggX1_lay_X1_isPlace : GoodIn wsX1_lay wsX1_isPlace := goodIn_r _ [10, 11, 12, 13] (by decide +kernel) (by decide +kernel)
set_option maxRecDepth 20000 in
theorem gX1_lay_X1_isPlace : GoodIn wsX1_lay (va_wsS RX1 17 yX1_isPlace wsX1_isPlace) := goodIn_app (goodIn_of _ (by decide +kernel)) ggX1_lay_X1_isPlace
theorem dX1_lay_0 : decode cX1_lay 0 = .ok (.iload_n 1, 1) := by decide +kernel
theorem dX1_lay_1 : decode cX1_lay 1 = .ok (.invokestatic 17, 3) := by decide +kernel
theorem dX1_lay_4 : decode cX1_lay 4 = .ok (.ifCond .eq 10, 3) := by decide +kernel
theorem dX1_lay_7 : decode cX1_lay 7 = .ok (.iload_n 2, 1) := by decide +kernel
theorem dX1_lay_8 : decode cX1_lay 8 = .ok (.invokestatic 17, 3) := by decide +kernel
theorem dX1_lay_11 : decode cX1_lay 11 = .ok (.ifCond .ne 4, 3) := by decide +kernel
theorem dX1_lay_14 : decode cX1_lay 14 = .ok (.return_, 1) := by decide +kernel
theorem dX1_lay_15 : decode cX1_lay 15 = .ok (.iconst 0, 1) := by decide +kernel
theorem dX1_lay_16 : decode cX1_lay 16 = .ok (.istore 4, 2) := by decide +kernel
theorem dX1_lay_18 : decode cX1_lay 18 = .ok (.iload 4, 2) := by decide +kernel
theorem dX1_lay_20 : decode cX1_lay 20 = .ok (.bipush 8, 2) := by decide +kernel
theorem dX1_lay_22 : decode cX1_lay 22 = .ok (.if_icmp .ge 101, 3) := by decide +kernel
theorem dX1_lay_25 : decode cX1_lay 25 = .ok (.iconst 0, 1) := by decide +kernel
theorem dX1_lay_26 : decode cX1_lay 26 = .ok (.istore 5, 2) := by decide +kernel
theorem dX1_lay_28 : decode cX1_lay 28 = .ok (.iload 5, 2) := by decide +kernel
theorem dX1_lay_30 : decode cX1_lay 30 = .ok (.bipush 8, 2) := by decide +kernel
theorem dX1_lay_32 : decode cX1_lay 32 = .ok (.if_icmp .ge 85, 3) := by decide +kernel
theorem dX1_lay_35 : decode cX1_lay 35 = .ok (.aload_n 0, 1) := by decide +kernel
theorem dX1_lay_36 : decode cX1_lay 36 = .ok (.getfield 11, 3) := by decide +kernel
theorem dX1_lay_39 : decode cX1_lay 39 = .ok (.iload 4, 2) := by decide +kernel
theorem dX1_lay_41 : decode cX1_lay 41 = .ok (.aaload, 1) := by decide +kernel
theorem dX1_lay_42 : decode cX1_lay 42 = .ok (.iload_n 1, 1) := by decide +kernel
theorem dX1_lay_43 : decode cX1_lay 43 = .ok (.iaload, 1) := by decide +kernel
theorem dX1_lay_44 : decode cX1_lay 44 = .ok (.iload_n 3, 1) := by decide +kernel
theorem dX1_lay_45 : decode cX1_lay 45 = .ok (.iadd, 1) := by decide +kernel
theorem dX1_lay_46 : decode cX1_lay 46 = .ok (.aload_n 0, 1) := by decide +kernel
theorem dX1_lay_47 : decode cX1_lay 47 = .ok (.getfield 11, 3) := by decide +kernel
theorem dX1_lay_50 : decode cX1_lay 50 = .ok (.iload_n 2, 1) := by decide +kernel
theorem dX1_lay_51 : decode cX1_lay 51 = .ok (.aaload, 1) := by decide +kernel
theorem dX1_lay_52 : decode cX1_lay 52 = .ok (.iload 5, 2) := by decide +kernel
theorem dX1_lay_54 : decode cX1_lay 54 = .ok (.iaload, 1) := by decide +kernel
theorem dX1_lay_55 : decode cX1_lay 55 = .ok (.iadd, 1) := by decide +kernel
theorem dX1_lay_56 : decode cX1_lay 56 = .ok (.istore 6, 2) := by decide +kernel
theorem dX1_lay_58 : decode cX1_lay 58 = .ok (.aload_n 0, 1) := by decide +kernel
theorem dX1_lay_59 : decode cX1_lay 59 = .ok (.getfield 11, 3) := by decide +kernel
theorem dX1_lay_62 : decode cX1_lay 62 = .ok (.iload 4, 2) := by decide +kernel
theorem dX1_lay_64 : decode cX1_lay 64 = .ok (.aaload, 1) := by decide +kernel
theorem dX1_lay_65 : decode cX1_lay 65 = .ok (.iload_n 2, 1) := by decide +kernel
theorem dX1_lay_66 : decode cX1_lay 66 = .ok (.iaload, 1) := by decide +kernel
theorem dX1_lay_67 : decode cX1_lay 67 = .ok (.iload_n 3, 1) := by decide +kernel
theorem dX1_lay_68 : decode cX1_lay 68 = .ok (.iadd, 1) := by decide +kernel
theorem dX1_lay_69 : decode cX1_lay 69 = .ok (.aload_n 0, 1) := by decide +kernel
theorem dX1_lay_70 : decode cX1_lay 70 = .ok (.getfield 11, 3) := by decide +kernel
theorem dX1_lay_73 : decode cX1_lay 73 = .ok (.iload_n 1, 1) := by decide +kernel
theorem dX1_lay_74 : decode cX1_lay 74 = .ok (.aaload, 1) := by decide +kernel
theorem dX1_lay_75 : decode cX1_lay 75 = .ok (.iload 5, 2) := by decide +kernel
theorem dX1_lay_77 : decode cX1_lay 77 = .ok (.iaload, 1) := by decide +kernel
theorem dX1_lay_78 : decode cX1_lay 78 = .ok (.iadd, 1) := by decide +kernel
theorem dX1_lay_79 : decode cX1_lay 79 = .ok (.istore 7, 2) := by decide +kernel
theorem dX1_lay_81 : decode cX1_lay 81 = .ok (.aload_n 0, 1) := by decide +kernel
theorem dX1_lay_82 : decode cX1_lay 82 = .ok (.getfield 11, 3) := by decide +kernel
theorem dX1_lay_85 : decode cX1_lay 85 = .ok (.iload 4, 2) := by decide +kernel
theorem dX1_lay_87 : decode cX1_lay 87 = .ok (.aaload, 1) := by decide +kernel
theorem dX1_lay_88 : decode cX1_lay 88 = .ok (.iload 5, 2) := by decide +kernel
theorem dX1_lay_90 : decode cX1_lay 90 = .ok (.aload_n 0, 1) := by decide +kernel
theorem dX1_lay_91 : decode cX1_lay 91 = .ok (.getfield 11, 3) := by decide +kernel
theorem dX1_lay_94 : decode cX1_lay 94 = .ok (.iload 4, 2) := by decide +kernel
theorem dX1_lay_96 : decode cX1_lay 96 = .ok (.aaload, 1) := by decide +kernel
theorem dX1_lay_97 : decode cX1_lay 97 = .ok (.iload 5, 2) := by decide +kernel
theorem dX1_lay_99 : decode cX1_lay 99 = .ok (.iaload, 1) := by decide +kernel
theorem dX1_lay_100 : decode cX1_lay 100 = .ok (.iload 6, 2) := by decide +kernel
theorem dX1_lay_102 : decode cX1_lay 102 = .ok (.iload 7, 2) := by decide +kernel
theorem dX1_lay_104 : decode cX1_lay 104 = .ok (.invokestatic 21, 3) := by decide +kernel
theorem dX1_lay_107 : decode cX1_lay 107 = .ok (.invokestatic 21, 3) := by decide +kernel
theorem dX1_lay_110 : decode cX1_lay 110 = .ok (.iastore, 1) := by decide +kernel
theorem dX1_lay_111 : decode cX1_lay 111 = .ok (.iinc 5 1, 3) := by decide +kernel
theorem dX1_lay_114 : decode cX1_lay 114 = .ok (.goto (-86), 3) := by decide +kernel
theorem dX1_lay_117 : decode cX1_lay 117 = .ok (.iinc 4 1, 3) := by decide +kernel
theorem dX1_lay_120 : decode cX1_lay 120 = .ok (.goto (-102), 3) := by decide +kernel
theorem dX1_lay_123 : decode cX1_lay 123 = .ok (.aload_n 0, 1) := by decide +kernel
theorem dX1_lay_124 : decode cX1_lay 124 = .ok (.dup, 1) := by decide +kernel
theorem dX1_lay_125 : decode cX1_lay 125 = .ok (.getfield 27, 3) := by decide +kernel
theorem dX1_lay_128 : decode cX1_lay 128 = .ok (.iconst 1, 1) := by decide +kernel
theorem dX1_lay_129 : decode cX1_lay 129 = .ok (.iadd, 1) := by decide +kernel
theorem dX1_lay_130 : decode cX1_lay 130 = .ok (.putfield 27, 3) := by decide +kernel
theorem dX1_lay_133 : decode cX1_lay 133 = .ok (.return_, 1) := by decide +kernel
set_option maxRecDepth 20000 in
theorem ggX1_isPlace_X4_isWithin : GoodIn wsX1_isPlace wsX4_isWithin := goodIn_r _ [3] (by decide +kernel) (by decide +kernel)
set_option maxRecDepth 20000 in
theorem gX1_isPlace_X4_isWithin_n31 : GoodIn wsX1_isPlace (wsX4_isWithin) := ggX1_isPlace_X4_isWithin
theorem dX1_isPlace_0 : decode cX1_isPlace 0 = .ok (.iload_n 0, 1) := by decide +kernel
theorem dX1_isPlace_1 : decode cX1_isPlace 1 = .ok (.iconst 0, 1) := by decide +kernel
theorem dX1_isPlace_2 : decode cX1_isPlace 2 = .ok (.bipush 7, 2) := by decide +kernel
theorem dX1_isPlace_4 : decode cX1_isPlace 4 = .ok (.invokestatic 31, 3) := by decide +kernel
theorem dX1_isPlace_7 : decode cX1_isPlace 7 = .ok (.ireturn, 1) := by decide +kernel
theorem dX2_init_0 : decode cX2_init 0 = .ok (.aload_n 0, 1) := by decide +kernel
theorem dX2_init_1 : decode cX2_init 1 = .ok (.invokespecial 3, 3) := by decide +kernel
theorem dX2_init_4 : decode cX2_init 4 = .ok (.aload_n 0, 1) := by decide +kernel
theorem dX2_init_5 : decode cX2_init 5 = .ok (.iconst 5, 1) := by decide +kernel
theorem dX2_init_6 : decode cX2_init 6 = .ok (.newarray .int, 2) := by decide +kernel
theorem dX2_init_8 : decode cX2_init 8 = .ok (.putfield 9, 3) := by decide +kernel
theorem dX2_init_11 : decode cX2_init 11 = .ok (.return_, 1) := by decide +kernel
theorem dX2_isFull_0 : decode cX2_isFull 0 = .ok (.aload_n 0, 1) := by decide +kernel
theorem dX2_isFull_1 : decode cX2_isFull 1 = .ok (.getfield 15, 3) := by decide +kernel
theorem dX2_isFull_4 : decode cX2_isFull 4 = .ok (.aload_n 0, 1) := by decide +kernel
theorem dX2_isFull_5 : decode cX2_isFull 5 = .ok (.getfield 9, 3) := by decide +kernel
theorem dX2_isFull_8 : decode cX2_isFull 8 = .ok (.arraylength, 1) := by decide +kernel
theorem dX2_isFull_9 : decode cX2_isFull 9 = .ok (.if_icmp .lt 7, 3) := by decide +kernel
theorem dX2_isFull_12 : decode cX2_isFull 12 = .ok (.iconst 1, 1) := by decide +kernel
theorem dX2_isFull_13 : decode cX2_isFull 13 = .ok (.goto 4, 3) := by decide +kernel
theorem dX2_isFull_16 : decode cX2_isFull 16 = .ok (.iconst 0, 1) := by decide +kernel
theorem dX2_isFull_17 : decode cX2_isFull 17 = .ok (.ireturn, 1) := by decide +kernel
theorem dX2_visits_0 : decode cX2_visits 0 = .ok (.iconst 0, 1) := by decide +kernel
theorem dX2_visits_1 : decode cX2_visits 1 = .ok (.istore_n 2, 1) := by decide +kernel
theorem dX2_visits_2 : decode cX2_visits 2 = .ok (.iload_n 2, 1) := by decide +kernel
theorem dX2_visits_3 : decode cX2_visits 3 = .ok (.aload_n 0, 1) := by decide +kernel
theorem dX2_visits_4 : decode cX2_visits 4 = .ok (.getfield 15, 3) := by decide +kernel
theorem dX2_visits_7 : decode cX2_visits 7 = .ok (.if_icmp .ge 21, 3) := by decide +kernel
theorem dX2_visits_10 : decode cX2_visits 10 = .ok (.aload_n 0, 1) := by decide +kernel
theorem dX2_visits_11 : decode cX2_visits 11 = .ok (.getfield 9, 3) := by decide +kernel
theorem dX2_visits_14 : decode cX2_visits 14 = .ok (.iload_n 2, 1) := by decide +kernel
theorem dX2_visits_15 : decode cX2_visits 15 = .ok (.iaload, 1) := by decide +kernel
theorem dX2_visits_16 : decode cX2_visits 16 = .ok (.iload_n 1, 1) := by decide +kernel
theorem dX2_visits_17 : decode cX2_visits 17 = .ok (.if_icmp .ne 5, 3) := by decide +kernel
theorem dX2_visits_20 : decode cX2_visits 20 = .ok (.iconst 1, 1) := by decide +kernel
theorem dX2_visits_21 : decode cX2_visits 21 = .ok (.ireturn, 1) := by decide +kernel
theorem dX2_visits_22 : decode cX2_visits 22 = .ok (.iinc 2 1, 3) := by decide +kernel
theorem dX2_visits_25 : decode cX2_visits 25 = .ok (.goto (-23), 3) := by decide +kernel
theorem dX2_visits_28 : decode cX2_visits 28 = .ok (.iconst 0, 1) := by decide +kernel
theorem dX2_visits_29 : decode cX2_visits 29 = .ok (.ireturn, 1) := by decide +kernel
set_option maxRecDepth 20000 in
theorem ggX2_append_X2_isFull : GoodIn wsX2_append wsX2_isFull := goodIn_r _ [7, 2, 1, 8, 9, 10, 11] (by decide +kernel) (by decide +kernel)
set_option maxRecDepth 20000 in
theorem gX2_append_X2_isFull : GoodIn wsX2_append (wsV RX2 19 RX2 yX2_isFull wsX2_isFull) := goodIn_app (goodIn_of _ (by decide +kernel)) ggX2_append_X2_isFull
theorem dX2_append_0 : decode cX2_append 0 = .ok (.aload_n 0, 1) := by decide +kernel
theorem dX2_append_1 : decode cX2_append 1 = .ok (.invokevirtual 19, 3) := by decide +kernel
theorem dX2_append_4 : decode cX2_append 4 = .ok (.ifCond .ne 23, 3) := by decide +kernel
theorem dX2_append_7 : decode cX2_append 7 = .ok (.aload_n 0, 1) := by decide +kernel
theorem dX2_append_8 : decode cX2_append 8 = .ok (.getfield 9, 3) := by decide +kernel
theorem dX2_append_11 : decode cX2_append 11 = .ok (.aload_n 0, 1) := by decide +kernel
theorem dX2_append_12 : decode cX2_append 12 = .ok (.getfield 15, 3) := by decide +kernel
theorem dX2_append_15 : decode cX2_append 15 = .ok (.iload_n 1, 1) := by decide +kernel
theorem dX2_append_16 : decode cX2_append 16 = .ok (.iastore, 1) := by decide +kernel
theorem dX2_append_17 : decode cX2_append 17 = .ok (.aload_n 0, 1) := by decide +kernel
theorem dX2_append_18 : decode cX2_append 18 = .ok (.dup, 1) := by decide +kernel
theorem dX2_append_19 : decode cX2_append 19 = .ok (.getfield 15, 3) := by decide +kernel
theorem dX2_append_22 : decode cX2_append 22 = .ok (.iconst 1, 1) := by decide +kernel
theorem dX2_append_23 : decode cX2_append 23 = .ok (.iadd, 1) := by decide +kernel
theorem dX2_append_24 : decode cX2_append 24 = .ok (.putfield 15, 3) := by decide +kernel
theorem dX2_append_27 : decode cX2_append 27 = .ok (.return_, 1) := by decide +kernel
theorem dX2_takeLast_0 : decode cX2_takeLast 0 = .ok (.aload_n 0, 1) := by decide +kernel
theorem dX2_takeLast_1 : decode cX2_takeLast 1 = .ok (.getfield 15, 3) := by decide +kernel
theorem dX2_takeLast_4 : decode cX2_takeLast 4 = .ok (.ifCond .gt 5, 3) := by decide +kernel
theorem dX2_takeLast_7 : decode cX2_takeLast 7 = .ok (.iconst (-1), 1) := by decide +kernel
theorem dX2_takeLast_8 : decode cX2_takeLast 8 = .ok (.ireturn, 1) := by decide +kernel
theorem dX2_takeLast_9 : decode cX2_takeLast 9 = .ok (.aload_n 0, 1) := by decide +kernel
theorem dX2_takeLast_10 : decode cX2_takeLast 10 = .ok (.dup, 1) := by decide +kernel
theorem dX2_takeLast_11 : decode cX2_takeLast 11 = .ok (.getfield 15, 3) := by decide +kernel
theorem dX2_takeLast_14 : decode cX2_takeLast 14 = .ok (.iconst 1, 1) := by decide +kernel
theorem dX2_takeLast_15 : decode cX2_takeLast 15 = .ok (.isub, 1) := by decide +kernel
theorem dX2_takeLast_16 : decode cX2_takeLast 16 = .ok (.putfield 15, 3) := by decide +kernel
theorem dX2_takeLast_19 : decode cX2_takeLast 19 = .ok (.aload_n 0, 1) := by decide +kernel
theorem dX2_takeLast_20 : decode cX2_takeLast 20 = .ok (.getfield 9, 3) := by decide +kernel
theorem dX2_takeLast_23 : decode cX2_takeLast 23 = .ok (.aload_n 0, 1) := by decide +kernel
theorem dX2_takeLast_24 : decode cX2_takeLast 24 = .ok (.getfield 15, 3) := by decide +kernel
theorem dX2_takeLast_27 : decode cX2_takeLast 27 = .ok (.iaload, 1) := by decide +kernel
theorem dX2_takeLast_28 : decode cX2_takeLast 28 = .ok (.ireturn, 1) := by decide +kernel
set_option maxRecDepth 20000 in
theorem ggX2_measure_X1_minutesBetween : GoodIn wsX2_measure wsX1_minutesBetween := goodIn_r _ [7, 8, 9, 10, 11, 5, 12, 13, 14, 15, 20, 21] (by decide +kernel) (by decide +kernel)
set_option maxRecDepth 20000 in
theorem gX2_measure_X1_minutesBetween_n23 : GoodIn wsX2_measure (wsX1_minutesBetween) := ggX2_measure_X1_minutesBetween
theorem dX2_measure_0 : decode cX2_measure 0 = .ok (.bipush 50, 2) := by decide +kernel
theorem dX2_measure_2 : decode cX2_measure 2 = .ok (.aload_n 0, 1) := by decide +kernel
theorem dX2_measure_3 : decode cX2_measure 3 = .ok (.getfield 15, 3) := by decide +kernel
theorem dX2_measure_6 : decode cX2_measure 6 = .ok (.imul, 1) := by decide +kernel
theorem dX2_measure_7 : decode cX2_measure 7 = .ok (.istore_n 2, 1) := by decide +kernel
theorem dX2_measure_8 : decode cX2_measure 8 = .ok (.iconst 1, 1) := by decide +kernel
theorem dX2_measure_9 : decode cX2_measure 9 = .ok (.istore_n 3, 1) := by decide +kernel
theorem dX2_measure_10 : decode cX2_measure 10 = .ok (.iload_n 3, 1) := by decide +kernel
theorem dX2_measure_11 : decode cX2_measure 11 = .ok (.aload_n 0, 1) := by decide +kernel
theorem dX2_measure_12 : decode cX2_measure 12 = .ok (.getfield 15, 3) := by decide +kernel
theorem dX2_measure_15 : decode cX2_measure 15 = .ok (.if_icmp .ge 45, 3) := by decide +kernel
theorem dX2_measure_18 : decode cX2_measure 18 = .ok (.aload_n 1, 1) := by decide +kernel
theorem dX2_measure_19 : decode cX2_measure 19 = .ok (.aload_n 0, 1) := by decide +kernel
theorem dX2_measure_20 : decode cX2_measure 20 = .ok (.getfield 9, 3) := by decide +kernel
theorem dX2_measure_23 : decode cX2_measure 23 = .ok (.iload_n 3, 1) := by decide +kernel
theorem dX2_measure_24 : decode cX2_measure 24 = .ok (.iconst 1, 1) := by decide +kernel
theorem dX2_measure_25 : decode cX2_measure 25 = .ok (.isub, 1) := by decide +kernel
theorem dX2_measure_26 : decode cX2_measure 26 = .ok (.iaload, 1) := by decide +kernel
theorem dX2_measure_27 : decode cX2_measure 27 = .ok (.aload_n 0, 1) := by decide +kernel
theorem dX2_measure_28 : decode cX2_measure 28 = .ok (.getfield 9, 3) := by decide +kernel
theorem dX2_measure_31 : decode cX2_measure 31 = .ok (.iload_n 3, 1) := by decide +kernel
theorem dX2_measure_32 : decode cX2_measure 32 = .ok (.iaload, 1) := by decide +kernel
theorem dX2_measure_33 : decode cX2_measure 33 = .ok (.invokevirtual 23, 3) := by decide +kernel
theorem dX2_measure_36 : decode cX2_measure 36 = .ok (.istore 4, 2) := by decide +kernel
theorem dX2_measure_38 : decode cX2_measure 38 = .ok (.iload 4, 2) := by decide +kernel
theorem dX2_measure_40 : decode cX2_measure 40 = .ok (.ifCond .ge 9, 3) := by decide +kernel
theorem dX2_measure_43 : decode cX2_measure 43 = .ok (.aload_n 0, 1) := by decide +kernel
theorem dX2_measure_44 : decode cX2_measure 44 = .ok (.iconst (-1), 1) := by decide +kernel
theorem dX2_measure_45 : decode cX2_measure 45 = .ok (.putfield 29, 3) := by decide +kernel
theorem dX2_measure_48 : decode cX2_measure 48 = .ok (.return_, 1) := by decide +kernel
theorem dX2_measure_49 : decode cX2_measure 49 = .ok (.iload_n 2, 1) := by decide +kernel
theorem dX2_measure_50 : decode cX2_measure 50 = .ok (.iload 4, 2) := by decide +kernel
theorem dX2_measure_52 : decode cX2_measure 52 = .ok (.iadd, 1) := by decide +kernel
theorem dX2_measure_53 : decode cX2_measure 53 = .ok (.istore_n 2, 1) := by decide +kernel
theorem dX2_measure_54 : decode cX2_measure 54 = .ok (.iinc 3 1, 3) := by decide +kernel
theorem dX2_measure_57 : decode cX2_measure 57 = .ok (.goto (-47), 3) := by decide +kernel
theorem dX2_measure_60 : decode cX2_measure 60 = .ok (.aload_n 0, 1) := by decide +kernel
theorem dX2_measure_61 : decode cX2_measure 61 = .ok (.iload_n 2, 1) := by decide +kernel
theorem dX2_measure_62 : decode cX2_measure 62 = .ok (.putfield 29, 3) := by decide +kernel
theorem dX2_measure_65 : decode cX2_measure 65 = .ok (.return_, 1) := by decide +kernel
set_option maxRecDepth 20000 in
theorem ggX2_canGo_X4_isWithin : GoodIn wsX2_canGo wsX4_isWithin := goodIn_r _ [5] (by decide +kernel) (by decide +kernel)
set_option maxRecDepth 20000 in
theorem gX2_canGo_X4_isWithin_n32 : GoodIn wsX2_canGo (wsX4_isWithin) := ggX2_canGo_X4_isWithin
theorem dX2_canGo_0 : decode cX2_canGo 0 = .ok (.aload_n 0, 1) := by decide +kernel
theorem dX2_canGo_1 : decode cX2_canGo 1 = .ok (.getfield 15, 3) := by decide +kernel
theorem dX2_canGo_4 : decode cX2_canGo 4 = .ok (.ifCond .le 21, 3) := by decide +kernel
theorem dX2_canGo_7 : decode cX2_canGo 7 = .ok (.aload_n 0, 1) := by decide +kernel
theorem dX2_canGo_8 : decode cX2_canGo 8 = .ok (.getfield 29, 3) := by decide +kernel
theorem dX2_canGo_11 : decode cX2_canGo 11 = .ok (.iconst 0, 1) := by decide +kernel
theorem dX2_canGo_12 : decode cX2_canGo 12 = .ok (.sipush 480, 3) := by decide +kernel
theorem dX2_canGo_15 : decode cX2_canGo 15 = .ok (.invokestatic 32, 3) := by decide +kernel
theorem dX2_canGo_18 : decode cX2_canGo 18 = .ok (.ifCond .eq 7, 3) := by decide +kernel
theorem dX2_canGo_21 : decode cX2_canGo 21 = .ok (.iconst 1, 1) := by decide +kernel
theorem dX2_canGo_22 : decode cX2_canGo 22 = .ok (.goto 4, 3) := by decide +kernel
theorem dX2_canGo_25 : decode cX2_canGo 25 = .ok (.iconst 0, 1) := by decide +kernel
theorem dX2_canGo_26 : decode cX2_canGo 26 = .ok (.ireturn, 1) := by decide +kernel
theorem dX3_init_0 : decode cX3_init 0 = .ok (.aload_n 0, 1) := by decide +kernel
theorem dX3_init_1 : decode cX3_init 1 = .ok (.invokespecial 1, 3) := by decide +kernel
theorem dX3_init_4 : decode cX3_init 4 = .ok (.return_, 1) := by decide +kernel
theorem dX3_bloomOn_0 : decode cX3_bloomOn 0 = .ok (.aload_n 0, 1) := by decide +kernel
theorem dX3_bloomOn_1 : decode cX3_bloomOn 1 = .ok (.getfield 7, 3) := by decide +kernel
theorem dX3_bloomOn_4 : decode cX3_bloomOn 4 = .ok (.aload_n 0, 1) := by decide +kernel
theorem dX3_bloomOn_5 : decode cX3_bloomOn 5 = .ok (.getfield 13, 3) := by decide +kernel
theorem dX3_bloomOn_8 : decode cX3_bloomOn 8 = .ok (.iadd, 1) := by decide +kernel
theorem dX3_bloomOn_9 : decode cX3_bloomOn 9 = .ok (.iconst 1, 1) := by decide +kernel
theorem dX3_bloomOn_10 : decode cX3_bloomOn 10 = .ok (.isub, 1) := by decide +kernel
theorem dX3_bloomOn_11 : decode cX3_bloomOn 11 = .ok (.istore_n 2, 1) := by decide +kernel
theorem dX3_bloomOn_12 : decode cX3_bloomOn 12 = .ok (.aload_n 0, 1) := by decide +kernel
theorem dX3_bloomOn_13 : decode cX3_bloomOn 13 = .ok (.getfield 13, 3) := by decide +kernel
theorem dX3_bloomOn_16 : decode cX3_bloomOn 16 = .ok (.iconst 1, 1) := by decide +kernel
theorem dX3_bloomOn_17 : decode cX3_bloomOn 17 = .ok (.iadd, 1) := by decide +kernel
theorem dX3_bloomOn_18 : decode cX3_bloomOn 18 = .ok (.iconst 2, 1) := by decide +kernel
theorem dX3_bloomOn_19 : decode cX3_bloomOn 19 = .ok (.idiv, 1) := by decide +kernel
theorem dX3_bloomOn_20 : decode cX3_bloomOn 20 = .ok (.istore_n 3, 1) := by decide +kernel
theorem dX3_bloomOn_21 : decode cX3_bloomOn 21 = .ok (.iload_n 1, 1) := by decide +kernel
theorem dX3_bloomOn_22 : decode cX3_bloomOn 22 = .ok (.aload_n 0, 1) := by decide +kernel
theorem dX3_bloomOn_23 : decode cX3_bloomOn 23 = .ok (.getfield 7, 3) := by decide +kernel
theorem dX3_bloomOn_26 : decode cX3_bloomOn 26 = .ok (.if_icmp .lt 12, 3) := by decide +kernel
theorem dX3_bloomOn_29 : decode cX3_bloomOn 29 = .ok (.iload_n 1, 1) := by decide +kernel
theorem dX3_bloomOn_30 : decode cX3_bloomOn 30 = .ok (.iload_n 2, 1) := by decide +kernel
theorem dX3_bloomOn_31 : decode cX3_bloomOn 31 = .ok (.if_icmp .gt 7, 3) := by decide +kernel
theorem dX3_bloomOn_34 : decode cX3_bloomOn 34 = .ok (.iload_n 3, 1) := by decide +kernel
theorem dX3_bloomOn_35 : decode cX3_bloomOn 35 = .ok (.ifCond .gt 5, 3) := by decide +kernel
theorem dX3_bloomOn_38 : decode cX3_bloomOn 38 = .ok (.iconst 0, 1) := by decide +kernel
theorem dX3_bloomOn_39 : decode cX3_bloomOn 39 = .ok (.ireturn, 1) := by decide +kernel
theorem dX3_bloomOn_40 : decode cX3_bloomOn 40 = .ok (.iload_n 1, 1) := by decide +kernel
theorem dX3_bloomOn_41 : decode cX3_bloomOn 41 = .ok (.aload_n 0, 1) := by decide +kernel
theorem dX3_bloomOn_42 : decode cX3_bloomOn 42 = .ok (.getfield 7, 3) := by decide +kernel
theorem dX3_bloomOn_45 : decode cX3_bloomOn 45 = .ok (.isub, 1) := by decide +kernel
theorem dX3_bloomOn_46 : decode cX3_bloomOn 46 = .ok (.iconst 1, 1) := by decide +kernel
theorem dX3_bloomOn_47 : decode cX3_bloomOn 47 = .ok (.iadd, 1) := by decide +kernel
theorem dX3_bloomOn_48 : decode cX3_bloomOn 48 = .ok (.iload_n 2, 1) := by decide +kernel
theorem dX3_bloomOn_49 : decode cX3_bloomOn 49 = .ok (.iload_n 1, 1) := by decide +kernel
theorem dX3_bloomOn_50 : decode cX3_bloomOn 50 = .ok (.isub, 1) := by decide +kernel
theorem dX3_bloomOn_51 : decode cX3_bloomOn 51 = .ok (.iconst 1, 1) := by decide +kernel
theorem dX3_bloomOn_52 : decode cX3_bloomOn 52 = .ok (.iadd, 1) := by decide +kernel
theorem dX3_bloomOn_53 : decode cX3_bloomOn 53 = .ok (.invokestatic 16, 3) := by decide +kernel
theorem dX3_bloomOn_56 : decode cX3_bloomOn 56 = .ok (.istore 4, 2) := by decide +kernel
theorem dX3_bloomOn_58 : decode cX3_bloomOn 58 = .ok (.bipush 100, 2) := by decide +kernel
theorem dX3_bloomOn_60 : decode cX3_bloomOn 60 = .ok (.iload 4, 2) := by decide +kernel
theorem dX3_bloomOn_62 : decode cX3_bloomOn 62 = .ok (.imul, 1) := by decide +kernel
theorem dX3_bloomOn_63 : decode cX3_bloomOn 63 = .ok (.iload_n 3, 1) := by decide +kernel
theorem dX3_bloomOn_64 : decode cX3_bloomOn 64 = .ok (.idiv, 1) := by decide +kernel
theorem dX3_bloomOn_65 : decode cX3_bloomOn 65 = .ok (.ireturn, 1) := by decide +kernel
set_option maxRecDepth 20000 in
theorem ggX4_init_X1_init : GoodIn wsX4_init wsX1_init := goodIn_r _ [24, 25, 2, 3, 26, 8, 27, 28, 48, 49] (by decide +kernel) (by decide +kernel)
set_option maxRecDepth 20000 in
theorem gX4_init_X1_init_n27 : GoodIn wsX4_init (wsX1_init) := ggX4_init_X1_init
set_option maxRecDepth 20000 in
theorem ggX4_init_X0_init : GoodIn wsX4_init wsX0_init := goodIn_r _ [30, 31, 2, 3] (by decide +kernel) (by decide +kernel)
set_option maxRecDepth 20000 in
theorem gX4_init_X0_init_n34 : GoodIn wsX4_init (wsX0_init) := ggX4_init_X0_init
set_option maxRecDepth 20000 in
theorem ggX4_init_X3_init : GoodIn wsX4_init wsX3_init := goodIn_r _ [33, 34, 2, 3] (by decide +kernel) (by decide +kernel)
set_option maxRecDepth 20000 in
theorem gX4_init_X3_init_n42 : GoodIn wsX4_init (wsX3_init) := ggX4_init_X3_init
set_option maxRecDepth 20000 in
theorem ggX4_init_X2_init : GoodIn wsX4_init wsX2_init := goodIn_r _ [36, 37, 2, 3, 8, 38, 58, 59, 60, 61] (by decide +kernel) (by decide +kernel)
set_option maxRecDepth 20000 in
theorem gX4_init_X2_init_n43 : GoodIn wsX4_init (wsX2_init) := ggX4_init_X2_init
theorem dX4_init_0 : decode cX4_init 0 = .ok (.aload_n 0, 1) := by decide +kernel
theorem dX4_init_1 : decode cX4_init 1 = .ok (.invokespecial 1, 3) := by decide +kernel
theorem dX4_init_4 : decode cX4_init 4 = .ok (.aload_n 0, 1) := by decide +kernel
theorem dX4_init_5 : decode cX4_init 5 = .ok (.bipush 8, 2) := by decide +kernel
theorem dX4_init_7 : decode cX4_init 7 = .ok (.anewarray 9, 3) := by decide +kernel
theorem dX4_init_10 : decode cX4_init 10 = .ok (.putfield 11, 3) := by decide +kernel
theorem dX4_init_13 : decode cX4_init 13 = .ok (.aload_n 0, 1) := by decide +kernel
theorem dX4_init_14 : decode cX4_init 14 = .ok (.bipush 6, 2) := by decide +kernel
theorem dX4_init_16 : decode cX4_init 16 = .ok (.anewarray 15, 3) := by decide +kernel
theorem dX4_init_19 : decode cX4_init 19 = .ok (.putfield 17, 3) := by decide +kernel
theorem dX4_init_22 : decode cX4_init 22 = .ok (.aload_n 0, 1) := by decide +kernel
theorem dX4_init_23 : decode cX4_init 23 = .ok (.bipush 10, 2) := by decide +kernel
theorem dX4_init_25 : decode cX4_init 25 = .ok (.newarray .int, 2) := by decide +kernel
theorem dX4_init_27 : decode cX4_init 27 = .ok (.putfield 21, 3) := by decide +kernel
theorem dX4_init_30 : decode cX4_init 30 = .ok (.aload_n 0, 1) := by decide +kernel
theorem dX4_init_31 : decode cX4_init 31 = .ok (.new 25, 3) := by decide +kernel
theorem dX4_init_34 : decode cX4_init 34 = .ok (.dup, 1) := by decide +kernel
theorem dX4_init_35 : decode cX4_init 35 = .ok (.invokespecial 27, 3) := by decide +kernel
theorem dX4_init_38 : decode cX4_init 38 = .ok (.putfield 28, 3) := by decide +kernel
theorem dX4_init_41 : decode cX4_init 41 = .ok (.aload_n 0, 1) := by decide +kernel
theorem dX4_init_42 : decode cX4_init 42 = .ok (.new 32, 3) := by decide +kernel
theorem dX4_init_45 : decode cX4_init 45 = .ok (.dup, 1) := by decide +kernel
theorem dX4_init_46 : decode cX4_init 46 = .ok (.invokespecial 34, 3) := by decide +kernel
theorem dX4_init_49 : decode cX4_init 49 = .ok (.putfield 35, 3) := by decide +kernel
theorem dX4_init_52 : decode cX4_init 52 = .ok (.aload_n 0, 1) := by decide +kernel
theorem dX4_init_53 : decode cX4_init 53 = .ok (.new 32, 3) := by decide +kernel
theorem dX4_init_56 : decode cX4_init 56 = .ok (.dup, 1) := by decide +kernel
theorem dX4_init_57 : decode cX4_init 57 = .ok (.invokespecial 34, 3) := by decide +kernel
theorem dX4_init_60 : decode cX4_init 60 = .ok (.putfield 39, 3) := by decide +kernel
theorem dX4_init_63 : decode cX4_init 63 = .ok (.iconst 0, 1) := by decide +kernel
theorem dX4_init_64 : decode cX4_init 64 = .ok (.istore_n 1, 1) := by decide +kernel
theorem dX4_init_65 : decode cX4_init 65 = .ok (.iload_n 1, 1) := by decide +kernel
theorem dX4_init_66 : decode cX4_init 66 = .ok (.aload_n 0, 1) := by decide +kernel
theorem dX4_init_67 : decode cX4_init 67 = .ok (.getfield 11, 3) := by decide +kernel
theorem dX4_init_70 : decode cX4_init 70 = .ok (.arraylength, 1) := by decide +kernel
theorem dX4_init_71 : decode cX4_init 71 = .ok (.if_icmp .ge 22, 3) := by decide +kernel
theorem dX4_init_74 : decode cX4_init 74 = .ok (.aload_n 0, 1) := by decide +kernel
theorem dX4_init_75 : decode cX4_init 75 = .ok (.getfield 11, 3) := by decide +kernel
theorem dX4_init_78 : decode cX4_init 78 = .ok (.iload_n 1, 1) := by decide +kernel
theorem dX4_init_79 : decode cX4_init 79 = .ok (.new 9, 3) := by decide +kernel
theorem dX4_init_82 : decode cX4_init 82 = .ok (.dup, 1) := by decide +kernel
theorem dX4_init_83 : decode cX4_init 83 = .ok (.invokespecial 42, 3) := by decide +kernel
theorem dX4_init_86 : decode cX4_init 86 = .ok (.aastore, 1) := by decide +kernel
theorem dX4_init_87 : decode cX4_init 87 = .ok (.iinc 1 1, 3) := by decide +kernel
theorem dX4_init_90 : decode cX4_init 90 = .ok (.goto (-25), 3) := by decide +kernel
theorem dX4_init_93 : decode cX4_init 93 = .ok (.iconst 0, 1) := by decide +kernel
theorem dX4_init_94 : decode cX4_init 94 = .ok (.istore_n 1, 1) := by decide +kernel
theorem dX4_init_95 : decode cX4_init 95 = .ok (.iload_n 1, 1) := by decide +kernel
theorem dX4_init_96 : decode cX4_init 96 = .ok (.aload_n 0, 1) := by decide +kernel
theorem dX4_init_97 : decode cX4_init 97 = .ok (.getfield 17, 3) := by decide +kernel
theorem dX4_init_100 : decode cX4_init 100 = .ok (.arraylength, 1) := by decide +kernel
theorem dX4_init_101 : decode cX4_init 101 = .ok (.if_icmp .ge 22, 3) := by decide +kernel
theorem dX4_init_104 : decode cX4_init 104 = .ok (.aload_n 0, 1) := by decide +kernel
theorem dX4_init_105 : decode cX4_init 105 = .ok (.getfield 17, 3) := by decide +kernel
theorem dX4_init_108 : decode cX4_init 108 = .ok (.iload_n 1, 1) := by decide +kernel
theorem dX4_init_109 : decode cX4_init 109 = .ok (.new 15, 3) := by decide +kernel
theorem dX4_init_112 : decode cX4_init 112 = .ok (.dup, 1) := by decide +kernel
theorem dX4_init_113 : decode cX4_init 113 = .ok (.invokespecial 43, 3) := by decide +kernel
theorem dX4_init_116 : decode cX4_init 116 = .ok (.aastore, 1) := by decide +kernel
theorem dX4_init_117 : decode cX4_init 117 = .ok (.iinc 1 1, 3) := by decide +kernel
theorem dX4_init_120 : decode cX4_init 120 = .ok (.goto (-25), 3) := by decide +kernel
theorem dX4_init_123 : decode cX4_init 123 = .ok (.iconst 0, 1) := by decide +kernel
theorem dX4_init_124 : decode cX4_init 124 = .ok (.istore_n 1, 1) := by decide +kernel
theorem dX4_init_125 : decode cX4_init 125 = .ok (.iload_n 1, 1) := by decide +kernel
theorem dX4_init_126 : decode cX4_init 126 = .ok (.aload_n 0, 1) := by decide +kernel
theorem dX4_init_127 : decode cX4_init 127 = .ok (.getfield 21, 3) := by decide +kernel
theorem dX4_init_130 : decode cX4_init 130 = .ok (.arraylength, 1) := by decide +kernel
theorem dX4_init_131 : decode cX4_init 131 = .ok (.if_icmp .ge 17, 3) := by decide +kernel
theorem dX4_init_134 : decode cX4_init 134 = .ok (.aload_n 0, 1) := by decide +kernel
theorem dX4_init_135 : decode cX4_init 135 = .ok (.getfield 21, 3) := by decide +kernel
theorem dX4_init_138 : decode cX4_init 138 = .ok (.iload_n 1, 1) := by decide +kernel
theorem dX4_init_139 : decode cX4_init 139 = .ok (.bipush 20, 2) := by decide +kernel
theorem dX4_init_141 : decode cX4_init 141 = .ok (.iastore, 1) := by decide +kernel
theorem dX4_init_142 : decode cX4_init 142 = .ok (.iinc 1 1, 3) := by decide +kernel
theorem dX4_init_145 : decode cX4_init 145 = .ok (.goto (-20), 3) := by decide +kernel
theorem dX4_init_148 : decode cX4_init 148 = .ok (.return_, 1) := by decide +kernel
set_option maxRecDepth 20000 in
theorem ggX4_valley_X4_isWithin : GoodIn wsX4_valley wsX4_isWithin := goodIn_r _ [10] (by decide +kernel) (by decide +kernel)
set_option maxRecDepth 20000 in
theorem gX4_valley_X4_isWithin : GoodIn wsX4_valley (va_wsS RX4 44 yX4_isWithin wsX4_isWithin) := goodIn_app (goodIn_of _ (by decide +kernel)) ggX4_valley_X4_isWithin
theorem dX4_valley_0 : decode cX4_valley 0 = .ok (.iload_n 1, 1) := by decide +kernel
theorem dX4_valley_1 : decode cX4_valley 1 = .ok (.iconst 0, 1) := by decide +kernel
theorem dX4_valley_2 : decode cX4_valley 2 = .ok (.bipush 90, 2) := by decide +kernel
theorem dX4_valley_4 : decode cX4_valley 4 = .ok (.invokestatic 44, 3) := by decide +kernel
theorem dX4_valley_7 : decode cX4_valley 7 = .ok (.ifCond .ne 13, 3) := by decide +kernel
theorem dX4_valley_10 : decode cX4_valley 10 = .ok (.new 48, 3) := by decide +kernel
theorem dX4_valley_13 : decode cX4_valley 13 = .ok (.dup, 1) := by decide +kernel
theorem dX4_valley_14 : decode cX4_valley 14 = .ok (.ldc 50, 2) := by decide +kernel
theorem dX4_valley_16 : decode cX4_valley 16 = .ok (.invokespecial 52, 3) := by decide +kernel
theorem dX4_valley_19 : decode cX4_valley 19 = .ok (.athrow, 1) := by decide +kernel
theorem dX4_valley_20 : decode cX4_valley 20 = .ok (.iload_n 2, 1) := by decide +kernel
theorem dX4_valley_21 : decode cX4_valley 21 = .ok (.iconst 1, 1) := by decide +kernel
theorem dX4_valley_22 : decode cX4_valley 22 = .ok (.bipush 30, 2) := by decide +kernel
theorem dX4_valley_24 : decode cX4_valley 24 = .ok (.invokestatic 44, 3) := by decide +kernel
theorem dX4_valley_27 : decode cX4_valley 27 = .ok (.ifCond .ne 13, 3) := by decide +kernel
theorem dX4_valley_30 : decode cX4_valley 30 = .ok (.new 48, 3) := by decide +kernel
theorem dX4_valley_33 : decode cX4_valley 33 = .ok (.dup, 1) := by decide +kernel
theorem dX4_valley_34 : decode cX4_valley 34 = .ok (.ldc 55, 2) := by decide +kernel
theorem dX4_valley_36 : decode cX4_valley 36 = .ok (.invokespecial 52, 3) := by decide +kernel
theorem dX4_valley_39 : decode cX4_valley 39 = .ok (.athrow, 1) := by decide +kernel
theorem dX4_valley_40 : decode cX4_valley 40 = .ok (.iload_n 3, 1) := by decide +kernel
theorem dX4_valley_41 : decode cX4_valley 41 = .ok (.iconst 0, 1) := by decide +kernel
theorem dX4_valley_42 : decode cX4_valley 42 = .ok (.bipush 50, 2) := by decide +kernel
theorem dX4_valley_44 : decode cX4_valley 44 = .ok (.invokestatic 44, 3) := by decide +kernel
theorem dX4_valley_47 : decode cX4_valley 47 = .ok (.ifCond .ne 13, 3) := by decide +kernel
theorem dX4_valley_50 : decode cX4_valley 50 = .ok (.new 48, 3) := by decide +kernel
theorem dX4_valley_53 : decode cX4_valley 53 = .ok (.dup, 1) := by decide +kernel
theorem dX4_valley_54 : decode cX4_valley 54 = .ok (.ldc 57, 2) := by decide +kernel
theorem dX4_valley_56 : decode cX4_valley 56 = .ok (.invokespecial 52, 3) := by decide +kernel
theorem dX4_valley_59 : decode cX4_valley 59 = .ok (.athrow, 1) := by decide +kernel
theorem dX4_valley_60 : decode cX4_valley 60 = .ok (.aload_n 0, 1) := by decide +kernel
theorem dX4_valley_61 : decode cX4_valley 61 = .ok (.getfield 59, 3) := by decide +kernel
theorem dX4_valley_64 : decode cX4_valley 64 = .ok (.aload_n 0, 1) := by decide +kernel
theorem dX4_valley_65 : decode cX4_valley 65 = .ok (.getfield 11, 3) := by decide +kernel
theorem dX4_valley_68 : decode cX4_valley 68 = .ok (.arraylength, 1) := by decide +kernel
theorem dX4_valley_69 : decode cX4_valley 69 = .ok (.if_icmp .lt 13, 3) := by decide +kernel
theorem dX4_valley_72 : decode cX4_valley 72 = .ok (.new 63, 3) := by decide +kernel
theorem dX4_valley_75 : decode cX4_valley 75 = .ok (.dup, 1) := by decide +kernel
theorem dX4_valley_76 : decode cX4_valley 76 = .ok (.ldc 65, 2) := by decide +kernel
theorem dX4_valley_78 : decode cX4_valley 78 = .ok (.invokespecial 67, 3) := by decide +kernel
theorem dX4_valley_81 : decode cX4_valley 81 = .ok (.athrow, 1) := by decide +kernel
theorem dX4_valley_82 : decode cX4_valley 82 = .ok (.aload_n 0, 1) := by decide +kernel
theorem dX4_valley_83 : decode cX4_valley 83 = .ok (.getfield 11, 3) := by decide +kernel
theorem dX4_valley_86 : decode cX4_valley 86 = .ok (.aload_n 0, 1) := by decide +kernel
theorem dX4_valley_87 : decode cX4_valley 87 = .ok (.getfield 59, 3) := by decide +kernel
theorem dX4_valley_90 : decode cX4_valley 90 = .ok (.aaload, 1) := by decide +kernel
theorem dX4_valley_91 : decode cX4_valley 91 = .ok (.astore 4, 2) := by decide +kernel
theorem dX4_valley_93 : decode cX4_valley 93 = .ok (.aload 4, 2) := by decide +kernel
theorem dX4_valley_95 : decode cX4_valley 95 = .ok (.iload_n 1, 1) := by decide +kernel
theorem dX4_valley_96 : decode cX4_valley 96 = .ok (.putfield 68, 3) := by decide +kernel
theorem dX4_valley_99 : decode cX4_valley 99 = .ok (.aload 4, 2) := by decide +kernel
theorem dX4_valley_101 : decode cX4_valley 101 = .ok (.iload_n 2, 1) := by decide +kernel
theorem dX4_valley_102 : decode cX4_valley 102 = .ok (.putfield 71, 3) := by decide +kernel
theorem dX4_valley_105 : decode cX4_valley 105 = .ok (.aload 4, 2) := by decide +kernel
theorem dX4_valley_107 : decode cX4_valley 107 = .ok (.iload_n 3, 1) := by decide +kernel
theorem dX4_valley_108 : decode cX4_valley 108 = .ok (.putfield 74, 3) := by decide +kernel
theorem dX4_valley_111 : decode cX4_valley 111 = .ok (.aload_n 0, 1) := by decide +kernel
theorem dX4_valley_112 : decode cX4_valley 112 = .ok (.dup, 1) := by decide +kernel
theorem dX4_valley_113 : decode cX4_valley 113 = .ok (.getfield 59, 3) := by decide +kernel
theorem dX4_valley_116 : decode cX4_valley 116 = .ok (.iconst 1, 1) := by decide +kernel
theorem dX4_valley_117 : decode cX4_valley 117 = .ok (.iadd, 1) := by decide +kernel
theorem dX4_valley_118 : decode cX4_valley 118 = .ok (.putfield 59, 3) := by decide +kernel
theorem dX4_valley_121 : decode cX4_valley 121 = .ok (.aload_n 0, 1) := by decide +kernel
theorem dX4_valley_122 : decode cX4_valley 122 = .ok (.getfield 59, 3) := by decide +kernel
theorem dX4_valley_125 : decode cX4_valley 125 = .ok (.iconst 1, 1) := by decide +kernel
theorem dX4_valley_126 : decode cX4_valley 126 = .ok (.isub, 1) := by decide +kernel
theorem dX4_valley_127 : decode cX4_valley 127 = .ok (.ireturn, 1) := by decide +kernel
set_option maxRecDepth 20000 in
theorem ggX4_road_X4_checkValley : GoodIn wsX4_road wsX4_checkValley := goodIn_ca (goodIn_r _ [10, 11, 12, 13, 58, 59, 60, 61, 62, 63, 64, 65, 66] (by decide +kernel) (by decide +kernel)) (goodIn_sub (fun _ h => List.mem_cons_of_mem _ (List.mem_append_right _ h)) (by decide +kernel))
set_option maxRecDepth 20000 in
theorem gX4_road_X4_checkValley : GoodIn wsX4_road (wsV RX4 77 RX4 yX4_checkValley wsX4_checkValley) := goodIn_app (goodIn_of _ (by decide +kernel)) ggX4_road_X4_checkValley
set_option maxRecDepth 20000 in
theorem ggX4_road_X4_isWithin : GoodIn wsX4_road wsX4_isWithin := goodIn_r _ [16] (by decide +kernel) (by decide +kernel)
set_option maxRecDepth 20000 in
theorem gX4_road_X4_isWithin : GoodIn wsX4_road (va_wsS RX4 44 yX4_isWithin wsX4_isWithin) := goodIn_app (goodIn_of _ (by decide +kernel)) ggX4_road_X4_isWithin
set_option maxRecDepth 20000 in
theorem ggX4_road_X1_lay : GoodIn wsX4_road wsX1_lay := goodIn_r _ [20, 21, 22, 23, 24, 25, 26, 27, 28, 18, 29, 15, 9, 16, 67, 68] (by decide +kernel) (by decide +kernel)
set_option maxRecDepth 20000 in
theorem gX4_road_X1_lay_n90 : GoodIn wsX4_road (wsX1_lay) := ggX4_road_X1_lay
set_option maxRecDepth 20000 in
theorem ggX4_road_X4_reckonCrowds : GoodIn wsX4_road wsX4_reckonCrowds := goodIn_r _ [33, 13, 34, 35, 36, 5, 37, 38, 39, 40, 41, 42, 43, 44, 18, 45, 46, 21, 47, 27, 28, 29, 15, 9, 16, 48, 49, 50, 51, 52, 53, 54, 55, 56, 57, 58, 59, 60, 61, 62, 63, 64, 65, 66, 69, 70, 71, 72, 73, 74, 75, 76, 77, 67, 68] (by decide +kernel) (by decide +kernel)
set_option maxRecDepth 20000 in
theorem gX4_road_X4_reckonCrowds : GoodIn wsX4_road (wsV RX4 94 RX4 yX4_reckonCrowds wsX4_reckonCrowds) := goodIn_app (goodIn_of _ (by decide +kernel)) ggX4_road_X4_reckonCrowds
theorem dX4_road_0 : decode cX4_road 0 = .ok (.aload_n 0, 1) := by decide +kernel
theorem dX4_road_1 : decode cX4_road 1 = .ok (.iload_n 1, 1) := by decide +kernel
theorem dX4_road_2 : decode cX4_road 2 = .ok (.invokevirtual 77, 3) := by decide +kernel
theorem dX4_road_5 : decode cX4_road 5 = .ok (.aload_n 0, 1) := by decide +kernel
theorem dX4_road_6 : decode cX4_road 6 = .ok (.iload_n 2, 1) := by decide +kernel
theorem dX4_road_7 : decode cX4_road 7 = .ok (.invokevirtual 77, 3) := by decide +kernel
theorem dX4_road_10 : decode cX4_road 10 = .ok (.iload_n 1, 1) := by decide +kernel
theorem dX4_road_11 : decode cX4_road 11 = .ok (.iload_n 2, 1) := by decide +kernel
theorem dX4_road_12 : decode cX4_road 12 = .ok (.if_icmp .ne 13, 3) := by decide +kernel
theorem dX4_road_15 : decode cX4_road 15 = .ok (.new 48, 3) := by decide +kernel
theorem dX4_road_18 : decode cX4_road 18 = .ok (.dup, 1) := by decide +kernel
theorem dX4_road_19 : decode cX4_road 19 = .ok (.ldc 81, 2) := by decide +kernel
theorem dX4_road_21 : decode cX4_road 21 = .ok (.invokespecial 52, 3) := by decide +kernel
theorem dX4_road_24 : decode cX4_road 24 = .ok (.athrow, 1) := by decide +kernel
theorem dX4_road_25 : decode cX4_road 25 = .ok (.iload_n 3, 1) := by decide +kernel
theorem dX4_road_26 : decode cX4_road 26 = .ok (.iconst 1, 1) := by decide +kernel
theorem dX4_road_27 : decode cX4_road 27 = .ok (.sipush 240, 3) := by decide +kernel
theorem dX4_road_30 : decode cX4_road 30 = .ok (.invokestatic 44, 3) := by decide +kernel
theorem dX4_road_33 : decode cX4_road 33 = .ok (.ifCond .ne 13, 3) := by decide +kernel
theorem dX4_road_36 : decode cX4_road 36 = .ok (.new 48, 3) := by decide +kernel
theorem dX4_road_39 : decode cX4_road 39 = .ok (.dup, 1) := by decide +kernel
theorem dX4_road_40 : decode cX4_road 40 = .ok (.ldc 83, 2) := by decide +kernel
theorem dX4_road_42 : decode cX4_road 42 = .ok (.invokespecial 52, 3) := by decide +kernel
theorem dX4_road_45 : decode cX4_road 45 = .ok (.athrow, 1) := by decide +kernel
theorem dX4_road_46 : decode cX4_road 46 = .ok (.aload_n 0, 1) := by decide +kernel
theorem dX4_road_47 : decode cX4_road 47 = .ok (.getfield 28, 3) := by decide +kernel
theorem dX4_road_50 : decode cX4_road 50 = .ok (.getfield 85, 3) := by decide +kernel
theorem dX4_road_53 : decode cX4_road 53 = .ok (.bipush 20, 2) := by decide +kernel
theorem dX4_road_55 : decode cX4_road 55 = .ok (.if_icmp .lt 13, 3) := by decide +kernel
theorem dX4_road_58 : decode cX4_road 58 = .ok (.new 63, 3) := by decide +kernel
theorem dX4_road_61 : decode cX4_road 61 = .ok (.dup, 1) := by decide +kernel
theorem dX4_road_62 : decode cX4_road 62 = .ok (.ldc 88, 2) := by decide +kernel
theorem dX4_road_64 : decode cX4_road 64 = .ok (.invokespecial 67, 3) := by decide +kernel
theorem dX4_road_67 : decode cX4_road 67 = .ok (.athrow, 1) := by decide +kernel
theorem dX4_road_68 : decode cX4_road 68 = .ok (.aload_n 0, 1) := by decide +kernel
theorem dX4_road_69 : decode cX4_road 69 = .ok (.getfield 28, 3) := by decide +kernel
theorem dX4_road_72 : decode cX4_road 72 = .ok (.iload_n 1, 1) := by decide +kernel
theorem dX4_road_73 : decode cX4_road 73 = .ok (.iload_n 2, 1) := by decide +kernel
theorem dX4_road_74 : decode cX4_road 74 = .ok (.iload_n 3, 1) := by decide +kernel
theorem dX4_road_75 : decode cX4_road 75 = .ok (.invokevirtual 90, 3) := by decide +kernel
theorem dX4_road_78 : decode cX4_road 78 = .ok (.aload_n 0, 1) := by decide +kernel
theorem dX4_road_79 : decode cX4_road 79 = .ok (.invokevirtual 94, 3) := by decide +kernel
theorem dX4_road_82 : decode cX4_road 82 = .ok (.aload_n 0, 1) := by decide +kernel
theorem dX4_road_83 : decode cX4_road 83 = .ok (.getfield 28, 3) := by decide +kernel
theorem dX4_road_86 : decode cX4_road 86 = .ok (.getfield 85, 3) := by decide +kernel
theorem dX4_road_89 : decode cX4_road 89 = .ok (.ireturn, 1) := by decide +kernel
set_option maxRecDepth 20000 in
theorem ggX4_setHeat_X4_isWithin : GoodIn wsX4_setHeat wsX4_isWithin := goodIn_r _ [9] (by decide +kernel) (by decide +kernel)
set_option maxRecDepth 20000 in
theorem gX4_setHeat_X4_isWithin : GoodIn wsX4_setHeat (va_wsS RX4 44 yX4_isWithin wsX4_isWithin) := goodIn_app (goodIn_of _ (by decide +kernel)) ggX4_setHeat_X4_isWithin
theorem dX4_setHeat_0 : decode cX4_setHeat 0 = .ok (.iload_n 1, 1) := by decide +kernel
theorem dX4_setHeat_1 : decode cX4_setHeat 1 = .ok (.ifCond .lt 12, 3) := by decide +kernel
theorem dX4_setHeat_4 : decode cX4_setHeat 4 = .ok (.iload_n 1, 1) := by decide +kernel
theorem dX4_setHeat_5 : decode cX4_setHeat 5 = .ok (.aload_n 0, 1) := by decide +kernel
theorem dX4_setHeat_6 : decode cX4_setHeat 6 = .ok (.getfield 21, 3) := by decide +kernel
theorem dX4_setHeat_9 : decode cX4_setHeat 9 = .ok (.arraylength, 1) := by decide +kernel
theorem dX4_setHeat_10 : decode cX4_setHeat 10 = .ok (.if_icmp .lt 13, 3) := by decide +kernel
theorem dX4_setHeat_13 : decode cX4_setHeat 13 = .ok (.new 97, 3) := by decide +kernel
theorem dX4_setHeat_16 : decode cX4_setHeat 16 = .ok (.dup, 1) := by decide +kernel
theorem dX4_setHeat_17 : decode cX4_setHeat 17 = .ok (.ldc 99, 2) := by decide +kernel
theorem dX4_setHeat_19 : decode cX4_setHeat 19 = .ok (.invokespecial 101, 3) := by decide +kernel
theorem dX4_setHeat_22 : decode cX4_setHeat 22 = .ok (.athrow, 1) := by decide +kernel
theorem dX4_setHeat_23 : decode cX4_setHeat 23 = .ok (.iload_n 2, 1) := by decide +kernel
theorem dX4_setHeat_24 : decode cX4_setHeat 24 = .ok (.iconst 0, 1) := by decide +kernel
theorem dX4_setHeat_25 : decode cX4_setHeat 25 = .ok (.bipush 40, 2) := by decide +kernel
theorem dX4_setHeat_27 : decode cX4_setHeat 27 = .ok (.invokestatic 44, 3) := by decide +kernel
theorem dX4_setHeat_30 : decode cX4_setHeat 30 = .ok (.ifCond .ne 13, 3) := by decide +kernel
theorem dX4_setHeat_33 : decode cX4_setHeat 33 = .ok (.new 48, 3) := by decide +kernel
theorem dX4_setHeat_36 : decode cX4_setHeat 36 = .ok (.dup, 1) := by decide +kernel
theorem dX4_setHeat_37 : decode cX4_setHeat 37 = .ok (.ldc 102, 2) := by decide +kernel
theorem dX4_setHeat_39 : decode cX4_setHeat 39 = .ok (.invokespecial 52, 3) := by decide +kernel
theorem dX4_setHeat_42 : decode cX4_setHeat 42 = .ok (.athrow, 1) := by decide +kernel
theorem dX4_setHeat_43 : decode cX4_setHeat 43 = .ok (.aload_n 0, 1) := by decide +kernel
theorem dX4_setHeat_44 : decode cX4_setHeat 44 = .ok (.getfield 21, 3) := by decide +kernel
theorem dX4_setHeat_47 : decode cX4_setHeat 47 = .ok (.iload_n 1, 1) := by decide +kernel
theorem dX4_setHeat_48 : decode cX4_setHeat 48 = .ok (.iaload, 1) := by decide +kernel
theorem dX4_setHeat_49 : decode cX4_setHeat 49 = .ok (.istore_n 3, 1) := by decide +kernel
theorem dX4_setHeat_50 : decode cX4_setHeat 50 = .ok (.aload_n 0, 1) := by decide +kernel
theorem dX4_setHeat_51 : decode cX4_setHeat 51 = .ok (.getfield 21, 3) := by decide +kernel
theorem dX4_setHeat_54 : decode cX4_setHeat 54 = .ok (.iload_n 1, 1) := by decide +kernel
theorem dX4_setHeat_55 : decode cX4_setHeat 55 = .ok (.iload_n 2, 1) := by decide +kernel
theorem dX4_setHeat_56 : decode cX4_setHeat 56 = .ok (.iastore, 1) := by decide +kernel
theorem dX4_setHeat_57 : decode cX4_setHeat 57 = .ok (.iload_n 3, 1) := by decide +kernel
theorem dX4_setHeat_58 : decode cX4_setHeat 58 = .ok (.ireturn, 1) := by decide +kernel
set_option maxRecDepth 20000 in
theorem ggX4_bloom_X4_checkValley : GoodIn wsX4_bloom wsX4_checkValley := goodIn_ca (goodIn_r _ [6, 7, 8, 9, 25, 26, 27, 28, 29, 30, 31, 32, 33] (by decide +kernel) (by decide +kernel)) (goodIn_sub (fun _ h => List.mem_cons_of_mem _ (List.mem_append_left _ (List.mem_append_right _ h))) (by decide +kernel))
set_option maxRecDepth 20000 in
theorem gX4_bloom_X4_checkValley : GoodIn wsX4_bloom (wsV RX4 77 RX4 yX4_checkValley wsX4_checkValley) := goodIn_app (goodIn_of _ (by decide +kernel)) ggX4_bloom_X4_checkValley
set_option maxRecDepth 20000 in
theorem ggX4_bloom_X4_checkDay : GoodIn wsX4_bloom wsX4_checkDay := goodIn_ca (goodIn_r _ [12, 13, 14] (by decide +kernel) (by decide +kernel)) (goodIn_sub (fun _ h => List.mem_cons_of_mem _ (List.mem_append_right _ h)) (by decide +kernel))
set_option maxRecDepth 20000 in
theorem gX4_bloom_X4_checkDay : GoodIn wsX4_bloom (va_wsS RX4 104 yX4_checkDay wsX4_checkDay) := goodIn_app (goodIn_of _ (by decide +kernel)) ggX4_bloom_X4_checkDay
set_option maxRecDepth 20000 in
theorem ggX4_bloom_X3_bloomOn : GoodIn wsX4_bloom wsX3_bloomOn := goodIn_r _ [18, 19, 20, 21, 22, 23, 24, 34, 35, 36, 37, 38] (by decide +kernel) (by decide +kernel)
set_option maxRecDepth 20000 in
theorem gX4_bloom_X3_bloomOn_n107 : GoodIn wsX4_bloom (wsX3_bloomOn) := ggX4_bloom_X3_bloomOn
theorem dX4_bloom_0 : decode cX4_bloom 0 = .ok (.aload_n 0, 1) := by decide +kernel
theorem dX4_bloom_1 : decode cX4_bloom 1 = .ok (.iload_n 1, 1) := by decide +kernel
theorem dX4_bloom_2 : decode cX4_bloom 2 = .ok (.invokevirtual 77, 3) := by decide +kernel
theorem dX4_bloom_5 : decode cX4_bloom 5 = .ok (.iload_n 2, 1) := by decide +kernel
theorem dX4_bloom_6 : decode cX4_bloom 6 = .ok (.invokestatic 104, 3) := by decide +kernel
theorem dX4_bloom_9 : decode cX4_bloom 9 = .ok (.aload_n 0, 1) := by decide +kernel
theorem dX4_bloom_10 : decode cX4_bloom 10 = .ok (.getfield 11, 3) := by decide +kernel
theorem dX4_bloom_13 : decode cX4_bloom 13 = .ok (.iload_n 1, 1) := by decide +kernel
theorem dX4_bloom_14 : decode cX4_bloom 14 = .ok (.aaload, 1) := by decide +kernel
theorem dX4_bloom_15 : decode cX4_bloom 15 = .ok (.iload_n 2, 1) := by decide +kernel
theorem dX4_bloom_16 : decode cX4_bloom 16 = .ok (.invokevirtual 107, 3) := by decide +kernel
theorem dX4_bloom_19 : decode cX4_bloom 19 = .ok (.ireturn, 1) := by decide +kernel
set_option maxRecDepth 20000 in
theorem ggX4_way_X4_checkValley : GoodIn wsX4_way wsX4_checkValley := goodIn_ca (goodIn_r _ [6, 7, 8, 9, 21, 22, 23, 24, 25, 26, 27, 28, 29] (by decide +kernel) (by decide +kernel)) (goodIn_sub (fun _ h => List.mem_cons_of_mem _ (List.mem_append_right _ h)) (by decide +kernel))
set_option maxRecDepth 20000 in
theorem gX4_way_X4_checkValley : GoodIn wsX4_way (wsV RX4 77 RX4 yX4_checkValley wsX4_checkValley) := goodIn_app (goodIn_of _ (by decide +kernel)) ggX4_way_X4_checkValley
set_option maxRecDepth 20000 in
theorem ggX4_way_X1_minutesBetween : GoodIn wsX4_way wsX1_minutesBetween := goodIn_r _ [13, 14, 15, 16, 17, 11, 18, 19, 5, 20, 30, 31] (by decide +kernel) (by decide +kernel)
set_option maxRecDepth 20000 in
theorem gX4_way_X1_minutesBetween_n111 : GoodIn wsX4_way (wsX1_minutesBetween) := ggX4_way_X1_minutesBetween
theorem dX4_way_0 : decode cX4_way 0 = .ok (.aload_n 0, 1) := by decide +kernel
theorem dX4_way_1 : decode cX4_way 1 = .ok (.iload_n 1, 1) := by decide +kernel
theorem dX4_way_2 : decode cX4_way 2 = .ok (.invokevirtual 77, 3) := by decide +kernel
theorem dX4_way_5 : decode cX4_way 5 = .ok (.aload_n 0, 1) := by decide +kernel
theorem dX4_way_6 : decode cX4_way 6 = .ok (.iload_n 2, 1) := by decide +kernel
theorem dX4_way_7 : decode cX4_way 7 = .ok (.invokevirtual 77, 3) := by decide +kernel
theorem dX4_way_10 : decode cX4_way 10 = .ok (.aload_n 0, 1) := by decide +kernel
theorem dX4_way_11 : decode cX4_way 11 = .ok (.getfield 28, 3) := by decide +kernel
theorem dX4_way_14 : decode cX4_way 14 = .ok (.iload_n 1, 1) := by decide +kernel
theorem dX4_way_15 : decode cX4_way 15 = .ok (.iload_n 2, 1) := by decide +kernel
theorem dX4_way_16 : decode cX4_way 16 = .ok (.invokevirtual 111, 3) := by decide +kernel
theorem dX4_way_19 : decode cX4_way 19 = .ok (.ireturn, 1) := by decide +kernel
set_option maxRecDepth 20000 in
theorem ggX4_tour_X4_isWithin : GoodIn wsX4_tour wsX4_isWithin := goodIn_r _ [10] (by decide +kernel) (by decide +kernel)
set_option maxRecDepth 20000 in
theorem gX4_tour_X4_isWithin : GoodIn wsX4_tour (va_wsS RX4 44 yX4_isWithin wsX4_isWithin) := goodIn_app (goodIn_of _ (by decide +kernel)) ggX4_tour_X4_isWithin
theorem dX4_tour_0 : decode cX4_tour 0 = .ok (.iload_n 1, 1) := by decide +kernel
theorem dX4_tour_1 : decode cX4_tour 1 = .ok (.iconst 1, 1) := by decide +kernel
theorem dX4_tour_2 : decode cX4_tour 2 = .ok (.bipush 60, 2) := by decide +kernel
theorem dX4_tour_4 : decode cX4_tour 4 = .ok (.invokestatic 44, 3) := by decide +kernel
theorem dX4_tour_7 : decode cX4_tour 7 = .ok (.ifCond .ne 13, 3) := by decide +kernel
theorem dX4_tour_10 : decode cX4_tour 10 = .ok (.new 48, 3) := by decide +kernel
theorem dX4_tour_13 : decode cX4_tour 13 = .ok (.dup, 1) := by decide +kernel
theorem dX4_tour_14 : decode cX4_tour 14 = .ok (.ldc 115, 2) := by decide +kernel
theorem dX4_tour_16 : decode cX4_tour 16 = .ok (.invokespecial 52, 3) := by decide +kernel
theorem dX4_tour_19 : decode cX4_tour 19 = .ok (.athrow, 1) := by decide +kernel
theorem dX4_tour_20 : decode cX4_tour 20 = .ok (.aload_n 0, 1) := by decide +kernel
theorem dX4_tour_21 : decode cX4_tour 21 = .ok (.getfield 117, 3) := by decide +kernel
theorem dX4_tour_24 : decode cX4_tour 24 = .ok (.aload_n 0, 1) := by decide +kernel
theorem dX4_tour_25 : decode cX4_tour 25 = .ok (.getfield 17, 3) := by decide +kernel
theorem dX4_tour_28 : decode cX4_tour 28 = .ok (.arraylength, 1) := by decide +kernel
theorem dX4_tour_29 : decode cX4_tour 29 = .ok (.if_icmp .lt 13, 3) := by decide +kernel
theorem dX4_tour_32 : decode cX4_tour 32 = .ok (.new 63, 3) := by decide +kernel
theorem dX4_tour_35 : decode cX4_tour 35 = .ok (.dup, 1) := by decide +kernel
theorem dX4_tour_36 : decode cX4_tour 36 = .ok (.ldc 120, 2) := by decide +kernel
theorem dX4_tour_38 : decode cX4_tour 38 = .ok (.invokespecial 67, 3) := by decide +kernel
theorem dX4_tour_41 : decode cX4_tour 41 = .ok (.athrow, 1) := by decide +kernel
theorem dX4_tour_42 : decode cX4_tour 42 = .ok (.aload_n 0, 1) := by decide +kernel
theorem dX4_tour_43 : decode cX4_tour 43 = .ok (.getfield 17, 3) := by decide +kernel
theorem dX4_tour_46 : decode cX4_tour 46 = .ok (.aload_n 0, 1) := by decide +kernel
theorem dX4_tour_47 : decode cX4_tour 47 = .ok (.getfield 117, 3) := by decide +kernel
theorem dX4_tour_50 : decode cX4_tour 50 = .ok (.aaload, 1) := by decide +kernel
theorem dX4_tour_51 : decode cX4_tour 51 = .ok (.iload_n 1, 1) := by decide +kernel
theorem dX4_tour_52 : decode cX4_tour 52 = .ok (.putfield 122, 3) := by decide +kernel
theorem dX4_tour_55 : decode cX4_tour 55 = .ok (.aload_n 0, 1) := by decide +kernel
theorem dX4_tour_56 : decode cX4_tour 56 = .ok (.dup, 1) := by decide +kernel
theorem dX4_tour_57 : decode cX4_tour 57 = .ok (.getfield 117, 3) := by decide +kernel
theorem dX4_tour_60 : decode cX4_tour 60 = .ok (.iconst 1, 1) := by decide +kernel
theorem dX4_tour_61 : decode cX4_tour 61 = .ok (.iadd, 1) := by decide +kernel
theorem dX4_tour_62 : decode cX4_tour 62 = .ok (.putfield 117, 3) := by decide +kernel
theorem dX4_tour_65 : decode cX4_tour 65 = .ok (.aload_n 0, 1) := by decide +kernel
theorem dX4_tour_66 : decode cX4_tour 66 = .ok (.getfield 117, 3) := by decide +kernel
theorem dX4_tour_69 : decode cX4_tour 69 = .ok (.iconst 1, 1) := by decide +kernel
theorem dX4_tour_70 : decode cX4_tour 70 = .ok (.isub, 1) := by decide +kernel
theorem dX4_tour_71 : decode cX4_tour 71 = .ok (.ireturn, 1) := by decide +kernel
set_option maxRecDepth 20000 in
theorem ggX4_add_X4_checkTour : GoodIn wsX4_add wsX4_checkTour := goodIn_ca (goodIn_r _ [8, 9, 10, 11, 58, 59, 60, 61, 62, 63, 64, 65, 66] (by decide +kernel) (by decide +kernel)) (goodIn_sub (fun _ h => List.mem_cons_of_mem _ (List.mem_append_right _ h)) (by decide +kernel))
set_option maxRecDepth 20000 in
theorem gX4_add_X4_checkTour : GoodIn wsX4_add (wsV RX4 125 RX4 yX4_checkTour wsX4_checkTour) := goodIn_app (goodIn_of _ (by decide +kernel)) ggX4_add_X4_checkTour
set_option maxRecDepth 20000 in
theorem ggX4_add_X4_checkValley : GoodIn wsX4_add wsX4_checkValley := goodIn_ca (goodIn_r _ [15, 9, 10, 16, 58, 59, 60, 61, 62, 63, 64, 65, 66] (by decide +kernel) (by decide +kernel)) (goodIn_sub (fun _ h => List.mem_cons_of_mem _ (List.mem_append_right _ h)) (by decide +kernel))
set_option maxRecDepth 20000 in
theorem gX4_add_X4_checkValley : GoodIn wsX4_add (wsV RX4 77 RX4 yX4_checkValley wsX4_checkValley) := goodIn_app (goodIn_of _ (by decide +kernel)) ggX4_add_X4_checkValley
set_option maxRecDepth 20000 in
theorem ggX4_add_X2_isFull : GoodIn wsX4_add wsX2_isFull := goodIn_r _ [20, 21, 22, 67, 68, 69, 70] (by decide +kernel) (by decide +kernel)
set_option maxRecDepth 20000 in
theorem gX4_add_X2_isFull_n128 : GoodIn wsX4_add (wsX2_isFull) := ggX4_add_X2_isFull
set_option maxRecDepth 20000 in
theorem ggX4_add_X2_visits : GoodIn wsX4_add wsX2_visits := goodIn_r _ [25, 21, 22, 67, 68, 69, 70] (by decide +kernel) (by decide +kernel)
set_option maxRecDepth 20000 in
theorem gX4_add_X2_visits_n134 : GoodIn wsX4_add (wsX2_visits) := ggX4_add_X2_visits
set_option maxRecDepth 20000 in
theorem ggX4_add_X2_append : GoodIn wsX4_add wsX2_append := goodIn_r _ [28, 22, 21, 29, 17, 19, 18, 20, 67, 68, 69, 70] (by decide +kernel) (by decide +kernel)
set_option maxRecDepth 20000 in
theorem gX4_add_X2_append_n140 : GoodIn wsX4_add (wsX2_append) := ggX4_add_X2_append
set_option maxRecDepth 20000 in
theorem ggX4_add_X4_reckonCrowds : GoodIn wsX4_add wsX4_reckonCrowds := goodIn_r _ [33, 16, 34, 11, 3, 35, 36, 18, 37, 38, 21, 22, 39, 40, 41, 42, 43, 44, 45, 46, 47, 48, 49, 7, 50, 51, 52, 53, 54, 55, 56, 57, 23, 24, 25, 58, 59, 60, 61, 62, 63, 64, 65, 66, 71, 72, 73, 74, 75, 67, 68, 69, 70, 76, 77] (by decide +kernel) (by decide +kernel)
set_option maxRecDepth 20000 in
theorem gX4_add_X4_reckonCrowds : GoodIn wsX4_add (wsV RX4 94 RX4 yX4_reckonCrowds wsX4_reckonCrowds) := goodIn_app (goodIn_of _ (by decide +kernel)) ggX4_add_X4_reckonCrowds
theorem dX4_add_0 : decode cX4_add 0 = .ok (.aload_n 0, 1) := by decide +kernel
theorem dX4_add_1 : decode cX4_add 1 = .ok (.iload_n 1, 1) := by decide +kernel
theorem dX4_add_2 : decode cX4_add 2 = .ok (.invokevirtual 125, 3) := by decide +kernel
theorem dX4_add_5 : decode cX4_add 5 = .ok (.aload_n 0, 1) := by decide +kernel
theorem dX4_add_6 : decode cX4_add 6 = .ok (.iload_n 2, 1) := by decide +kernel
theorem dX4_add_7 : decode cX4_add 7 = .ok (.invokevirtual 77, 3) := by decide +kernel
theorem dX4_add_10 : decode cX4_add 10 = .ok (.aload_n 0, 1) := by decide +kernel
theorem dX4_add_11 : decode cX4_add 11 = .ok (.getfield 17, 3) := by decide +kernel
theorem dX4_add_14 : decode cX4_add 14 = .ok (.iload_n 1, 1) := by decide +kernel
theorem dX4_add_15 : decode cX4_add 15 = .ok (.aaload, 1) := by decide +kernel
theorem dX4_add_16 : decode cX4_add 16 = .ok (.astore_n 3, 1) := by decide +kernel
theorem dX4_add_17 : decode cX4_add 17 = .ok (.aload_n 3, 1) := by decide +kernel
theorem dX4_add_18 : decode cX4_add 18 = .ok (.invokevirtual 128, 3) := by decide +kernel
theorem dX4_add_21 : decode cX4_add 21 = .ok (.ifCond .eq 13, 3) := by decide +kernel
theorem dX4_add_24 : decode cX4_add 24 = .ok (.new 63, 3) := by decide +kernel
theorem dX4_add_27 : decode cX4_add 27 = .ok (.dup, 1) := by decide +kernel
theorem dX4_add_28 : decode cX4_add 28 = .ok (.ldc 132, 2) := by decide +kernel
theorem dX4_add_30 : decode cX4_add 30 = .ok (.invokespecial 67, 3) := by decide +kernel
theorem dX4_add_33 : decode cX4_add 33 = .ok (.athrow, 1) := by decide +kernel
theorem dX4_add_34 : decode cX4_add 34 = .ok (.aload_n 3, 1) := by decide +kernel
theorem dX4_add_35 : decode cX4_add 35 = .ok (.iload_n 2, 1) := by decide +kernel
theorem dX4_add_36 : decode cX4_add 36 = .ok (.invokevirtual 134, 3) := by decide +kernel
theorem dX4_add_39 : decode cX4_add 39 = .ok (.ifCond .eq 13, 3) := by decide +kernel
theorem dX4_add_42 : decode cX4_add 42 = .ok (.new 63, 3) := by decide +kernel
theorem dX4_add_45 : decode cX4_add 45 = .ok (.dup, 1) := by decide +kernel
theorem dX4_add_46 : decode cX4_add 46 = .ok (.ldc 138, 2) := by decide +kernel
theorem dX4_add_48 : decode cX4_add 48 = .ok (.invokespecial 67, 3) := by decide +kernel
theorem dX4_add_51 : decode cX4_add 51 = .ok (.athrow, 1) := by decide +kernel
theorem dX4_add_52 : decode cX4_add 52 = .ok (.aload_n 3, 1) := by decide +kernel
theorem dX4_add_53 : decode cX4_add 53 = .ok (.iload_n 2, 1) := by decide +kernel
theorem dX4_add_54 : decode cX4_add 54 = .ok (.invokevirtual 140, 3) := by decide +kernel
theorem dX4_add_57 : decode cX4_add 57 = .ok (.aload_n 0, 1) := by decide +kernel
theorem dX4_add_58 : decode cX4_add 58 = .ok (.invokevirtual 94, 3) := by decide +kernel
theorem dX4_add_61 : decode cX4_add 61 = .ok (.aload_n 3, 1) := by decide +kernel
theorem dX4_add_62 : decode cX4_add 62 = .ok (.getfield 143, 3) := by decide +kernel
theorem dX4_add_65 : decode cX4_add 65 = .ok (.ireturn, 1) := by decide +kernel
set_option maxRecDepth 20000 in
theorem ggX4_cut_X4_checkTour : GoodIn wsX4_cut wsX4_checkTour := goodIn_ca (goodIn_r _ [8, 9, 10, 11, 50, 51, 52, 53, 54, 55, 56, 57, 58] (by decide +kernel) (by decide +kernel)) (goodIn_sub (fun _ h => List.mem_cons_of_mem _ (List.mem_append_right _ h)) (by decide +kernel))
set_option maxRecDepth 20000 in
theorem gX4_cut_X4_checkTour : GoodIn wsX4_cut (wsV RX4 125 RX4 yX4_checkTour wsX4_checkTour) := goodIn_app (goodIn_of _ (by decide +kernel)) ggX4_cut_X4_checkTour
set_option maxRecDepth 20000 in
theorem ggX4_cut_X2_takeLast : GoodIn wsX4_cut wsX2_takeLast := goodIn_r _ [15, 16, 17, 59, 60, 61, 62] (by decide +kernel) (by decide +kernel)
set_option maxRecDepth 20000 in
theorem gX4_cut_X2_takeLast_n148 : GoodIn wsX4_cut (wsX2_takeLast) := ggX4_cut_X2_takeLast
set_option maxRecDepth 20000 in
theorem ggX4_cut_X4_reckonCrowds : GoodIn wsX4_cut wsX4_reckonCrowds := goodIn_r _ [21, 22, 23, 11, 3, 24, 25, 13, 26, 27, 16, 17, 28, 29, 30, 31, 32, 33, 34, 35, 36, 37, 38, 7, 39, 40, 41, 42, 43, 44, 45, 46, 47, 48, 49, 50, 51, 52, 53, 54, 55, 56, 57, 58, 63, 64, 65, 66, 67, 59, 60, 61, 62, 68, 69] (by decide +kernel) (by decide +kernel)
set_option maxRecDepth 20000 in
theorem gX4_cut_X4_reckonCrowds : GoodIn wsX4_cut (wsV RX4 94 RX4 yX4_reckonCrowds wsX4_reckonCrowds) := goodIn_app (goodIn_of _ (by decide +kernel)) ggX4_cut_X4_reckonCrowds
theorem dX4_cut_0 : decode cX4_cut 0 = .ok (.aload_n 0, 1) := by decide +kernel
theorem dX4_cut_1 : decode cX4_cut 1 = .ok (.iload_n 1, 1) := by decide +kernel
theorem dX4_cut_2 : decode cX4_cut 2 = .ok (.invokevirtual 125, 3) := by decide +kernel
theorem dX4_cut_5 : decode cX4_cut 5 = .ok (.aload_n 0, 1) := by decide +kernel
theorem dX4_cut_6 : decode cX4_cut 6 = .ok (.getfield 17, 3) := by decide +kernel
theorem dX4_cut_9 : decode cX4_cut 9 = .ok (.iload_n 1, 1) := by decide +kernel
theorem dX4_cut_10 : decode cX4_cut 10 = .ok (.aaload, 1) := by decide +kernel
theorem dX4_cut_11 : decode cX4_cut 11 = .ok (.astore_n 2, 1) := by decide +kernel
theorem dX4_cut_12 : decode cX4_cut 12 = .ok (.aload_n 2, 1) := by decide +kernel
theorem dX4_cut_13 : decode cX4_cut 13 = .ok (.getfield 143, 3) := by decide +kernel
theorem dX4_cut_16 : decode cX4_cut 16 = .ok (.ifCond .gt 13, 3) := by decide +kernel
theorem dX4_cut_19 : decode cX4_cut 19 = .ok (.new 63, 3) := by decide +kernel
theorem dX4_cut_22 : decode cX4_cut 22 = .ok (.dup, 1) := by decide +kernel
theorem dX4_cut_23 : decode cX4_cut 23 = .ok (.ldc 146, 2) := by decide +kernel
theorem dX4_cut_25 : decode cX4_cut 25 = .ok (.invokespecial 67, 3) := by decide +kernel
theorem dX4_cut_28 : decode cX4_cut 28 = .ok (.athrow, 1) := by decide +kernel
theorem dX4_cut_29 : decode cX4_cut 29 = .ok (.aload_n 2, 1) := by decide +kernel
theorem dX4_cut_30 : decode cX4_cut 30 = .ok (.invokevirtual 148, 3) := by decide +kernel
theorem dX4_cut_33 : decode cX4_cut 33 = .ok (.istore_n 3, 1) := by decide +kernel
theorem dX4_cut_34 : decode cX4_cut 34 = .ok (.aload_n 0, 1) := by decide +kernel
theorem dX4_cut_35 : decode cX4_cut 35 = .ok (.invokevirtual 94, 3) := by decide +kernel
theorem dX4_cut_38 : decode cX4_cut 38 = .ok (.iload_n 3, 1) := by decide +kernel
theorem dX4_cut_39 : decode cX4_cut 39 = .ok (.ireturn, 1) := by decide +kernel
set_option maxRecDepth 20000 in
theorem ggX4_told_X4_checkTour : GoodIn wsX4_told wsX4_checkTour := goodIn_ca (goodIn_r _ [9, 1, 2, 10, 46, 47, 48, 49, 50, 51, 52, 53, 54] (by decide +kernel) (by decide +kernel)) (goodIn_sub (fun _ h => List.mem_cons_of_mem _ (List.mem_append_right _ h)) (by decide +kernel))
set_option maxRecDepth 20000 in
theorem gX4_told_X4_checkTour : GoodIn wsX4_told (wsV RX4 125 RX4 yX4_checkTour wsX4_checkTour) := goodIn_app (goodIn_of _ (by decide +kernel)) ggX4_told_X4_checkTour
set_option maxRecDepth 20000 in
theorem ggX4_told_X2_canGo : GoodIn wsX4_told wsX2_canGo := goodIn_r _ [14, 15, 16, 17, 8, 18, 55, 56, 57, 58] (by decide +kernel) (by decide +kernel)
set_option maxRecDepth 20000 in
theorem gX4_told_X2_canGo_n155 : GoodIn wsX4_told (wsX2_canGo) := ggX4_told_X2_canGo
set_option maxRecDepth 20000 in
theorem ggX4_told_X4_joyOn : GoodIn wsX4_told wsX4_joyOn := goodIn_r _ [22, 23, 24, 25, 26, 27, 28, 11, 12, 13, 14, 15, 16, 17, 8, 18, 29, 30, 31, 32, 33, 34, 35, 36, 37, 38, 39, 40, 41, 46, 47, 48, 49, 50, 51, 52, 53, 54, 59, 60, 61, 62, 63, 55, 56, 57, 58] (by decide +kernel) (by decide +kernel)
set_option maxRecDepth 20000 in
theorem gX4_told_X4_joyOn : GoodIn wsX4_told (wsV RX4 161 RX4 yX4_joyOn wsX4_joyOn) := goodIn_app (goodIn_of _ (by decide +kernel)) ggX4_told_X4_joyOn
set_option maxRecDepth 20000 in
theorem ggX4_told_X4_stingsOn : GoodIn wsX4_told wsX4_stingsOn := goodIn_r _ [45, 23, 24, 11, 12, 13, 14, 15, 16, 17, 8, 18, 29, 30, 31, 32, 33, 34, 35, 36, 37, 38, 39, 40, 27, 41, 46, 47, 48, 49, 50, 51, 52, 53, 54, 55, 56, 57, 58, 59, 60, 61, 62, 63] (by decide +kernel) (by decide +kernel)
set_option maxRecDepth 20000 in
theorem gX4_told_X4_stingsOn : GoodIn wsX4_told (wsV RX4 165 RX4 yX4_stingsOn wsX4_stingsOn) := goodIn_app (goodIn_of _ (by decide +kernel)) ggX4_told_X4_stingsOn
theorem dX4_told_0 : decode cX4_told 0 = .ok (.aload_n 0, 1) := by decide +kernel
theorem dX4_told_1 : decode cX4_told 1 = .ok (.iload_n 1, 1) := by decide +kernel
theorem dX4_told_2 : decode cX4_told 2 = .ok (.invokevirtual 125, 3) := by decide +kernel
theorem dX4_told_5 : decode cX4_told 5 = .ok (.aload_n 0, 1) := by decide +kernel
theorem dX4_told_6 : decode cX4_told 6 = .ok (.getfield 17, 3) := by decide +kernel
theorem dX4_told_9 : decode cX4_told 9 = .ok (.iload_n 1, 1) := by decide +kernel
theorem dX4_told_10 : decode cX4_told 10 = .ok (.aaload, 1) := by decide +kernel
theorem dX4_told_11 : decode cX4_told 11 = .ok (.astore_n 3, 1) := by decide +kernel
theorem dX4_told_12 : decode cX4_told 12 = .ok (.iload_n 2, 1) := by decide +kernel
theorem dX4_told_13 : decode cX4_told 13 = .ok (.tableswitch 87 0 5 #[39, 44, 49, 54, 67, 77], 39) := by decide +kernel
theorem dX4_told_52 : decode cX4_told 52 = .ok (.aload_n 3, 1) := by decide +kernel
theorem dX4_told_53 : decode cX4_told 53 = .ok (.getfield 122, 3) := by decide +kernel
theorem dX4_told_56 : decode cX4_told 56 = .ok (.ireturn, 1) := by decide +kernel
theorem dX4_told_57 : decode cX4_told 57 = .ok (.aload_n 3, 1) := by decide +kernel
theorem dX4_told_58 : decode cX4_told 58 = .ok (.getfield 143, 3) := by decide +kernel
theorem dX4_told_61 : decode cX4_told 61 = .ok (.ireturn, 1) := by decide +kernel
theorem dX4_told_62 : decode cX4_told 62 = .ok (.aload_n 3, 1) := by decide +kernel
theorem dX4_told_63 : decode cX4_told 63 = .ok (.getfield 152, 3) := by decide +kernel
theorem dX4_told_66 : decode cX4_told 66 = .ok (.ireturn, 1) := by decide +kernel
theorem dX4_told_67 : decode cX4_told 67 = .ok (.aload_n 3, 1) := by decide +kernel
theorem dX4_told_68 : decode cX4_told 68 = .ok (.invokevirtual 155, 3) := by decide +kernel
theorem dX4_told_71 : decode cX4_told 71 = .ok (.ifCond .eq 7, 3) := by decide +kernel
theorem dX4_told_74 : decode cX4_told 74 = .ok (.iconst 1, 1) := by decide +kernel
theorem dX4_told_75 : decode cX4_told 75 = .ok (.goto 4, 3) := by decide +kernel
theorem dX4_told_78 : decode cX4_told 78 = .ok (.iconst 0, 1) := by decide +kernel
theorem dX4_told_79 : decode cX4_told 79 = .ok (.ireturn, 1) := by decide +kernel
theorem dX4_told_80 : decode cX4_told 80 = .ok (.aload_n 0, 1) := by decide +kernel
theorem dX4_told_81 : decode cX4_told 81 = .ok (.aload_n 3, 1) := by decide +kernel
theorem dX4_told_82 : decode cX4_told 82 = .ok (.aload_n 0, 1) := by decide +kernel
theorem dX4_told_83 : decode cX4_told 83 = .ok (.getfield 158, 3) := by decide +kernel
theorem dX4_told_86 : decode cX4_told 86 = .ok (.invokevirtual 161, 3) := by decide +kernel
theorem dX4_told_89 : decode cX4_told 89 = .ok (.ireturn, 1) := by decide +kernel
theorem dX4_told_90 : decode cX4_told 90 = .ok (.aload_n 0, 1) := by decide +kernel
theorem dX4_told_91 : decode cX4_told 91 = .ok (.aload_n 3, 1) := by decide +kernel
theorem dX4_told_92 : decode cX4_told 92 = .ok (.aload_n 0, 1) := by decide +kernel
theorem dX4_told_93 : decode cX4_told 93 = .ok (.getfield 158, 3) := by decide +kernel
theorem dX4_told_96 : decode cX4_told 96 = .ok (.invokevirtual 165, 3) := by decide +kernel
theorem dX4_told_99 : decode cX4_told 99 = .ok (.ireturn, 1) := by decide +kernel
theorem dX4_told_100 : decode cX4_told 100 = .ok (.new 97, 3) := by decide +kernel
theorem dX4_told_103 : decode cX4_told 103 = .ok (.dup, 1) := by decide +kernel
theorem dX4_told_104 : decode cX4_told 104 = .ok (.ldc 168, 2) := by decide +kernel
theorem dX4_told_106 : decode cX4_told 106 = .ok (.invokespecial 101, 3) := by decide +kernel
theorem dX4_told_109 : decode cX4_told 109 = .ok (.athrow, 1) := by decide +kernel
set_option maxRecDepth 20000 in
theorem ggX4_about_X4_checkValley : GoodIn wsX4_about wsX4_checkValley := goodIn_ca (goodIn_r _ [9, 1, 2, 10, 21, 22, 23, 24, 25, 26, 27, 28, 29] (by decide +kernel) (by decide +kernel)) (goodIn_sub (fun _ h => List.mem_cons_of_mem _ (List.mem_append_right _ h)) (by decide +kernel))
set_option maxRecDepth 20000 in
theorem gX4_about_X4_checkValley : GoodIn wsX4_about (wsV RX4 77 RX4 yX4_checkValley wsX4_checkValley) := goodIn_app (goodIn_of _ (by decide +kernel)) ggX4_about_X4_checkValley
set_option maxRecDepth 20000 in
theorem ggX4_about_X3_bloomOn : GoodIn wsX4_about wsX3_bloomOn := goodIn_r _ [14, 15, 16, 17, 18, 19, 20, 30, 31, 32, 33, 34] (by decide +kernel) (by decide +kernel)
set_option maxRecDepth 20000 in
theorem gX4_about_X3_bloomOn_n107 : GoodIn wsX4_about (wsX3_bloomOn) := ggX4_about_X3_bloomOn
theorem dX4_about_0 : decode cX4_about 0 = .ok (.aload_n 0, 1) := by decide +kernel
theorem dX4_about_1 : decode cX4_about 1 = .ok (.iload_n 1, 1) := by decide +kernel
theorem dX4_about_2 : decode cX4_about 2 = .ok (.invokevirtual 77, 3) := by decide +kernel
theorem dX4_about_5 : decode cX4_about 5 = .ok (.aload_n 0, 1) := by decide +kernel
theorem dX4_about_6 : decode cX4_about 6 = .ok (.getfield 11, 3) := by decide +kernel
theorem dX4_about_9 : decode cX4_about 9 = .ok (.iload_n 1, 1) := by decide +kernel
theorem dX4_about_10 : decode cX4_about 10 = .ok (.aaload, 1) := by decide +kernel
theorem dX4_about_11 : decode cX4_about 11 = .ok (.astore_n 3, 1) := by decide +kernel
theorem dX4_about_12 : decode cX4_about 12 = .ok (.iload_n 2, 1) := by decide +kernel
theorem dX4_about_13 : decode cX4_about 13 = .ok (.tableswitch 73 0 5 #[39, 44, 49, 54, 63, 68], 39) := by decide +kernel
theorem dX4_about_52 : decode cX4_about 52 = .ok (.aload_n 3, 1) := by decide +kernel
theorem dX4_about_53 : decode cX4_about 53 = .ok (.getfield 68, 3) := by decide +kernel
theorem dX4_about_56 : decode cX4_about 56 = .ok (.ireturn, 1) := by decide +kernel
theorem dX4_about_57 : decode cX4_about 57 = .ok (.aload_n 3, 1) := by decide +kernel
theorem dX4_about_58 : decode cX4_about 58 = .ok (.getfield 71, 3) := by decide +kernel
theorem dX4_about_61 : decode cX4_about 61 = .ok (.ireturn, 1) := by decide +kernel
theorem dX4_about_62 : decode cX4_about 62 = .ok (.aload_n 3, 1) := by decide +kernel
theorem dX4_about_63 : decode cX4_about 63 = .ok (.getfield 74, 3) := by decide +kernel
theorem dX4_about_66 : decode cX4_about 66 = .ok (.ireturn, 1) := by decide +kernel
theorem dX4_about_67 : decode cX4_about 67 = .ok (.aload_n 3, 1) := by decide +kernel
theorem dX4_about_68 : decode cX4_about 68 = .ok (.aload_n 0, 1) := by decide +kernel
theorem dX4_about_69 : decode cX4_about 69 = .ok (.getfield 158, 3) := by decide +kernel
theorem dX4_about_72 : decode cX4_about 72 = .ok (.invokevirtual 107, 3) := by decide +kernel
theorem dX4_about_75 : decode cX4_about 75 = .ok (.ireturn, 1) := by decide +kernel
theorem dX4_about_76 : decode cX4_about 76 = .ok (.aload_n 3, 1) := by decide +kernel
theorem dX4_about_77 : decode cX4_about 77 = .ok (.getfield 170, 3) := by decide +kernel
theorem dX4_about_80 : decode cX4_about 80 = .ok (.ireturn, 1) := by decide +kernel
theorem dX4_about_81 : decode cX4_about 81 = .ok (.aload_n 3, 1) := by decide +kernel
theorem dX4_about_82 : decode cX4_about 82 = .ok (.getfield 173, 3) := by decide +kernel
theorem dX4_about_85 : decode cX4_about 85 = .ok (.ireturn, 1) := by decide +kernel
theorem dX4_about_86 : decode cX4_about 86 = .ok (.new 97, 3) := by decide +kernel
theorem dX4_about_89 : decode cX4_about 89 = .ok (.dup, 1) := by decide +kernel
theorem dX4_about_90 : decode cX4_about 90 = .ok (.ldc 168, 2) := by decide +kernel
theorem dX4_about_92 : decode cX4_about 92 = .ok (.invokespecial 101, 3) := by decide +kernel
theorem dX4_about_95 : decode cX4_about 95 = .ok (.athrow, 1) := by decide +kernel
set_option maxRecDepth 20000 in
theorem ggX4_count_X4_toursThatCanGo : GoodIn wsX4_count wsX4_toursThatCanGo := goodIn_r _ [12, 6, 13, 14, 15, 16, 17, 18, 19, 20, 11, 21, 37, 38, 39, 40, 41, 42, 43, 44, 45, 51, 52, 53, 54] (by decide +kernel) (by decide +kernel)
set_option maxRecDepth 20000 in
theorem gX4_count_X4_toursThatCanGo : GoodIn wsX4_count (wsV RX4 176 RX4 yX4_toursThatCanGo wsX4_toursThatCanGo) := goodIn_app (goodIn_of _ (by decide +kernel)) ggX4_count_X4_toursThatCanGo
set_option maxRecDepth 20000 in
theorem ggX4_count_X4_valleysInBloomOn : GoodIn wsX4_count wsX4_valleysInBloomOn := goodIn_r _ [25, 4, 26, 27, 28, 29, 30, 31, 32, 33, 34, 35, 36, 37, 38, 39, 40, 41, 42, 43, 44, 45, 55, 56, 57, 58, 59] (by decide +kernel) (by decide +kernel)
set_option maxRecDepth 20000 in
theorem gX4_count_X4_valleysInBloomOn : GoodIn wsX4_count (wsV RX4 179 RX4 yX4_valleysInBloomOn wsX4_valleysInBloomOn) := goodIn_app (goodIn_of _ (by decide +kernel)) ggX4_count_X4_valleysInBloomOn
theorem dX4_count_0 : decode cX4_count 0 = .ok (.iload_n 1, 1) := by decide +kernel
theorem dX4_count_1 : decode cX4_count 1 = .ok (.tableswitch 112 0 8 #[51, 56, 61, 69, 74, 79, 88, 96, 104], 51) := by decide +kernel
theorem dX4_count_52 : decode cX4_count 52 = .ok (.aload_n 0, 1) := by decide +kernel
theorem dX4_count_53 : decode cX4_count 53 = .ok (.getfield 158, 3) := by decide +kernel
theorem dX4_count_56 : decode cX4_count 56 = .ok (.ireturn, 1) := by decide +kernel
theorem dX4_count_57 : decode cX4_count 57 = .ok (.aload_n 0, 1) := by decide +kernel
theorem dX4_count_58 : decode cX4_count 58 = .ok (.getfield 59, 3) := by decide +kernel
theorem dX4_count_61 : decode cX4_count 61 = .ok (.ireturn, 1) := by decide +kernel
theorem dX4_count_62 : decode cX4_count 62 = .ok (.aload_n 0, 1) := by decide +kernel
theorem dX4_count_63 : decode cX4_count 63 = .ok (.getfield 28, 3) := by decide +kernel
theorem dX4_count_66 : decode cX4_count 66 = .ok (.getfield 85, 3) := by decide +kernel
theorem dX4_count_69 : decode cX4_count 69 = .ok (.ireturn, 1) := by decide +kernel
theorem dX4_count_70 : decode cX4_count 70 = .ok (.aload_n 0, 1) := by decide +kernel
theorem dX4_count_71 : decode cX4_count 71 = .ok (.getfield 117, 3) := by decide +kernel
theorem dX4_count_74 : decode cX4_count 74 = .ok (.ireturn, 1) := by decide +kernel
theorem dX4_count_75 : decode cX4_count 75 = .ok (.aload_n 0, 1) := by decide +kernel
theorem dX4_count_76 : decode cX4_count 76 = .ok (.invokevirtual 176, 3) := by decide +kernel
theorem dX4_count_79 : decode cX4_count 79 = .ok (.ireturn, 1) := by decide +kernel
theorem dX4_count_80 : decode cX4_count 80 = .ok (.aload_n 0, 1) := by decide +kernel
theorem dX4_count_81 : decode cX4_count 81 = .ok (.aload_n 0, 1) := by decide +kernel
theorem dX4_count_82 : decode cX4_count 82 = .ok (.getfield 158, 3) := by decide +kernel
theorem dX4_count_85 : decode cX4_count 85 = .ok (.invokevirtual 179, 3) := by decide +kernel
theorem dX4_count_88 : decode cX4_count 88 = .ok (.ireturn, 1) := by decide +kernel
theorem dX4_count_89 : decode cX4_count 89 = .ok (.aload_n 0, 1) := by decide +kernel
theorem dX4_count_90 : decode cX4_count 90 = .ok (.getfield 35, 3) := by decide +kernel
theorem dX4_count_93 : decode cX4_count 93 = .ok (.getfield 182, 3) := by decide +kernel
theorem dX4_count_96 : decode cX4_count 96 = .ok (.ireturn, 1) := by decide +kernel
theorem dX4_count_97 : decode cX4_count 97 = .ok (.aload_n 0, 1) := by decide +kernel
theorem dX4_count_98 : decode cX4_count 98 = .ok (.getfield 35, 3) := by decide +kernel
theorem dX4_count_101 : decode cX4_count 101 = .ok (.getfield 185, 3) := by decide +kernel
theorem dX4_count_104 : decode cX4_count 104 = .ok (.ireturn, 1) := by decide +kernel
theorem dX4_count_105 : decode cX4_count 105 = .ok (.aload_n 0, 1) := by decide +kernel
theorem dX4_count_106 : decode cX4_count 106 = .ok (.getfield 35, 3) := by decide +kernel
theorem dX4_count_109 : decode cX4_count 109 = .ok (.getfield 188, 3) := by decide +kernel
theorem dX4_count_112 : decode cX4_count 112 = .ok (.ireturn, 1) := by decide +kernel
theorem dX4_count_113 : decode cX4_count 113 = .ok (.new 97, 3) := by decide +kernel
theorem dX4_count_116 : decode cX4_count 116 = .ok (.dup, 1) := by decide +kernel
theorem dX4_count_117 : decode cX4_count 117 = .ok (.ldc 191, 2) := by decide +kernel
theorem dX4_count_119 : decode cX4_count 119 = .ok (.invokespecial 101, 3) := by decide +kernel
theorem dX4_count_122 : decode cX4_count 122 = .ok (.athrow, 1) := by decide +kernel
set_option maxRecDepth 20000 in
theorem ggX4_pass_X4_checkSpan : GoodIn wsX4_pass wsX4_checkSpan := goodIn_ca (goodIn_r _ [6, 7, 8, 9, 10, 5, 11] (by decide +kernel) (by decide +kernel)) (goodIn_sub (fun _ h => List.mem_cons_of_mem _ (List.mem_append_right _ h)) (by decide +kernel))
set_option maxRecDepth 20000 in
theorem gX4_pass_X4_checkSpan : GoodIn wsX4_pass (va_wsS RX4 193 yX4_checkSpan wsX4_checkSpan) := goodIn_app (goodIn_of _ (by decide +kernel)) ggX4_pass_X4_checkSpan
set_option maxRecDepth 20000 in
theorem ggX4_pass_X4_enterDays : GoodIn wsX4_pass wsX4_enterDays := goodIn_r _ [15, 2, 16, 17, 18, 5, 19, 20, 21, 22, 23, 24, 25, 26, 27, 28, 29, 30, 31, 32, 10, 11, 33, 34, 35, 36, 37, 38, 39, 40, 41, 42, 43, 44, 45, 46, 47, 48, 49, 50, 51, 52, 53, 54, 55, 56, 57, 58, 59, 60, 61, 62, 63, 64, 65, 66, 67, 68, 69, 70, 71, 72, 73, 74, 75, 76, 77, 78, 79, 80] (by decide +kernel) (by decide +kernel)
set_option maxRecDepth 20000 in
theorem gX4_pass_X4_enterDays : GoodIn wsX4_pass (wsV RX4 196 RX4 yX4_enterDays wsX4_enterDays) := goodIn_app (goodIn_of _ (by decide +kernel)) ggX4_pass_X4_enterDays
theorem dX4_pass_0 : decode cX4_pass 0 = .ok (.iload_n 1, 1) := by decide +kernel
theorem dX4_pass_1 : decode cX4_pass 1 = .ok (.invokestatic 193, 3) := by decide +kernel
theorem dX4_pass_4 : decode cX4_pass 4 = .ok (.aload_n 0, 1) := by decide +kernel
theorem dX4_pass_5 : decode cX4_pass 5 = .ok (.getfield 35, 3) := by decide +kernel
theorem dX4_pass_8 : decode cX4_pass 8 = .ok (.getfield 182, 3) := by decide +kernel
theorem dX4_pass_11 : decode cX4_pass 11 = .ok (.istore_n 2, 1) := by decide +kernel
theorem dX4_pass_12 : decode cX4_pass 12 = .ok (.aload_n 0, 1) := by decide +kernel
theorem dX4_pass_13 : decode cX4_pass 13 = .ok (.aload_n 0, 1) := by decide +kernel
theorem dX4_pass_14 : decode cX4_pass 14 = .ok (.getfield 35, 3) := by decide +kernel
theorem dX4_pass_17 : decode cX4_pass 17 = .ok (.iload_n 1, 1) := by decide +kernel
theorem dX4_pass_18 : decode cX4_pass 18 = .ok (.invokevirtual 196, 3) := by decide +kernel
theorem dX4_pass_21 : decode cX4_pass 21 = .ok (.aload_n 0, 1) := by decide +kernel
theorem dX4_pass_22 : decode cX4_pass 22 = .ok (.dup, 1) := by decide +kernel
theorem dX4_pass_23 : decode cX4_pass 23 = .ok (.getfield 158, 3) := by decide +kernel
theorem dX4_pass_26 : decode cX4_pass 26 = .ok (.iload_n 1, 1) := by decide +kernel
theorem dX4_pass_27 : decode cX4_pass 27 = .ok (.iadd, 1) := by decide +kernel
theorem dX4_pass_28 : decode cX4_pass 28 = .ok (.putfield 158, 3) := by decide +kernel
theorem dX4_pass_31 : decode cX4_pass 31 = .ok (.aload_n 0, 1) := by decide +kernel
theorem dX4_pass_32 : decode cX4_pass 32 = .ok (.getfield 35, 3) := by decide +kernel
theorem dX4_pass_35 : decode cX4_pass 35 = .ok (.getfield 182, 3) := by decide +kernel
theorem dX4_pass_38 : decode cX4_pass 38 = .ok (.iload_n 2, 1) := by decide +kernel
theorem dX4_pass_39 : decode cX4_pass 39 = .ok (.isub, 1) := by decide +kernel
theorem dX4_pass_40 : decode cX4_pass 40 = .ok (.ireturn, 1) := by decide +kernel
set_option maxRecDepth 20000 in
theorem ggX4_joy_X4_checkTour : GoodIn wsX4_joy wsX4_checkTour := goodIn_ca (goodIn_r _ [6, 7, 8, 9, 46, 47, 48, 49, 50, 51, 52, 53, 54] (by decide +kernel) (by decide +kernel)) (goodIn_sub (fun _ h => List.mem_cons_of_mem _ (List.mem_append_left _ (List.mem_append_right _ h))) (by decide +kernel))
set_option maxRecDepth 20000 in
theorem gX4_joy_X4_checkTour : GoodIn wsX4_joy (wsV RX4 125 RX4 yX4_checkTour wsX4_checkTour) := goodIn_app (goodIn_of _ (by decide +kernel)) ggX4_joy_X4_checkTour
set_option maxRecDepth 20000 in
theorem ggX4_joy_X4_checkDay : GoodIn wsX4_joy wsX4_checkDay := goodIn_ca (goodIn_r _ [12, 13, 14] (by decide +kernel) (by decide +kernel)) (goodIn_sub (fun _ h => List.mem_cons_of_mem _ (List.mem_append_right _ h)) (by decide +kernel))
set_option maxRecDepth 20000 in
theorem gX4_joy_X4_checkDay : GoodIn wsX4_joy (va_wsS RX4 104 yX4_checkDay wsX4_checkDay) := goodIn_app (goodIn_of _ (by decide +kernel)) ggX4_joy_X4_checkDay
set_option maxRecDepth 20000 in
theorem ggX4_joy_X4_joyOn : GoodIn wsX4_joy wsX4_joyOn := goodIn_r _ [18, 19, 20, 21, 22, 23, 24, 25, 26, 27, 28, 29, 30, 31, 5, 32, 33, 34, 35, 36, 37, 38, 39, 40, 41, 42, 43, 44, 45, 46, 47, 48, 49, 50, 51, 52, 53, 54, 55, 56, 57, 58, 59, 60, 61, 62, 63] (by decide +kernel) (by decide +kernel)
set_option maxRecDepth 20000 in
theorem gX4_joy_X4_joyOn : GoodIn wsX4_joy (wsV RX4 161 RX4 yX4_joyOn wsX4_joyOn) := goodIn_app (goodIn_of _ (by decide +kernel)) ggX4_joy_X4_joyOn
theorem dX4_joy_0 : decode cX4_joy 0 = .ok (.aload_n 0, 1) := by decide +kernel
theorem dX4_joy_1 : decode cX4_joy 1 = .ok (.iload_n 1, 1) := by decide +kernel
theorem dX4_joy_2 : decode cX4_joy 2 = .ok (.invokevirtual 125, 3) := by decide +kernel
theorem dX4_joy_5 : decode cX4_joy 5 = .ok (.iload_n 2, 1) := by decide +kernel
theorem dX4_joy_6 : decode cX4_joy 6 = .ok (.invokestatic 104, 3) := by decide +kernel
theorem dX4_joy_9 : decode cX4_joy 9 = .ok (.aload_n 0, 1) := by decide +kernel
theorem dX4_joy_10 : decode cX4_joy 10 = .ok (.aload_n 0, 1) := by decide +kernel
theorem dX4_joy_11 : decode cX4_joy 11 = .ok (.getfield 17, 3) := by decide +kernel
theorem dX4_joy_14 : decode cX4_joy 14 = .ok (.iload_n 1, 1) := by decide +kernel
theorem dX4_joy_15 : decode cX4_joy 15 = .ok (.aaload, 1) := by decide +kernel
theorem dX4_joy_16 : decode cX4_joy 16 = .ok (.iload_n 2, 1) := by decide +kernel
theorem dX4_joy_17 : decode cX4_joy 17 = .ok (.invokevirtual 161, 3) := by decide +kernel
theorem dX4_joy_20 : decode cX4_joy 20 = .ok (.ireturn, 1) := by decide +kernel
set_option maxRecDepth 20000 in
theorem ggX4_best_X4_checkTour : GoodIn wsX4_best wsX4_checkTour := goodIn_ca (goodIn_r _ [7, 8, 9, 10, 42, 43, 44, 45, 46, 47, 48, 49, 50] (by decide +kernel) (by decide +kernel)) (goodIn_sub (fun _ h => List.mem_cons_of_mem _ (List.mem_append_right _ h)) (by decide +kernel))
set_option maxRecDepth 20000 in
theorem gX4_best_X4_checkTour : GoodIn wsX4_best (wsV RX4 125 RX4 yX4_checkTour wsX4_checkTour) := goodIn_app (goodIn_of _ (by decide +kernel)) ggX4_best_X4_checkTour
set_option maxRecDepth 20000 in
theorem ggX4_best_X4_joyOn : GoodIn wsX4_best wsX4_joyOn := goodIn_r _ [14, 15, 16, 17, 18, 19, 20, 21, 22, 23, 24, 25, 26, 27, 6, 28, 29, 30, 31, 32, 33, 34, 35, 36, 37, 38, 39, 40, 41, 42, 43, 44, 45, 46, 47, 48, 49, 50, 51, 52, 53, 54, 55, 56, 57, 58, 59] (by decide +kernel) (by decide +kernel)
set_option maxRecDepth 20000 in
theorem gX4_best_X4_joyOn : GoodIn wsX4_best (wsV RX4 161 RX4 yX4_joyOn wsX4_joyOn) := goodIn_app (goodIn_of _ (by decide +kernel)) ggX4_best_X4_joyOn
theorem dX4_best_0 : decode cX4_best 0 = .ok (.aload_n 0, 1) := by decide +kernel
theorem dX4_best_1 : decode cX4_best 1 = .ok (.iload_n 1, 1) := by decide +kernel
theorem dX4_best_2 : decode cX4_best 2 = .ok (.invokevirtual 125, 3) := by decide +kernel
theorem dX4_best_5 : decode cX4_best 5 = .ok (.iconst (-1), 1) := by decide +kernel
theorem dX4_best_6 : decode cX4_best 6 = .ok (.istore_n 2, 1) := by decide +kernel
theorem dX4_best_7 : decode cX4_best 7 = .ok (.iconst 0, 1) := by decide +kernel
theorem dX4_best_8 : decode cX4_best 8 = .ok (.istore_n 3, 1) := by decide +kernel
theorem dX4_best_9 : decode cX4_best 9 = .ok (.iconst 0, 1) := by decide +kernel
theorem dX4_best_10 : decode cX4_best 10 = .ok (.istore 4, 2) := by decide +kernel
theorem dX4_best_12 : decode cX4_best 12 = .ok (.iload 4, 2) := by decide +kernel
theorem dX4_best_14 : decode cX4_best 14 = .ok (.bipush 120, 2) := by decide +kernel
theorem dX4_best_16 : decode cX4_best 16 = .ok (.if_icmp .ge 45, 3) := by decide +kernel
theorem dX4_best_19 : decode cX4_best 19 = .ok (.aload_n 0, 1) := by decide +kernel
theorem dX4_best_20 : decode cX4_best 20 = .ok (.aload_n 0, 1) := by decide +kernel
theorem dX4_best_21 : decode cX4_best 21 = .ok (.getfield 17, 3) := by decide +kernel
theorem dX4_best_24 : decode cX4_best 24 = .ok (.iload_n 1, 1) := by decide +kernel
theorem dX4_best_25 : decode cX4_best 25 = .ok (.aaload, 1) := by decide +kernel
theorem dX4_best_26 : decode cX4_best 26 = .ok (.aload_n 0, 1) := by decide +kernel
theorem dX4_best_27 : decode cX4_best 27 = .ok (.getfield 158, 3) := by decide +kernel
theorem dX4_best_30 : decode cX4_best 30 = .ok (.iload 4, 2) := by decide +kernel
theorem dX4_best_32 : decode cX4_best 32 = .ok (.iadd, 1) := by decide +kernel
theorem dX4_best_33 : decode cX4_best 33 = .ok (.invokevirtual 161, 3) := by decide +kernel
theorem dX4_best_36 : decode cX4_best 36 = .ok (.istore 5, 2) := by decide +kernel
theorem dX4_best_38 : decode cX4_best 38 = .ok (.iload 5, 2) := by decide +kernel
theorem dX4_best_40 : decode cX4_best 40 = .ok (.iload_n 3, 1) := by decide +kernel
theorem dX4_best_41 : decode cX4_best 41 = .ok (.if_icmp .le 14, 3) := by decide +kernel
theorem dX4_best_44 : decode cX4_best 44 = .ok (.iload 5, 2) := by decide +kernel
theorem dX4_best_46 : decode cX4_best 46 = .ok (.istore_n 3, 1) := by decide +kernel
theorem dX4_best_47 : decode cX4_best 47 = .ok (.aload_n 0, 1) := by decide +kernel
theorem dX4_best_48 : decode cX4_best 48 = .ok (.getfield 158, 3) := by decide +kernel
theorem dX4_best_51 : decode cX4_best 51 = .ok (.iload 4, 2) := by decide +kernel
theorem dX4_best_53 : decode cX4_best 53 = .ok (.iadd, 1) := by decide +kernel
theorem dX4_best_54 : decode cX4_best 54 = .ok (.istore_n 2, 1) := by decide +kernel
theorem dX4_best_55 : decode cX4_best 55 = .ok (.iinc 4 1, 3) := by decide +kernel
theorem dX4_best_58 : decode cX4_best 58 = .ok (.goto (-46), 3) := by decide +kernel
theorem dX4_best_61 : decode cX4_best 61 = .ok (.iload_n 2, 1) := by decide +kernel
theorem dX4_best_62 : decode cX4_best 62 = .ok (.ireturn, 1) := by decide +kernel
set_option maxRecDepth 20000 in
theorem ggX4_advise_X4_checkTour : GoodIn wsX4_advise wsX4_checkTour := goodIn_ca (goodIn_r _ [8, 9, 10, 11, 77, 78, 79, 80, 81, 82, 83, 84, 85] (by decide +kernel) (by decide +kernel)) (goodIn_sub (fun _ h => List.mem_cons_of_mem _ (List.mem_append_right _ h)) (by decide +kernel))
set_option maxRecDepth 20000 in
theorem gX4_advise_X4_checkTour : GoodIn wsX4_advise (wsV RX4 125 RX4 yX4_checkTour wsX4_checkTour) := goodIn_app (goodIn_of _ (by decide +kernel)) ggX4_advise_X4_checkTour
set_option maxRecDepth 20000 in
theorem ggX4_advise_X2_isFull : GoodIn wsX4_advise wsX2_isFull := goodIn_r _ [15, 16, 17, 86, 87, 88, 89] (by decide +kernel) (by decide +kernel)
set_option maxRecDepth 20000 in
theorem gX4_advise_X2_isFull_n128 : GoodIn wsX4_advise (wsX2_isFull) := ggX4_advise_X2_isFull
set_option maxRecDepth 20000 in
theorem ggX4_advise_X4_joyOn : GoodIn wsX4_advise wsX4_joyOn := goodIn_r _ [21, 3, 22, 23, 24, 25, 26, 27, 13, 28, 29, 16, 30, 31, 7, 32, 33, 34, 35, 17, 36, 37, 38, 39, 40, 41, 42, 43, 44, 77, 78, 79, 80, 81, 82, 83, 84, 85, 90, 91, 92, 93, 94, 86, 87, 88, 89] (by decide +kernel) (by decide +kernel)
set_option maxRecDepth 20000 in
theorem gX4_advise_X4_joyOn : GoodIn wsX4_advise (wsV RX4 161 RX4 yX4_joyOn wsX4_joyOn) := goodIn_app (goodIn_of _ (by decide +kernel)) ggX4_advise_X4_joyOn
set_option maxRecDepth 20000 in
theorem ggX4_advise_X2_visits : GoodIn wsX4_advise wsX2_visits := goodIn_r _ [35, 16, 17, 86, 87, 88, 89] (by decide +kernel) (by decide +kernel)
set_option maxRecDepth 20000 in
theorem gX4_advise_X2_visits_n134 : GoodIn wsX4_advise (wsX2_visits) := ggX4_advise_X2_visits
set_option maxRecDepth 20000 in
theorem ggX4_advise_X4_joyWithStopAdded : GoodIn wsX4_advise wsX4_joyWithStopAdded := goodIn_r _ [48, 2, 49, 13, 50, 51, 17, 16, 52, 12, 14, 15, 53, 54, 55, 7, 56, 3, 22, 11, 1, 57, 58, 59, 60, 30, 61, 62, 63, 64, 65, 66, 67, 68, 69, 31, 32, 27, 28, 29, 70, 71, 72, 73, 33, 34, 35, 18, 19, 20, 21, 23, 24, 25, 26, 36, 37, 38, 39, 40, 41, 42, 43, 44, 74, 75, 76, 77, 78, 79, 80, 81, 82, 83, 84, 85, 86, 87, 88, 89, 90, 91, 92, 93, 94, 95, 96] (by decide +kernel) (by decide +kernel)
set_option maxRecDepth 20000 in
theorem gX4_advise_X4_joyWithStopAdded : GoodIn wsX4_advise (wsV RX4 200 RX4 yX4_joyWithStopAdded wsX4_joyWithStopAdded) := goodIn_app (goodIn_of _ (by decide +kernel)) ggX4_advise_X4_joyWithStopAdded
theorem dX4_advise_0 : decode cX4_advise 0 = .ok (.aload_n 0, 1) := by decide +kernel
theorem dX4_advise_1 : decode cX4_advise 1 = .ok (.iload_n 1, 1) := by decide +kernel
theorem dX4_advise_2 : decode cX4_advise 2 = .ok (.invokevirtual 125, 3) := by decide +kernel
theorem dX4_advise_5 : decode cX4_advise 5 = .ok (.aload_n 0, 1) := by decide +kernel
theorem dX4_advise_6 : decode cX4_advise 6 = .ok (.getfield 17, 3) := by decide +kernel
theorem dX4_advise_9 : decode cX4_advise 9 = .ok (.iload_n 1, 1) := by decide +kernel
theorem dX4_advise_10 : decode cX4_advise 10 = .ok (.aaload, 1) := by decide +kernel
theorem dX4_advise_11 : decode cX4_advise 11 = .ok (.astore_n 2, 1) := by decide +kernel
theorem dX4_advise_12 : decode cX4_advise 12 = .ok (.aload_n 2, 1) := by decide +kernel
theorem dX4_advise_13 : decode cX4_advise 13 = .ok (.invokevirtual 128, 3) := by decide +kernel
theorem dX4_advise_16 : decode cX4_advise 16 = .ok (.ifCond .eq 5, 3) := by decide +kernel
theorem dX4_advise_19 : decode cX4_advise 19 = .ok (.iconst (-1), 1) := by decide +kernel
theorem dX4_advise_20 : decode cX4_advise 20 = .ok (.ireturn, 1) := by decide +kernel
theorem dX4_advise_21 : decode cX4_advise 21 = .ok (.iconst (-1), 1) := by decide +kernel
theorem dX4_advise_22 : decode cX4_advise 22 = .ok (.istore_n 3, 1) := by decide +kernel
theorem dX4_advise_23 : decode cX4_advise 23 = .ok (.aload_n 0, 1) := by decide +kernel
theorem dX4_advise_24 : decode cX4_advise 24 = .ok (.aload_n 2, 1) := by decide +kernel
theorem dX4_advise_25 : decode cX4_advise 25 = .ok (.aload_n 0, 1) := by decide +kernel
theorem dX4_advise_26 : decode cX4_advise 26 = .ok (.getfield 158, 3) := by decide +kernel
theorem dX4_advise_29 : decode cX4_advise 29 = .ok (.invokevirtual 161, 3) := by decide +kernel
theorem dX4_advise_32 : decode cX4_advise 32 = .ok (.istore 4, 2) := by decide +kernel
theorem dX4_advise_34 : decode cX4_advise 34 = .ok (.iconst 0, 1) := by decide +kernel
theorem dX4_advise_35 : decode cX4_advise 35 = .ok (.istore 5, 2) := by decide +kernel
theorem dX4_advise_37 : decode cX4_advise 37 = .ok (.iload 5, 2) := by decide +kernel
theorem dX4_advise_39 : decode cX4_advise 39 = .ok (.aload_n 0, 1) := by decide +kernel
theorem dX4_advise_40 : decode cX4_advise 40 = .ok (.getfield 59, 3) := by decide +kernel
theorem dX4_advise_43 : decode cX4_advise 43 = .ok (.if_icmp .ge 45, 3) := by decide +kernel
theorem dX4_advise_46 : decode cX4_advise 46 = .ok (.aload_n 2, 1) := by decide +kernel
theorem dX4_advise_47 : decode cX4_advise 47 = .ok (.iload 5, 2) := by decide +kernel
theorem dX4_advise_49 : decode cX4_advise 49 = .ok (.invokevirtual 134, 3) := by decide +kernel
theorem dX4_advise_52 : decode cX4_advise 52 = .ok (.ifCond .eq 7, 3) := by decide +kernel
theorem dX4_advise_55 : decode cX4_advise 55 = .ok (.iconst 0, 1) := by decide +kernel
theorem dX4_advise_56 : decode cX4_advise 56 = .ok (.goto 10, 3) := by decide +kernel
theorem dX4_advise_59 : decode cX4_advise 59 = .ok (.aload_n 0, 1) := by decide +kernel
theorem dX4_advise_60 : decode cX4_advise 60 = .ok (.aload_n 2, 1) := by decide +kernel
theorem dX4_advise_61 : decode cX4_advise 61 = .ok (.iload 5, 2) := by decide +kernel
theorem dX4_advise_63 : decode cX4_advise 63 = .ok (.invokevirtual 200, 3) := by decide +kernel
end
section
theorem dX4_advise_66 : decode cX4_advise 66 = .ok (.istore 6, 2) := by decide +kernel
theorem dX4_advise_68 : decode cX4_advise 68 = .ok (.iload 6, 2) := by decide +kernel
theorem dX4_advise_70 : decode cX4_advise 70 = .ok (.iload 4, 2) := by decide +kernel
theorem dX4_advise_72 : decode cX4_advise 72 = .ok (.if_icmp .le 10, 3) := by decide +kernel
theorem dX4_advise_75 : decode cX4_advise 75 = .ok (.iload 6, 2) := by decide +kernel
theorem dX4_advise_77 : decode cX4_advise 77 = .ok (.istore 4, 2) := by decide +kernel
theorem dX4_advise_79 : decode cX4_advise 79 = .ok (.iload 5, 2) := by decide +kernel
theorem dX4_advise_81 : decode cX4_advise 81 = .ok (.istore_n 3, 1) := by decide +kernel
theorem dX4_advise_82 : decode cX4_advise 82 = .ok (.iinc 5 1, 3) := by decide +kernel
theorem dX4_advise_85 : decode cX4_advise 85 = .ok (.goto (-48), 3) := by decide +kernel
theorem dX4_advise_88 : decode cX4_advise 88 = .ok (.iload_n 3, 1) := by decide +kernel
theorem dX4_advise_89 : decode cX4_advise 89 = .ok (.ireturn, 1) := by decide +kernel
set_option maxRecDepth 20000 in
theorem ggX4_foresee_X4_checkSpan : GoodIn wsX4_foresee wsX4_checkSpan := goodIn_ca (goodIn_r _ [9, 10, 11, 12, 13, 8, 14] (by decide +kernel) (by decide +kernel)) (goodIn_sub (fun _ h => List.mem_cons_of_mem _ (List.mem_append_right _ h)) (by decide +kernel))
set_option maxRecDepth 20000 in
theorem gX4_foresee_X4_checkSpan : GoodIn wsX4_foresee (va_wsS RX4 193 yX4_checkSpan wsX4_checkSpan) := goodIn_app (goodIn_of _ (by decide +kernel)) ggX4_foresee_X4_checkSpan
set_option maxRecDepth 20000 in
theorem ggX4_foresee_X0_copyFrom : GoodIn wsX4_foresee wsX0_copyFrom := goodIn_r _ [18, 19, 20, 21, 83, 84, 85] (by decide +kernel) (by decide +kernel)
set_option maxRecDepth 20000 in
theorem gX4_foresee_X0_copyFrom_n203 : GoodIn wsX4_foresee (wsX0_copyFrom) := ggX4_foresee_X0_copyFrom
set_option maxRecDepth 20000 in
theorem ggX4_foresee_X4_enterDays : GoodIn wsX4_foresee wsX4_enterDays := goodIn_r _ [25, 5, 26, 27, 28, 8, 29, 30, 31, 32, 33, 34, 35, 36, 37, 38, 39, 40, 41, 42, 13, 14, 43, 44, 45, 46, 47, 48, 49, 50, 51, 52, 53, 54, 55, 56, 57, 58, 59, 60, 61, 62, 63, 64, 65, 66, 67, 68, 69, 74, 75, 76, 77, 78, 79, 80, 81, 82, 83, 84, 85, 86, 87, 88, 89, 90, 91, 92, 93, 94] (by decide +kernel) (by decide +kernel)
set_option maxRecDepth 20000 in
theorem gX4_foresee_X4_enterDays : GoodIn wsX4_foresee (wsV RX4 196 RX4 yX4_enterDays wsX4_enterDays) := goodIn_app (goodIn_of _ (by decide +kernel)) ggX4_foresee_X4_enterDays
set_option maxRecDepth 20000 in
theorem ggX4_foresee_X4_valleysInBloomOn : GoodIn wsX4_foresee wsX4_valleysInBloomOn := goodIn_r _ [73, 47, 48, 57, 58, 59, 60, 61, 62, 63, 64, 51, 65, 74, 75, 76, 77, 78, 79, 80, 81, 82, 90, 91, 92, 93, 94] (by decide +kernel) (by decide +kernel)
set_option maxRecDepth 20000 in
theorem gX4_foresee_X4_valleysInBloomOn : GoodIn wsX4_foresee (wsV RX4 179 RX4 yX4_valleysInBloomOn wsX4_valleysInBloomOn) := goodIn_app (goodIn_of _ (by decide +kernel)) ggX4_foresee_X4_valleysInBloomOn
theorem dX4_foresee_0 : decode cX4_foresee 0 = .ok (.iload_n 1, 1) := by decide +kernel
theorem dX4_foresee_1 : decode cX4_foresee 1 = .ok (.invokestatic 193, 3) := by decide +kernel
theorem dX4_foresee_4 : decode cX4_foresee 4 = .ok (.aload_n 0, 1) := by decide +kernel
theorem dX4_foresee_5 : decode cX4_foresee 5 = .ok (.getfield 39, 3) := by decide +kernel
theorem dX4_foresee_8 : decode cX4_foresee 8 = .ok (.aload_n 0, 1) := by decide +kernel
theorem dX4_foresee_9 : decode cX4_foresee 9 = .ok (.getfield 35, 3) := by decide +kernel
theorem dX4_foresee_12 : decode cX4_foresee 12 = .ok (.invokevirtual 203, 3) := by decide +kernel
theorem dX4_foresee_15 : decode cX4_foresee 15 = .ok (.aload_n 0, 1) := by decide +kernel
theorem dX4_foresee_16 : decode cX4_foresee 16 = .ok (.aload_n 0, 1) := by decide +kernel
theorem dX4_foresee_17 : decode cX4_foresee 17 = .ok (.getfield 39, 3) := by decide +kernel
theorem dX4_foresee_20 : decode cX4_foresee 20 = .ok (.iload_n 1, 1) := by decide +kernel
theorem dX4_foresee_21 : decode cX4_foresee 21 = .ok (.invokevirtual 196, 3) := by decide +kernel
theorem dX4_foresee_24 : decode cX4_foresee 24 = .ok (.iload_n 2, 1) := by decide +kernel
theorem dX4_foresee_25 : decode cX4_foresee 25 = .ok (.tableswitch 66 5 8 #[31, 42, 50, 58], 31) := by decide +kernel
theorem dX4_foresee_56 : decode cX4_foresee 56 = .ok (.aload_n 0, 1) := by decide +kernel
theorem dX4_foresee_57 : decode cX4_foresee 57 = .ok (.aload_n 0, 1) := by decide +kernel
theorem dX4_foresee_58 : decode cX4_foresee 58 = .ok (.getfield 158, 3) := by decide +kernel
theorem dX4_foresee_61 : decode cX4_foresee 61 = .ok (.iload_n 1, 1) := by decide +kernel
theorem dX4_foresee_62 : decode cX4_foresee 62 = .ok (.iadd, 1) := by decide +kernel
theorem dX4_foresee_63 : decode cX4_foresee 63 = .ok (.invokevirtual 179, 3) := by decide +kernel
theorem dX4_foresee_66 : decode cX4_foresee 66 = .ok (.ireturn, 1) := by decide +kernel
theorem dX4_foresee_67 : decode cX4_foresee 67 = .ok (.aload_n 0, 1) := by decide +kernel
theorem dX4_foresee_68 : decode cX4_foresee 68 = .ok (.getfield 39, 3) := by decide +kernel
theorem dX4_foresee_71 : decode cX4_foresee 71 = .ok (.getfield 182, 3) := by decide +kernel
theorem dX4_foresee_74 : decode cX4_foresee 74 = .ok (.ireturn, 1) := by decide +kernel
theorem dX4_foresee_75 : decode cX4_foresee 75 = .ok (.aload_n 0, 1) := by decide +kernel
theorem dX4_foresee_76 : decode cX4_foresee 76 = .ok (.getfield 39, 3) := by decide +kernel
theorem dX4_foresee_79 : decode cX4_foresee 79 = .ok (.getfield 185, 3) := by decide +kernel
theorem dX4_foresee_82 : decode cX4_foresee 82 = .ok (.ireturn, 1) := by decide +kernel
theorem dX4_foresee_83 : decode cX4_foresee 83 = .ok (.aload_n 0, 1) := by decide +kernel
theorem dX4_foresee_84 : decode cX4_foresee 84 = .ok (.getfield 39, 3) := by decide +kernel
theorem dX4_foresee_87 : decode cX4_foresee 87 = .ok (.getfield 188, 3) := by decide +kernel
theorem dX4_foresee_90 : decode cX4_foresee 90 = .ok (.ireturn, 1) := by decide +kernel
theorem dX4_foresee_91 : decode cX4_foresee 91 = .ok (.new 97, 3) := by decide +kernel
theorem dX4_foresee_94 : decode cX4_foresee 94 = .ok (.dup, 1) := by decide +kernel
theorem dX4_foresee_95 : decode cX4_foresee 95 = .ok (.ldc 207, 2) := by decide +kernel
theorem dX4_foresee_97 : decode cX4_foresee 97 = .ok (.invokespecial 101, 3) := by decide +kernel
theorem dX4_foresee_100 : decode cX4_foresee 100 = .ok (.athrow, 1) := by decide +kernel
set_option maxRecDepth 20000 in
theorem ggX4_mean_X3_bloomOn : GoodIn wsX4_mean wsX3_bloomOn := goodIn_r _ [7, 8, 9, 10, 11, 12, 13, 23, 24, 25, 26, 27] (by decide +kernel) (by decide +kernel)
set_option maxRecDepth 20000 in
theorem gX4_mean_X3_bloomOn_n107 : GoodIn wsX4_mean (wsX3_bloomOn) := ggX4_mean_X3_bloomOn
theorem dX4_mean_0 : decode cX4_mean 0 = .ok (.aload_n 0, 1) := by decide +kernel
theorem dX4_mean_1 : decode cX4_mean 1 = .ok (.getfield 59, 3) := by decide +kernel
theorem dX4_mean_4 : decode cX4_mean 4 = .ok (.ifCond .gt 5, 3) := by decide +kernel
theorem dX4_mean_7 : decode cX4_mean 7 = .ok (.dconst 0, 1) := by decide +kernel
theorem dX4_mean_8 : decode cX4_mean 8 = .ok (.dreturn, 1) := by decide +kernel
theorem dX4_mean_9 : decode cX4_mean 9 = .ok (.iconst 0, 1) := by decide +kernel
theorem dX4_mean_10 : decode cX4_mean 10 = .ok (.istore_n 1, 1) := by decide +kernel
theorem dX4_mean_11 : decode cX4_mean 11 = .ok (.iconst 0, 1) := by decide +kernel
theorem dX4_mean_12 : decode cX4_mean 12 = .ok (.istore_n 2, 1) := by decide +kernel
theorem dX4_mean_13 : decode cX4_mean 13 = .ok (.iload_n 2, 1) := by decide +kernel
theorem dX4_mean_14 : decode cX4_mean 14 = .ok (.aload_n 0, 1) := by decide +kernel
theorem dX4_mean_15 : decode cX4_mean 15 = .ok (.getfield 59, 3) := by decide +kernel
theorem dX4_mean_18 : decode cX4_mean 18 = .ok (.if_icmp .ge 25, 3) := by decide +kernel
theorem dX4_mean_21 : decode cX4_mean 21 = .ok (.iload_n 1, 1) := by decide +kernel
theorem dX4_mean_22 : decode cX4_mean 22 = .ok (.aload_n 0, 1) := by decide +kernel
theorem dX4_mean_23 : decode cX4_mean 23 = .ok (.getfield 11, 3) := by decide +kernel
theorem dX4_mean_26 : decode cX4_mean 26 = .ok (.iload_n 2, 1) := by decide +kernel
theorem dX4_mean_27 : decode cX4_mean 27 = .ok (.aaload, 1) := by decide +kernel
theorem dX4_mean_28 : decode cX4_mean 28 = .ok (.aload_n 0, 1) := by decide +kernel
theorem dX4_mean_29 : decode cX4_mean 29 = .ok (.getfield 158, 3) := by decide +kernel
theorem dX4_mean_32 : decode cX4_mean 32 = .ok (.invokevirtual 107, 3) := by decide +kernel
theorem dX4_mean_35 : decode cX4_mean 35 = .ok (.iadd, 1) := by decide +kernel
theorem dX4_mean_36 : decode cX4_mean 36 = .ok (.istore_n 1, 1) := by decide +kernel
theorem dX4_mean_37 : decode cX4_mean 37 = .ok (.iinc 2 1, 3) := by decide +kernel
theorem dX4_mean_40 : decode cX4_mean 40 = .ok (.goto (-27), 3) := by decide +kernel
theorem dX4_mean_43 : decode cX4_mean 43 = .ok (.iload_n 1, 1) := by decide +kernel
theorem dX4_mean_44 : decode cX4_mean 44 = .ok (.i2d, 1) := by decide +kernel
theorem dX4_mean_45 : decode cX4_mean 45 = .ok (.aload_n 0, 1) := by decide +kernel
theorem dX4_mean_46 : decode cX4_mean 46 = .ok (.getfield 59, 3) := by decide +kernel
theorem dX4_mean_49 : decode cX4_mean 49 = .ok (.i2d, 1) := by decide +kernel
theorem dX4_mean_50 : decode cX4_mean 50 = .ok (.ddiv, 1) := by decide +kernel
theorem dX4_mean_51 : decode cX4_mean 51 = .ok (.dreturn, 1) := by decide +kernel
set_option maxRecDepth 20000 in
theorem ggX4_digest_X4_count : GoodIn wsX4_digest wsX4_count := goodIn_ca (goodIn_r _ [9, 10, 11, 12, 3, 13, 4, 14, 15, 16, 17, 8, 18, 19, 20, 21, 22, 23, 24, 25, 26, 27, 28, 29, 30, 31, 32, 33, 34, 35, 36, 37, 38, 39, 40, 41, 42, 95, 96, 97, 98, 99, 100, 101, 102, 103, 104, 105, 106, 107, 108, 109, 110, 111, 112, 113, 114, 115, 116, 117] (by decide +kernel) (by decide +kernel)) (goodIn_sub (fun _ h => List.mem_cons_of_mem _ (List.mem_append_right _ h)) (by decide +kernel))
set_option maxRecDepth 20000 in
theorem gX4_digest_X4_count : GoodIn wsX4_digest (wsV RX4 211 RX4 yX4_count wsX4_count) := goodIn_app (goodIn_of _ (by decide +kernel)) ggX4_digest_X4_count
set_option maxRecDepth 20000 in
theorem ggX4_digest_X4_mixed : GoodIn wsX4_digest wsX4_mixed := goodIn_r _ [45, 46] (by decide +kernel) (by decide +kernel)
set_option maxRecDepth 20000 in
theorem gX4_digest_X4_mixed : GoodIn wsX4_digest (va_wsS RX4 214 yX4_mixed wsX4_mixed) := goodIn_app (goodIn_of _ (by decide +kernel)) ggX4_digest_X4_mixed
set_option maxRecDepth 20000 in
theorem ggX4_digest_X4_mixedWithValley : GoodIn wsX4_digest wsX4_mixedWithValley := goodIn_ca (goodIn_r _ [50, 3, 13, 51, 52, 53, 8, 54, 10, 11, 32, 12, 55, 56, 57, 58, 33, 34, 35, 36, 37, 38, 39, 40, 41, 42, 43, 44, 45, 46, 59, 60, 61, 62, 63, 64, 65, 66, 67, 26, 27, 95, 96, 97, 98, 99, 100, 101, 102, 103, 113, 114, 115, 116, 117, 104, 105] (by decide +kernel) (by decide +kernel)) (goodIn_sub (fun _ h => List.mem_cons_of_mem _ (List.mem_append_right _ h)) (by decide +kernel))
set_option maxRecDepth 20000 in
theorem gX4_digest_X4_mixedWithValley : GoodIn wsX4_digest (wsV RX4 218 RX4 yX4_mixedWithValley wsX4_mixedWithValley) := goodIn_app (goodIn_of _ (by decide +kernel)) ggX4_digest_X4_mixedWithValley
set_option maxRecDepth 20000 in
theorem ggX4_digest_X4_mixedWithTour : GoodIn wsX4_digest wsX4_mixedWithTour := goodIn_ca (goodIn_r _ [71, 19, 72, 73, 74, 8, 75, 10, 11, 12, 76, 77, 78, 79, 4, 20, 21, 22, 23, 24, 25, 26, 27, 80, 81, 82, 83, 3, 32, 84, 85, 41, 86, 87, 88, 89, 90, 33, 34, 35, 36, 37, 38, 39, 40, 42, 91, 92, 93, 94, 43, 44, 45, 46, 95, 96, 97, 98, 99, 100, 101, 102, 103, 109, 110, 111, 112, 113, 114, 115, 116, 117] (by decide +kernel) (by decide +kernel)) (goodIn_sub (fun _ h => List.mem_cons_of_mem _ (List.mem_append_right _ h)) (by decide +kernel))
set_option maxRecDepth 20000 in
theorem gX4_digest_X4_mixedWithTour : GoodIn wsX4_digest (wsV RX4 222 RX4 yX4_mixedWithTour wsX4_mixedWithTour) := goodIn_app (goodIn_of _ (by decide +kernel)) ggX4_digest_X4_mixedWithTour
theorem dX4_digest_0 : decode cX4_digest 0 = .ok (.ldc2_w 209, 3) := by decide +kernel
theorem dX4_digest_3 : decode cX4_digest 3 = .ok (.lstore_n 1, 1) := by decide +kernel
theorem dX4_digest_4 : decode cX4_digest 4 = .ok (.iconst 0, 1) := by decide +kernel
theorem dX4_digest_5 : decode cX4_digest 5 = .ok (.istore_n 3, 1) := by decide +kernel
theorem dX4_digest_6 : decode cX4_digest 6 = .ok (.iload_n 3, 1) := by decide +kernel
theorem dX4_digest_7 : decode cX4_digest 7 = .ok (.bipush 9, 2) := by decide +kernel
theorem dX4_digest_9 : decode cX4_digest 9 = .ok (.if_icmp .ge 20, 3) := by decide +kernel
theorem dX4_digest_12 : decode cX4_digest 12 = .ok (.lload_n 1, 1) := by decide +kernel
theorem dX4_digest_13 : decode cX4_digest 13 = .ok (.aload_n 0, 1) := by decide +kernel
theorem dX4_digest_14 : decode cX4_digest 14 = .ok (.iload_n 3, 1) := by decide +kernel
theorem dX4_digest_15 : decode cX4_digest 15 = .ok (.invokevirtual 211, 3) := by decide +kernel
theorem dX4_digest_18 : decode cX4_digest 18 = .ok (.i2l, 1) := by decide +kernel
theorem dX4_digest_19 : decode cX4_digest 19 = .ok (.invokestatic 214, 3) := by decide +kernel
theorem dX4_digest_22 : decode cX4_digest 22 = .ok (.lstore_n 1, 1) := by decide +kernel
theorem dX4_digest_23 : decode cX4_digest 23 = .ok (.iinc 3 1, 3) := by decide +kernel
theorem dX4_digest_26 : decode cX4_digest 26 = .ok (.goto (-20), 3) := by decide +kernel
theorem dX4_digest_29 : decode cX4_digest 29 = .ok (.iconst 0, 1) := by decide +kernel
theorem dX4_digest_30 : decode cX4_digest 30 = .ok (.istore_n 3, 1) := by decide +kernel
theorem dX4_digest_31 : decode cX4_digest 31 = .ok (.iload_n 3, 1) := by decide +kernel
theorem dX4_digest_32 : decode cX4_digest 32 = .ok (.aload_n 0, 1) := by decide +kernel
theorem dX4_digest_33 : decode cX4_digest 33 = .ok (.getfield 21, 3) := by decide +kernel
theorem dX4_digest_36 : decode cX4_digest 36 = .ok (.arraylength, 1) := by decide +kernel
theorem dX4_digest_37 : decode cX4_digest 37 = .ok (.if_icmp .ge 21, 3) := by decide +kernel
theorem dX4_digest_40 : decode cX4_digest 40 = .ok (.lload_n 1, 1) := by decide +kernel
theorem dX4_digest_41 : decode cX4_digest 41 = .ok (.aload_n 0, 1) := by decide +kernel
theorem dX4_digest_42 : decode cX4_digest 42 = .ok (.getfield 21, 3) := by decide +kernel
theorem dX4_digest_45 : decode cX4_digest 45 = .ok (.iload_n 3, 1) := by decide +kernel
theorem dX4_digest_46 : decode cX4_digest 46 = .ok (.iaload, 1) := by decide +kernel
theorem dX4_digest_47 : decode cX4_digest 47 = .ok (.i2l, 1) := by decide +kernel
theorem dX4_digest_48 : decode cX4_digest 48 = .ok (.invokestatic 214, 3) := by decide +kernel
theorem dX4_digest_51 : decode cX4_digest 51 = .ok (.lstore_n 1, 1) := by decide +kernel
theorem dX4_digest_52 : decode cX4_digest 52 = .ok (.iinc 3 1, 3) := by decide +kernel
theorem dX4_digest_55 : decode cX4_digest 55 = .ok (.goto (-24), 3) := by decide +kernel
theorem dX4_digest_58 : decode cX4_digest 58 = .ok (.iconst 0, 1) := by decide +kernel
theorem dX4_digest_59 : decode cX4_digest 59 = .ok (.istore_n 3, 1) := by decide +kernel
theorem dX4_digest_60 : decode cX4_digest 60 = .ok (.iload_n 3, 1) := by decide +kernel
theorem dX4_digest_61 : decode cX4_digest 61 = .ok (.aload_n 0, 1) := by decide +kernel
theorem dX4_digest_62 : decode cX4_digest 62 = .ok (.getfield 59, 3) := by decide +kernel
theorem dX4_digest_65 : decode cX4_digest 65 = .ok (.if_icmp .ge 16, 3) := by decide +kernel
theorem dX4_digest_68 : decode cX4_digest 68 = .ok (.aload_n 0, 1) := by decide +kernel
theorem dX4_digest_69 : decode cX4_digest 69 = .ok (.lload_n 1, 1) := by decide +kernel
theorem dX4_digest_70 : decode cX4_digest 70 = .ok (.iload_n 3, 1) := by decide +kernel
theorem dX4_digest_71 : decode cX4_digest 71 = .ok (.invokevirtual 218, 3) := by decide +kernel
theorem dX4_digest_74 : decode cX4_digest 74 = .ok (.lstore_n 1, 1) := by decide +kernel
theorem dX4_digest_75 : decode cX4_digest 75 = .ok (.iinc 3 1, 3) := by decide +kernel
theorem dX4_digest_78 : decode cX4_digest 78 = .ok (.goto (-18), 3) := by decide +kernel
theorem dX4_digest_81 : decode cX4_digest 81 = .ok (.iconst 0, 1) := by decide +kernel
theorem dX4_digest_82 : decode cX4_digest 82 = .ok (.istore_n 3, 1) := by decide +kernel
theorem dX4_digest_83 : decode cX4_digest 83 = .ok (.iload_n 3, 1) := by decide +kernel
theorem dX4_digest_84 : decode cX4_digest 84 = .ok (.aload_n 0, 1) := by decide +kernel
theorem dX4_digest_85 : decode cX4_digest 85 = .ok (.getfield 117, 3) := by decide +kernel
theorem dX4_digest_88 : decode cX4_digest 88 = .ok (.if_icmp .ge 16, 3) := by decide +kernel
theorem dX4_digest_91 : decode cX4_digest 91 = .ok (.aload_n 0, 1) := by decide +kernel
theorem dX4_digest_92 : decode cX4_digest 92 = .ok (.lload_n 1, 1) := by decide +kernel
theorem dX4_digest_93 : decode cX4_digest 93 = .ok (.iload_n 3, 1) := by decide +kernel
theorem dX4_digest_94 : decode cX4_digest 94 = .ok (.invokevirtual 222, 3) := by decide +kernel
theorem dX4_digest_97 : decode cX4_digest 97 = .ok (.lstore_n 1, 1) := by decide +kernel
theorem dX4_digest_98 : decode cX4_digest 98 = .ok (.iinc 3 1, 3) := by decide +kernel
theorem dX4_digest_101 : decode cX4_digest 101 = .ok (.goto (-18), 3) := by decide +kernel
theorem dX4_digest_104 : decode cX4_digest 104 = .ok (.lload_n 1, 1) := by decide +kernel
theorem dX4_digest_105 : decode cX4_digest 105 = .ok (.lreturn, 1) := by decide +kernel
set_option maxRecDepth 20000 in
theorem ggX4_mixedWithValley_X4_about : GoodIn wsX4_mixedWithValley wsX4_about := goodIn_ca (goodIn_r _ [7, 8, 9, 10, 11, 12, 13, 14, 6, 15, 1, 16, 17, 18, 19, 20, 21, 22, 23, 24, 25, 41, 42, 43, 44, 45, 46, 47, 48, 49, 50, 51, 52, 53, 54] (by decide +kernel) (by decide +kernel)) (goodIn_sub (fun _ h => List.mem_cons_of_mem _ (List.mem_append_right _ h)) (by decide +kernel))
set_option maxRecDepth 20000 in
theorem gX4_mixedWithValley_X4_about : GoodIn wsX4_mixedWithValley (wsV RX4 225 RX4 yX4_about wsX4_about) := goodIn_app (goodIn_of _ (by decide +kernel)) ggX4_mixedWithValley_X4_about
set_option maxRecDepth 20000 in
theorem ggX4_mixedWithValley_X4_mixed : GoodIn wsX4_mixedWithValley wsX4_mixed := goodIn_r _ [28, 29] (by decide +kernel) (by decide +kernel)
set_option maxRecDepth 20000 in
theorem gX4_mixedWithValley_X4_mixed : GoodIn wsX4_mixedWithValley (va_wsS RX4 214 yX4_mixed wsX4_mixed) := goodIn_app (goodIn_of _ (by decide +kernel)) ggX4_mixedWithValley_X4_mixed
set_option maxRecDepth 20000 in
theorem ggX4_mixedWithValley_X1_minutesBetween : GoodIn wsX4_mixedWithValley wsX1_minutesBetween := goodIn_r _ [33, 34, 35, 36, 37, 31, 38, 39, 6, 40, 55, 56] (by decide +kernel) (by decide +kernel)
set_option maxRecDepth 20000 in
theorem gX4_mixedWithValley_X1_minutesBetween_n111 : GoodIn wsX4_mixedWithValley (wsX1_minutesBetween) := ggX4_mixedWithValley_X1_minutesBetween
theorem dX4_mixedWithValley_0 : decode cX4_mixedWithValley 0 = .ok (.lload_n 1, 1) := by decide +kernel
theorem dX4_mixedWithValley_1 : decode cX4_mixedWithValley 1 = .ok (.lstore 4, 2) := by decide +kernel
theorem dX4_mixedWithValley_3 : decode cX4_mixedWithValley 3 = .ok (.iconst 0, 1) := by decide +kernel
theorem dX4_mixedWithValley_4 : decode cX4_mixedWithValley 4 = .ok (.istore 6, 2) := by decide +kernel
theorem dX4_mixedWithValley_6 : decode cX4_mixedWithValley 6 = .ok (.iload 6, 2) := by decide +kernel
theorem dX4_mixedWithValley_8 : decode cX4_mixedWithValley 8 = .ok (.bipush 6, 2) := by decide +kernel
theorem dX4_mixedWithValley_10 : decode cX4_mixedWithValley 10 = .ok (.if_icmp .ge 24, 3) := by decide +kernel
theorem dX4_mixedWithValley_13 : decode cX4_mixedWithValley 13 = .ok (.lload 4, 2) := by decide +kernel
theorem dX4_mixedWithValley_15 : decode cX4_mixedWithValley 15 = .ok (.aload_n 0, 1) := by decide +kernel
theorem dX4_mixedWithValley_16 : decode cX4_mixedWithValley 16 = .ok (.iload_n 3, 1) := by decide +kernel
theorem dX4_mixedWithValley_17 : decode cX4_mixedWithValley 17 = .ok (.iload 6, 2) := by decide +kernel
theorem dX4_mixedWithValley_19 : decode cX4_mixedWithValley 19 = .ok (.invokevirtual 225, 3) := by decide +kernel
theorem dX4_mixedWithValley_22 : decode cX4_mixedWithValley 22 = .ok (.i2l, 1) := by decide +kernel
theorem dX4_mixedWithValley_23 : decode cX4_mixedWithValley 23 = .ok (.invokestatic 214, 3) := by decide +kernel
theorem dX4_mixedWithValley_26 : decode cX4_mixedWithValley 26 = .ok (.lstore 4, 2) := by decide +kernel
theorem dX4_mixedWithValley_28 : decode cX4_mixedWithValley 28 = .ok (.iinc 6 1, 3) := by decide +kernel
theorem dX4_mixedWithValley_31 : decode cX4_mixedWithValley 31 = .ok (.goto (-25), 3) := by decide +kernel
theorem dX4_mixedWithValley_34 : decode cX4_mixedWithValley 34 = .ok (.iconst 0, 1) := by decide +kernel
theorem dX4_mixedWithValley_35 : decode cX4_mixedWithValley 35 = .ok (.istore 6, 2) := by decide +kernel
theorem dX4_mixedWithValley_37 : decode cX4_mixedWithValley 37 = .ok (.iload 6, 2) := by decide +kernel
theorem dX4_mixedWithValley_39 : decode cX4_mixedWithValley 39 = .ok (.aload_n 0, 1) := by decide +kernel
theorem dX4_mixedWithValley_40 : decode cX4_mixedWithValley 40 = .ok (.getfield 59, 3) := by decide +kernel
theorem dX4_mixedWithValley_43 : decode cX4_mixedWithValley 43 = .ok (.if_icmp .ge 27, 3) := by decide +kernel
theorem dX4_mixedWithValley_46 : decode cX4_mixedWithValley 46 = .ok (.lload 4, 2) := by decide +kernel
theorem dX4_mixedWithValley_48 : decode cX4_mixedWithValley 48 = .ok (.aload_n 0, 1) := by decide +kernel
theorem dX4_mixedWithValley_49 : decode cX4_mixedWithValley 49 = .ok (.getfield 28, 3) := by decide +kernel
theorem dX4_mixedWithValley_52 : decode cX4_mixedWithValley 52 = .ok (.iload_n 3, 1) := by decide +kernel
theorem dX4_mixedWithValley_53 : decode cX4_mixedWithValley 53 = .ok (.iload 6, 2) := by decide +kernel
theorem dX4_mixedWithValley_55 : decode cX4_mixedWithValley 55 = .ok (.invokevirtual 111, 3) := by decide +kernel
theorem dX4_mixedWithValley_58 : decode cX4_mixedWithValley 58 = .ok (.i2l, 1) := by decide +kernel
theorem dX4_mixedWithValley_59 : decode cX4_mixedWithValley 59 = .ok (.invokestatic 214, 3) := by decide +kernel
theorem dX4_mixedWithValley_62 : decode cX4_mixedWithValley 62 = .ok (.lstore 4, 2) := by decide +kernel
theorem dX4_mixedWithValley_64 : decode cX4_mixedWithValley 64 = .ok (.iinc 6 1, 3) := by decide +kernel
theorem dX4_mixedWithValley_67 : decode cX4_mixedWithValley 67 = .ok (.goto (-30), 3) := by decide +kernel
theorem dX4_mixedWithValley_70 : decode cX4_mixedWithValley 70 = .ok (.lload 4, 2) := by decide +kernel
theorem dX4_mixedWithValley_72 : decode cX4_mixedWithValley 72 = .ok (.lreturn, 1) := by decide +kernel
set_option maxRecDepth 20000 in
theorem ggX4_mixedWithTour_X4_told : GoodIn wsX4_mixedWithTour wsX4_told := goodIn_ca (goodIn_r _ [6, 7, 8, 1, 9, 10, 11, 12, 5, 13, 14, 15, 16, 17, 18, 19, 20, 21, 22, 23, 24, 25, 26, 27, 28, 29, 30, 31, 32, 33, 34, 35, 36, 37, 38, 39, 40, 41, 42, 43, 44, 45, 46, 47, 48, 49, 54, 55, 56, 57, 58, 59, 60, 61, 62, 63, 64, 65, 66, 67, 68, 69, 70, 71] (by decide +kernel) (by decide +kernel)) (goodIn_sub (fun _ h => List.mem_cons_of_mem _ (List.mem_append_right _ h)) (by decide +kernel))
set_option maxRecDepth 20000 in
theorem gX4_mixedWithTour_X4_told : GoodIn wsX4_mixedWithTour (wsV RX4 228 RX4 yX4_told wsX4_told) := goodIn_app (goodIn_of _ (by decide +kernel)) ggX4_mixedWithTour_X4_told
set_option maxRecDepth 20000 in
theorem ggX4_mixedWithTour_X4_mixed : GoodIn wsX4_mixedWithTour wsX4_mixed := goodIn_r _ [52, 53] (by decide +kernel) (by decide +kernel)
set_option maxRecDepth 20000 in
theorem gX4_mixedWithTour_X4_mixed : GoodIn wsX4_mixedWithTour (va_wsS RX4 214 yX4_mixed wsX4_mixed) := goodIn_app (goodIn_of _ (by decide +kernel)) ggX4_mixedWithTour_X4_mixed
theorem dX4_mixedWithTour_0 : decode cX4_mixedWithTour 0 = .ok (.lload_n 1, 1) := by decide +kernel
theorem dX4_mixedWithTour_1 : decode cX4_mixedWithTour 1 = .ok (.lstore 4, 2) := by decide +kernel
theorem dX4_mixedWithTour_3 : decode cX4_mixedWithTour 3 = .ok (.iconst 0, 1) := by decide +kernel
theorem dX4_mixedWithTour_4 : decode cX4_mixedWithTour 4 = .ok (.istore 6, 2) := by decide +kernel
theorem dX4_mixedWithTour_6 : decode cX4_mixedWithTour 6 = .ok (.iload 6, 2) := by decide +kernel
theorem dX4_mixedWithTour_8 : decode cX4_mixedWithTour 8 = .ok (.bipush 6, 2) := by decide +kernel
theorem dX4_mixedWithTour_10 : decode cX4_mixedWithTour 10 = .ok (.if_icmp .ge 24, 3) := by decide +kernel
theorem dX4_mixedWithTour_13 : decode cX4_mixedWithTour 13 = .ok (.lload 4, 2) := by decide +kernel
theorem dX4_mixedWithTour_15 : decode cX4_mixedWithTour 15 = .ok (.aload_n 0, 1) := by decide +kernel
theorem dX4_mixedWithTour_16 : decode cX4_mixedWithTour 16 = .ok (.iload_n 3, 1) := by decide +kernel
theorem dX4_mixedWithTour_17 : decode cX4_mixedWithTour 17 = .ok (.iload 6, 2) := by decide +kernel
theorem dX4_mixedWithTour_19 : decode cX4_mixedWithTour 19 = .ok (.invokevirtual 228, 3) := by decide +kernel
theorem dX4_mixedWithTour_22 : decode cX4_mixedWithTour 22 = .ok (.i2l, 1) := by decide +kernel
theorem dX4_mixedWithTour_23 : decode cX4_mixedWithTour 23 = .ok (.invokestatic 214, 3) := by decide +kernel
theorem dX4_mixedWithTour_26 : decode cX4_mixedWithTour 26 = .ok (.lstore 4, 2) := by decide +kernel
theorem dX4_mixedWithTour_28 : decode cX4_mixedWithTour 28 = .ok (.iinc 6 1, 3) := by decide +kernel
theorem dX4_mixedWithTour_31 : decode cX4_mixedWithTour 31 = .ok (.goto (-25), 3) := by decide +kernel
theorem dX4_mixedWithTour_34 : decode cX4_mixedWithTour 34 = .ok (.iconst 0, 1) := by decide +kernel
theorem dX4_mixedWithTour_35 : decode cX4_mixedWithTour 35 = .ok (.istore 6, 2) := by decide +kernel
theorem dX4_mixedWithTour_37 : decode cX4_mixedWithTour 37 = .ok (.iload 6, 2) := by decide +kernel
theorem dX4_mixedWithTour_39 : decode cX4_mixedWithTour 39 = .ok (.aload_n 0, 1) := by decide +kernel
theorem dX4_mixedWithTour_40 : decode cX4_mixedWithTour 40 = .ok (.getfield 17, 3) := by decide +kernel
theorem dX4_mixedWithTour_43 : decode cX4_mixedWithTour 43 = .ok (.iload_n 3, 1) := by decide +kernel
theorem dX4_mixedWithTour_44 : decode cX4_mixedWithTour 44 = .ok (.aaload, 1) := by decide +kernel
theorem dX4_mixedWithTour_45 : decode cX4_mixedWithTour 45 = .ok (.getfield 143, 3) := by decide +kernel
theorem dX4_mixedWithTour_48 : decode cX4_mixedWithTour 48 = .ok (.if_icmp .ge 29, 3) := by decide +kernel
theorem dX4_mixedWithTour_51 : decode cX4_mixedWithTour 51 = .ok (.lload 4, 2) := by decide +kernel
theorem dX4_mixedWithTour_53 : decode cX4_mixedWithTour 53 = .ok (.aload_n 0, 1) := by decide +kernel
theorem dX4_mixedWithTour_54 : decode cX4_mixedWithTour 54 = .ok (.getfield 17, 3) := by decide +kernel
theorem dX4_mixedWithTour_57 : decode cX4_mixedWithTour 57 = .ok (.iload_n 3, 1) := by decide +kernel
theorem dX4_mixedWithTour_58 : decode cX4_mixedWithTour 58 = .ok (.aaload, 1) := by decide +kernel
theorem dX4_mixedWithTour_59 : decode cX4_mixedWithTour 59 = .ok (.getfield 231, 3) := by decide +kernel
theorem dX4_mixedWithTour_62 : decode cX4_mixedWithTour 62 = .ok (.iload 6, 2) := by decide +kernel
theorem dX4_mixedWithTour_64 : decode cX4_mixedWithTour 64 = .ok (.iaload, 1) := by decide +kernel
theorem dX4_mixedWithTour_65 : decode cX4_mixedWithTour 65 = .ok (.i2l, 1) := by decide +kernel
theorem dX4_mixedWithTour_66 : decode cX4_mixedWithTour 66 = .ok (.invokestatic 214, 3) := by decide +kernel
theorem dX4_mixedWithTour_69 : decode cX4_mixedWithTour 69 = .ok (.lstore 4, 2) := by decide +kernel
theorem dX4_mixedWithTour_71 : decode cX4_mixedWithTour 71 = .ok (.iinc 6 1, 3) := by decide +kernel
theorem dX4_mixedWithTour_74 : decode cX4_mixedWithTour 74 = .ok (.goto (-37), 3) := by decide +kernel
theorem dX4_mixedWithTour_77 : decode cX4_mixedWithTour 77 = .ok (.lload 4, 2) := by decide +kernel
theorem dX4_mixedWithTour_79 : decode cX4_mixedWithTour 79 = .ok (.lreturn, 1) := by decide +kernel
theorem dX4_mixed_0 : decode cX4_mixed 0 = .ok (.lload_n 0, 1) := by decide +kernel
theorem dX4_mixed_1 : decode cX4_mixed 1 = .ok (.ldc2_w 234, 3) := by decide +kernel
theorem dX4_mixed_4 : decode cX4_mixed 4 = .ok (.lmul, 1) := by decide +kernel
theorem dX4_mixed_5 : decode cX4_mixed 5 = .ok (.lload_n 2, 1) := by decide +kernel
theorem dX4_mixed_6 : decode cX4_mixed 6 = .ok (.ladd, 1) := by decide +kernel
theorem dX4_mixed_7 : decode cX4_mixed 7 = .ok (.lreturn, 1) := by decide +kernel
theorem dX4_isWithin_0 : decode cX4_isWithin 0 = .ok (.iload_n 0, 1) := by decide +kernel
theorem dX4_isWithin_1 : decode cX4_isWithin 1 = .ok (.iload_n 1, 1) := by decide +kernel
theorem dX4_isWithin_2 : decode cX4_isWithin 2 = .ok (.if_icmp .lt 12, 3) := by decide +kernel
theorem dX4_isWithin_5 : decode cX4_isWithin 5 = .ok (.iload_n 0, 1) := by decide +kernel
theorem dX4_isWithin_6 : decode cX4_isWithin 6 = .ok (.iload_n 2, 1) := by decide +kernel
theorem dX4_isWithin_7 : decode cX4_isWithin 7 = .ok (.if_icmp .gt 7, 3) := by decide +kernel
theorem dX4_isWithin_10 : decode cX4_isWithin 10 = .ok (.iconst 1, 1) := by decide +kernel
theorem dX4_isWithin_11 : decode cX4_isWithin 11 = .ok (.goto 4, 3) := by decide +kernel
theorem dX4_isWithin_14 : decode cX4_isWithin 14 = .ok (.iconst 0, 1) := by decide +kernel
theorem dX4_isWithin_15 : decode cX4_isWithin 15 = .ok (.ireturn, 1) := by decide +kernel
theorem dX4_checkValley_0 : decode cX4_checkValley 0 = .ok (.iload_n 1, 1) := by decide +kernel
theorem dX4_checkValley_1 : decode cX4_checkValley 1 = .ok (.ifCond .lt 11, 3) := by decide +kernel
theorem dX4_checkValley_4 : decode cX4_checkValley 4 = .ok (.iload_n 1, 1) := by decide +kernel
theorem dX4_checkValley_5 : decode cX4_checkValley 5 = .ok (.aload_n 0, 1) := by decide +kernel
theorem dX4_checkValley_6 : decode cX4_checkValley 6 = .ok (.getfield 59, 3) := by decide +kernel
theorem dX4_checkValley_9 : decode cX4_checkValley 9 = .ok (.if_icmp .lt 13, 3) := by decide +kernel
theorem dX4_checkValley_12 : decode cX4_checkValley 12 = .ok (.new 97, 3) := by decide +kernel
theorem dX4_checkValley_15 : decode cX4_checkValley 15 = .ok (.dup, 1) := by decide +kernel
theorem dX4_checkValley_16 : decode cX4_checkValley 16 = .ok (.ldc 236, 2) := by decide +kernel
theorem dX4_checkValley_18 : decode cX4_checkValley 18 = .ok (.invokespecial 101, 3) := by decide +kernel
theorem dX4_checkValley_21 : decode cX4_checkValley 21 = .ok (.athrow, 1) := by decide +kernel
theorem dX4_checkValley_22 : decode cX4_checkValley 22 = .ok (.return_, 1) := by decide +kernel
theorem dX4_checkTour_0 : decode cX4_checkTour 0 = .ok (.iload_n 1, 1) := by decide +kernel
theorem dX4_checkTour_1 : decode cX4_checkTour 1 = .ok (.ifCond .lt 11, 3) := by decide +kernel
theorem dX4_checkTour_4 : decode cX4_checkTour 4 = .ok (.iload_n 1, 1) := by decide +kernel
theorem dX4_checkTour_5 : decode cX4_checkTour 5 = .ok (.aload_n 0, 1) := by decide +kernel
theorem dX4_checkTour_6 : decode cX4_checkTour 6 = .ok (.getfield 117, 3) := by decide +kernel
theorem dX4_checkTour_9 : decode cX4_checkTour 9 = .ok (.if_icmp .lt 13, 3) := by decide +kernel
theorem dX4_checkTour_12 : decode cX4_checkTour 12 = .ok (.new 97, 3) := by decide +kernel
theorem dX4_checkTour_15 : decode cX4_checkTour 15 = .ok (.dup, 1) := by decide +kernel
theorem dX4_checkTour_16 : decode cX4_checkTour 16 = .ok (.ldc 238, 2) := by decide +kernel
theorem dX4_checkTour_18 : decode cX4_checkTour 18 = .ok (.invokespecial 101, 3) := by decide +kernel
theorem dX4_checkTour_21 : decode cX4_checkTour 21 = .ok (.athrow, 1) := by decide +kernel
theorem dX4_checkTour_22 : decode cX4_checkTour 22 = .ok (.return_, 1) := by decide +kernel
theorem dX4_checkDay_0 : decode cX4_checkDay 0 = .ok (.iload_n 0, 1) := by decide +kernel
theorem dX4_checkDay_1 : decode cX4_checkDay 1 = .ok (.ifCond .ge 13, 3) := by decide +kernel
theorem dX4_checkDay_4 : decode cX4_checkDay 4 = .ok (.new 48, 3) := by decide +kernel
theorem dX4_checkDay_7 : decode cX4_checkDay 7 = .ok (.dup, 1) := by decide +kernel
theorem dX4_checkDay_8 : decode cX4_checkDay 8 = .ok (.ldc 240, 2) := by decide +kernel
theorem dX4_checkDay_10 : decode cX4_checkDay 10 = .ok (.invokespecial 52, 3) := by decide +kernel
theorem dX4_checkDay_13 : decode cX4_checkDay 13 = .ok (.athrow, 1) := by decide +kernel
theorem dX4_checkDay_14 : decode cX4_checkDay 14 = .ok (.return_, 1) := by decide +kernel
set_option maxRecDepth 20000 in
theorem ggX4_checkSpan_X4_isWithin : GoodIn wsX4_checkSpan wsX4_isWithin := goodIn_r _ [6] (by decide +kernel) (by decide +kernel)
set_option maxRecDepth 20000 in
theorem gX4_checkSpan_X4_isWithin : GoodIn wsX4_checkSpan (va_wsS RX4 44 yX4_isWithin wsX4_isWithin) := goodIn_app (goodIn_of _ (by decide +kernel)) ggX4_checkSpan_X4_isWithin
theorem dX4_checkSpan_0 : decode cX4_checkSpan 0 = .ok (.iload_n 0, 1) := by decide +kernel
theorem dX4_checkSpan_1 : decode cX4_checkSpan 1 = .ok (.iconst 1, 1) := by decide +kernel
theorem dX4_checkSpan_2 : decode cX4_checkSpan 2 = .ok (.bipush 60, 2) := by decide +kernel
theorem dX4_checkSpan_4 : decode cX4_checkSpan 4 = .ok (.invokestatic 44, 3) := by decide +kernel
theorem dX4_checkSpan_7 : decode cX4_checkSpan 7 = .ok (.ifCond .ne 13, 3) := by decide +kernel
theorem dX4_checkSpan_10 : decode cX4_checkSpan 10 = .ok (.new 48, 3) := by decide +kernel
theorem dX4_checkSpan_13 : decode cX4_checkSpan 13 = .ok (.dup, 1) := by decide +kernel
theorem dX4_checkSpan_14 : decode cX4_checkSpan 14 = .ok (.ldc 242, 2) := by decide +kernel
theorem dX4_checkSpan_16 : decode cX4_checkSpan 16 = .ok (.invokespecial 52, 3) := by decide +kernel
theorem dX4_checkSpan_19 : decode cX4_checkSpan 19 = .ok (.athrow, 1) := by decide +kernel
theorem dX4_checkSpan_20 : decode cX4_checkSpan 20 = .ok (.return_, 1) := by decide +kernel
set_option maxRecDepth 20000 in
theorem ggX4_reckonCrowds_X2_measure : GoodIn wsX4_reckonCrowds wsX2_measure := goodIn_r _ [9, 10, 11, 12, 13, 14, 15, 16, 17, 18, 19, 20, 21, 22, 23, 24, 49, 50, 51, 52, 53, 54] (by decide +kernel) (by decide +kernel)
set_option maxRecDepth 20000 in
theorem gX4_reckonCrowds_X2_measure_n244 : GoodIn wsX4_reckonCrowds (wsX2_measure) := ggX4_reckonCrowds_X2_measure
set_option maxRecDepth 20000 in
theorem ggX4_reckonCrowds_X2_canGo : GoodIn wsX4_reckonCrowds wsX2_canGo := goodIn_r _ [27, 10, 12, 22, 23, 24, 49, 50, 51, 52] (by decide +kernel) (by decide +kernel)
set_option maxRecDepth 20000 in
theorem gX4_reckonCrowds_X2_canGo_n155 : GoodIn wsX4_reckonCrowds (wsX2_canGo) := ggX4_reckonCrowds_X2_canGo
set_option maxRecDepth 20000 in
theorem ggX4_reckonCrowds_X4_joinCrowds : GoodIn wsX4_reckonCrowds wsX4_joinCrowds := goodIn_r _ [31, 1, 2, 32, 7, 33, 34, 10, 11, 35, 36, 37, 38, 39, 40, 41, 42, 43, 44, 45, 46, 47, 48, 49, 50, 51, 52] (by decide +kernel) (by decide +kernel)
set_option maxRecDepth 20000 in
theorem gX4_reckonCrowds_X4_joinCrowds : GoodIn wsX4_reckonCrowds (wsV RX4 248 RX4 yX4_joinCrowds wsX4_joinCrowds) := goodIn_app (goodIn_of _ (by decide +kernel)) ggX4_reckonCrowds_X4_joinCrowds
theorem dX4_reckonCrowds_0 : decode cX4_reckonCrowds 0 = .ok (.iconst 0, 1) := by decide +kernel
theorem dX4_reckonCrowds_1 : decode cX4_reckonCrowds 1 = .ok (.istore_n 1, 1) := by decide +kernel
theorem dX4_reckonCrowds_2 : decode cX4_reckonCrowds 2 = .ok (.iload_n 1, 1) := by decide +kernel
theorem dX4_reckonCrowds_3 : decode cX4_reckonCrowds 3 = .ok (.aload_n 0, 1) := by decide +kernel
theorem dX4_reckonCrowds_4 : decode cX4_reckonCrowds 4 = .ok (.getfield 59, 3) := by decide +kernel
theorem dX4_reckonCrowds_7 : decode cX4_reckonCrowds 7 = .ok (.if_icmp .ge 29, 3) := by decide +kernel
theorem dX4_reckonCrowds_10 : decode cX4_reckonCrowds 10 = .ok (.aload_n 0, 1) := by decide +kernel
theorem dX4_reckonCrowds_11 : decode cX4_reckonCrowds 11 = .ok (.getfield 11, 3) := by decide +kernel
theorem dX4_reckonCrowds_14 : decode cX4_reckonCrowds 14 = .ok (.iload_n 1, 1) := by decide +kernel
theorem dX4_reckonCrowds_15 : decode cX4_reckonCrowds 15 = .ok (.aaload, 1) := by decide +kernel
theorem dX4_reckonCrowds_16 : decode cX4_reckonCrowds 16 = .ok (.iconst 0, 1) := by decide +kernel
theorem dX4_reckonCrowds_17 : decode cX4_reckonCrowds 17 = .ok (.putfield 170, 3) := by decide +kernel
theorem dX4_reckonCrowds_20 : decode cX4_reckonCrowds 20 = .ok (.aload_n 0, 1) := by decide +kernel
theorem dX4_reckonCrowds_21 : decode cX4_reckonCrowds 21 = .ok (.getfield 11, 3) := by decide +kernel
theorem dX4_reckonCrowds_24 : decode cX4_reckonCrowds 24 = .ok (.iload_n 1, 1) := by decide +kernel
theorem dX4_reckonCrowds_25 : decode cX4_reckonCrowds 25 = .ok (.aaload, 1) := by decide +kernel
theorem dX4_reckonCrowds_26 : decode cX4_reckonCrowds 26 = .ok (.iconst 0, 1) := by decide +kernel
theorem dX4_reckonCrowds_27 : decode cX4_reckonCrowds 27 = .ok (.putfield 173, 3) := by decide +kernel
theorem dX4_reckonCrowds_30 : decode cX4_reckonCrowds 30 = .ok (.iinc 1 1, 3) := by decide +kernel
theorem dX4_reckonCrowds_33 : decode cX4_reckonCrowds 33 = .ok (.goto (-31), 3) := by decide +kernel
theorem dX4_reckonCrowds_36 : decode cX4_reckonCrowds 36 = .ok (.iconst 0, 1) := by decide +kernel
theorem dX4_reckonCrowds_37 : decode cX4_reckonCrowds 37 = .ok (.istore_n 1, 1) := by decide +kernel
theorem dX4_reckonCrowds_38 : decode cX4_reckonCrowds 38 = .ok (.iload_n 1, 1) := by decide +kernel
theorem dX4_reckonCrowds_39 : decode cX4_reckonCrowds 39 = .ok (.aload_n 0, 1) := by decide +kernel
theorem dX4_reckonCrowds_40 : decode cX4_reckonCrowds 40 = .ok (.getfield 117, 3) := by decide +kernel
theorem dX4_reckonCrowds_43 : decode cX4_reckonCrowds 43 = .ok (.if_icmp .ge 44, 3) := by decide +kernel
theorem dX4_reckonCrowds_46 : decode cX4_reckonCrowds 46 = .ok (.aload_n 0, 1) := by decide +kernel
theorem dX4_reckonCrowds_47 : decode cX4_reckonCrowds 47 = .ok (.getfield 17, 3) := by decide +kernel
theorem dX4_reckonCrowds_50 : decode cX4_reckonCrowds 50 = .ok (.iload_n 1, 1) := by decide +kernel
theorem dX4_reckonCrowds_51 : decode cX4_reckonCrowds 51 = .ok (.aaload, 1) := by decide +kernel
theorem dX4_reckonCrowds_52 : decode cX4_reckonCrowds 52 = .ok (.aload_n 0, 1) := by decide +kernel
theorem dX4_reckonCrowds_53 : decode cX4_reckonCrowds 53 = .ok (.getfield 28, 3) := by decide +kernel
theorem dX4_reckonCrowds_56 : decode cX4_reckonCrowds 56 = .ok (.invokevirtual 244, 3) := by decide +kernel
theorem dX4_reckonCrowds_59 : decode cX4_reckonCrowds 59 = .ok (.aload_n 0, 1) := by decide +kernel
theorem dX4_reckonCrowds_60 : decode cX4_reckonCrowds 60 = .ok (.getfield 17, 3) := by decide +kernel
theorem dX4_reckonCrowds_63 : decode cX4_reckonCrowds 63 = .ok (.iload_n 1, 1) := by decide +kernel
theorem dX4_reckonCrowds_64 : decode cX4_reckonCrowds 64 = .ok (.aaload, 1) := by decide +kernel
theorem dX4_reckonCrowds_65 : decode cX4_reckonCrowds 65 = .ok (.invokevirtual 155, 3) := by decide +kernel
theorem dX4_reckonCrowds_68 : decode cX4_reckonCrowds 68 = .ok (.ifCond .eq 13, 3) := by decide +kernel
theorem dX4_reckonCrowds_71 : decode cX4_reckonCrowds 71 = .ok (.aload_n 0, 1) := by decide +kernel
theorem dX4_reckonCrowds_72 : decode cX4_reckonCrowds 72 = .ok (.aload_n 0, 1) := by decide +kernel
theorem dX4_reckonCrowds_73 : decode cX4_reckonCrowds 73 = .ok (.getfield 17, 3) := by decide +kernel
theorem dX4_reckonCrowds_76 : decode cX4_reckonCrowds 76 = .ok (.iload_n 1, 1) := by decide +kernel
theorem dX4_reckonCrowds_77 : decode cX4_reckonCrowds 77 = .ok (.aaload, 1) := by decide +kernel
theorem dX4_reckonCrowds_78 : decode cX4_reckonCrowds 78 = .ok (.invokevirtual 248, 3) := by decide +kernel
theorem dX4_reckonCrowds_81 : decode cX4_reckonCrowds 81 = .ok (.iinc 1 1, 3) := by decide +kernel
theorem dX4_reckonCrowds_84 : decode cX4_reckonCrowds 84 = .ok (.goto (-46), 3) := by decide +kernel
theorem dX4_reckonCrowds_87 : decode cX4_reckonCrowds 87 = .ok (.return_, 1) := by decide +kernel
set_option maxRecDepth 20000 in
theorem ggX4_joinCrowds_X2_visits : GoodIn wsX4_joinCrowds wsX2_visits := goodIn_r _ [6, 7, 8, 23, 24, 25, 26] (by decide +kernel) (by decide +kernel)
set_option maxRecDepth 20000 in
theorem gX4_joinCrowds_X2_visits_n134 : GoodIn wsX4_joinCrowds (wsX2_visits) := ggX4_joinCrowds_X2_visits
theorem dX4_joinCrowds_0 : decode cX4_joinCrowds 0 = .ok (.iconst 0, 1) := by decide +kernel
theorem dX4_joinCrowds_1 : decode cX4_joinCrowds 1 = .ok (.istore_n 2, 1) := by decide +kernel
theorem dX4_joinCrowds_2 : decode cX4_joinCrowds 2 = .ok (.iload_n 2, 1) := by decide +kernel
theorem dX4_joinCrowds_3 : decode cX4_joinCrowds 3 = .ok (.aload_n 0, 1) := by decide +kernel
theorem dX4_joinCrowds_4 : decode cX4_joinCrowds 4 = .ok (.getfield 59, 3) := by decide +kernel
theorem dX4_joinCrowds_7 : decode cX4_joinCrowds 7 = .ok (.if_icmp .ge 50, 3) := by decide +kernel
theorem dX4_joinCrowds_10 : decode cX4_joinCrowds 10 = .ok (.aload_n 1, 1) := by decide +kernel
theorem dX4_joinCrowds_11 : decode cX4_joinCrowds 11 = .ok (.iload_n 2, 1) := by decide +kernel
theorem dX4_joinCrowds_12 : decode cX4_joinCrowds 12 = .ok (.invokevirtual 134, 3) := by decide +kernel
theorem dX4_joinCrowds_15 : decode cX4_joinCrowds 15 = .ok (.ifCond .eq 36, 3) := by decide +kernel
theorem dX4_joinCrowds_18 : decode cX4_joinCrowds 18 = .ok (.aload_n 0, 1) := by decide +kernel
theorem dX4_joinCrowds_19 : decode cX4_joinCrowds 19 = .ok (.getfield 11, 3) := by decide +kernel
theorem dX4_joinCrowds_22 : decode cX4_joinCrowds 22 = .ok (.iload_n 2, 1) := by decide +kernel
theorem dX4_joinCrowds_23 : decode cX4_joinCrowds 23 = .ok (.aaload, 1) := by decide +kernel
theorem dX4_joinCrowds_24 : decode cX4_joinCrowds 24 = .ok (.dup, 1) := by decide +kernel
theorem dX4_joinCrowds_25 : decode cX4_joinCrowds 25 = .ok (.getfield 170, 3) := by decide +kernel
theorem dX4_joinCrowds_28 : decode cX4_joinCrowds 28 = .ok (.aload_n 1, 1) := by decide +kernel
theorem dX4_joinCrowds_29 : decode cX4_joinCrowds 29 = .ok (.getfield 122, 3) := by decide +kernel
theorem dX4_joinCrowds_32 : decode cX4_joinCrowds 32 = .ok (.iadd, 1) := by decide +kernel
theorem dX4_joinCrowds_33 : decode cX4_joinCrowds 33 = .ok (.putfield 170, 3) := by decide +kernel
theorem dX4_joinCrowds_36 : decode cX4_joinCrowds 36 = .ok (.aload_n 0, 1) := by decide +kernel
theorem dX4_joinCrowds_37 : decode cX4_joinCrowds 37 = .ok (.getfield 11, 3) := by decide +kernel
theorem dX4_joinCrowds_40 : decode cX4_joinCrowds 40 = .ok (.iload_n 2, 1) := by decide +kernel
theorem dX4_joinCrowds_41 : decode cX4_joinCrowds 41 = .ok (.aaload, 1) := by decide +kernel
theorem dX4_joinCrowds_42 : decode cX4_joinCrowds 42 = .ok (.dup, 1) := by decide +kernel
theorem dX4_joinCrowds_43 : decode cX4_joinCrowds 43 = .ok (.getfield 173, 3) := by decide +kernel
theorem dX4_joinCrowds_46 : decode cX4_joinCrowds 46 = .ok (.iconst 1, 1) := by decide +kernel
theorem dX4_joinCrowds_47 : decode cX4_joinCrowds 47 = .ok (.iadd, 1) := by decide +kernel
theorem dX4_joinCrowds_48 : decode cX4_joinCrowds 48 = .ok (.putfield 173, 3) := by decide +kernel
theorem dX4_joinCrowds_51 : decode cX4_joinCrowds 51 = .ok (.iinc 2 1, 3) := by decide +kernel
theorem dX4_joinCrowds_54 : decode cX4_joinCrowds 54 = .ok (.goto (-52), 3) := by decide +kernel
theorem dX4_joinCrowds_57 : decode cX4_joinCrowds 57 = .ok (.return_, 1) := by decide +kernel
set_option maxRecDepth 20000 in
theorem ggX4_joyOn_X2_canGo : GoodIn wsX4_joyOn wsX2_canGo := goodIn_r _ [10, 11, 12, 13, 14, 15, 43, 44, 45, 46] (by decide +kernel) (by decide +kernel)
set_option maxRecDepth 20000 in
theorem gX4_joyOn_X2_canGo_n155 : GoodIn wsX4_joyOn (wsX2_canGo) := ggX4_joyOn_X2_canGo
set_option maxRecDepth 20000 in
theorem ggX4_joyOn_X2_visits : GoodIn wsX4_joyOn wsX2_visits := goodIn_r _ [18, 11, 19, 43, 44, 45, 46] (by decide +kernel) (by decide +kernel)
set_option maxRecDepth 20000 in
theorem gX4_joyOn_X2_visits_n134 : GoodIn wsX4_joyOn (wsX2_visits) := ggX4_joyOn_X2_visits
set_option maxRecDepth 20000 in
theorem ggX4_joyOn_X3_bloomOn : GoodIn wsX4_joyOn wsX3_bloomOn := goodIn_r _ [23, 24, 25, 26, 27, 5, 28, 38, 39, 40, 41, 42] (by decide +kernel) (by decide +kernel)
set_option maxRecDepth 20000 in
theorem gX4_joyOn_X3_bloomOn_n107 : GoodIn wsX4_joyOn (wsX3_bloomOn) := ggX4_joyOn_X3_bloomOn
theorem dX4_joyOn_0 : decode cX4_joyOn 0 = .ok (.aload_n 1, 1) := by decide +kernel
theorem dX4_joyOn_1 : decode cX4_joyOn 1 = .ok (.invokevirtual 155, 3) := by decide +kernel
theorem dX4_joyOn_4 : decode cX4_joyOn 4 = .ok (.ifCond .ne 5, 3) := by decide +kernel
theorem dX4_joyOn_7 : decode cX4_joyOn 7 = .ok (.iconst 0, 1) := by decide +kernel
theorem dX4_joyOn_8 : decode cX4_joyOn 8 = .ok (.ireturn, 1) := by decide +kernel
theorem dX4_joyOn_9 : decode cX4_joyOn 9 = .ok (.iconst 0, 1) := by decide +kernel
theorem dX4_joyOn_10 : decode cX4_joyOn 10 = .ok (.istore_n 3, 1) := by decide +kernel
theorem dX4_joyOn_11 : decode cX4_joyOn 11 = .ok (.iconst 0, 1) := by decide +kernel
theorem dX4_joyOn_12 : decode cX4_joyOn 12 = .ok (.istore 4, 2) := by decide +kernel
theorem dX4_joyOn_14 : decode cX4_joyOn 14 = .ok (.iload 4, 2) := by decide +kernel
theorem dX4_joyOn_16 : decode cX4_joyOn 16 = .ok (.aload_n 0, 1) := by decide +kernel
theorem dX4_joyOn_17 : decode cX4_joyOn 17 = .ok (.getfield 59, 3) := by decide +kernel
theorem dX4_joyOn_20 : decode cX4_joyOn 20 = .ok (.if_icmp .ge 50, 3) := by decide +kernel
theorem dX4_joyOn_23 : decode cX4_joyOn 23 = .ok (.aload_n 1, 1) := by decide +kernel
theorem dX4_joyOn_24 : decode cX4_joyOn 24 = .ok (.iload 4, 2) := by decide +kernel
theorem dX4_joyOn_26 : decode cX4_joyOn 26 = .ok (.invokevirtual 134, 3) := by decide +kernel
theorem dX4_joyOn_29 : decode cX4_joyOn 29 = .ok (.ifCond .eq 35, 3) := by decide +kernel
theorem dX4_joyOn_32 : decode cX4_joyOn 32 = .ok (.iload_n 3, 1) := by decide +kernel
theorem dX4_joyOn_33 : decode cX4_joyOn 33 = .ok (.iconst 0, 1) := by decide +kernel
theorem dX4_joyOn_34 : decode cX4_joyOn 34 = .ok (.aload_n 0, 1) := by decide +kernel
theorem dX4_joyOn_35 : decode cX4_joyOn 35 = .ok (.getfield 11, 3) := by decide +kernel
theorem dX4_joyOn_38 : decode cX4_joyOn 38 = .ok (.iload 4, 2) := by decide +kernel
theorem dX4_joyOn_40 : decode cX4_joyOn 40 = .ok (.aaload, 1) := by decide +kernel
theorem dX4_joyOn_41 : decode cX4_joyOn 41 = .ok (.iload_n 2, 1) := by decide +kernel
theorem dX4_joyOn_42 : decode cX4_joyOn 42 = .ok (.invokevirtual 107, 3) := by decide +kernel
theorem dX4_joyOn_45 : decode cX4_joyOn 45 = .ok (.aload_n 0, 1) := by decide +kernel
theorem dX4_joyOn_46 : decode cX4_joyOn 46 = .ok (.getfield 11, 3) := by decide +kernel
theorem dX4_joyOn_49 : decode cX4_joyOn 49 = .ok (.iload 4, 2) := by decide +kernel
theorem dX4_joyOn_51 : decode cX4_joyOn 51 = .ok (.aaload, 1) := by decide +kernel
theorem dX4_joyOn_52 : decode cX4_joyOn 52 = .ok (.getfield 170, 3) := by decide +kernel
theorem dX4_joyOn_55 : decode cX4_joyOn 55 = .ok (.bipush 10, 2) := by decide +kernel
theorem dX4_joyOn_57 : decode cX4_joyOn 57 = .ok (.idiv, 1) := by decide +kernel
theorem dX4_joyOn_58 : decode cX4_joyOn 58 = .ok (.isub, 1) := by decide +kernel
theorem dX4_joyOn_59 : decode cX4_joyOn 59 = .ok (.invokestatic 252, 3) := by decide +kernel
theorem dX4_joyOn_62 : decode cX4_joyOn 62 = .ok (.iadd, 1) := by decide +kernel
theorem dX4_joyOn_63 : decode cX4_joyOn 63 = .ok (.istore_n 3, 1) := by decide +kernel
theorem dX4_joyOn_64 : decode cX4_joyOn 64 = .ok (.iinc 4 1, 3) := by decide +kernel
theorem dX4_joyOn_67 : decode cX4_joyOn 67 = .ok (.goto (-53), 3) := by decide +kernel
theorem dX4_joyOn_70 : decode cX4_joyOn 70 = .ok (.iload_n 3, 1) := by decide +kernel
theorem dX4_joyOn_71 : decode cX4_joyOn 71 = .ok (.ireturn, 1) := by decide +kernel
set_option maxRecDepth 20000 in
theorem ggX4_stingsOn_X2_canGo : GoodIn wsX4_stingsOn wsX2_canGo := goodIn_r _ [6, 7, 8, 9, 10, 11, 35, 36, 37, 38] (by decide +kernel) (by decide +kernel)
set_option maxRecDepth 20000 in
theorem gX4_stingsOn_X2_canGo_n155 : GoodIn wsX4_stingsOn (wsX2_canGo) := ggX4_stingsOn_X2_canGo
set_option maxRecDepth 20000 in
theorem ggX4_stingsOn_X2_visits : GoodIn wsX4_stingsOn wsX2_visits := goodIn_r _ [14, 7, 15, 35, 36, 37, 38] (by decide +kernel) (by decide +kernel)
set_option maxRecDepth 20000 in
theorem gX4_stingsOn_X2_visits_n134 : GoodIn wsX4_stingsOn (wsX2_visits) := ggX4_stingsOn_X2_visits
set_option maxRecDepth 20000 in
theorem ggX4_stingsOn_X3_bloomOn : GoodIn wsX4_stingsOn wsX3_bloomOn := goodIn_r _ [19, 20, 21, 22, 23, 24, 25, 39, 40, 41, 42, 43] (by decide +kernel) (by decide +kernel)
set_option maxRecDepth 20000 in
theorem gX4_stingsOn_X3_bloomOn_n107 : GoodIn wsX4_stingsOn (wsX3_bloomOn) := ggX4_stingsOn_X3_bloomOn
theorem dX4_stingsOn_0 : decode cX4_stingsOn 0 = .ok (.aload_n 1, 1) := by decide +kernel
theorem dX4_stingsOn_1 : decode cX4_stingsOn 1 = .ok (.invokevirtual 155, 3) := by decide +kernel
theorem dX4_stingsOn_4 : decode cX4_stingsOn 4 = .ok (.ifCond .ne 5, 3) := by decide +kernel
theorem dX4_stingsOn_7 : decode cX4_stingsOn 7 = .ok (.iconst 0, 1) := by decide +kernel
theorem dX4_stingsOn_8 : decode cX4_stingsOn 8 = .ok (.ireturn, 1) := by decide +kernel
theorem dX4_stingsOn_9 : decode cX4_stingsOn 9 = .ok (.iconst 0, 1) := by decide +kernel
theorem dX4_stingsOn_10 : decode cX4_stingsOn 10 = .ok (.istore_n 3, 1) := by decide +kernel
theorem dX4_stingsOn_11 : decode cX4_stingsOn 11 = .ok (.iconst 0, 1) := by decide +kernel
theorem dX4_stingsOn_12 : decode cX4_stingsOn 12 = .ok (.istore 4, 2) := by decide +kernel
theorem dX4_stingsOn_14 : decode cX4_stingsOn 14 = .ok (.iload 4, 2) := by decide +kernel
theorem dX4_stingsOn_16 : decode cX4_stingsOn 16 = .ok (.aload_n 0, 1) := by decide +kernel
theorem dX4_stingsOn_17 : decode cX4_stingsOn 17 = .ok (.getfield 59, 3) := by decide +kernel
theorem dX4_stingsOn_20 : decode cX4_stingsOn 20 = .ok (.if_icmp .ge 52, 3) := by decide +kernel
theorem dX4_stingsOn_23 : decode cX4_stingsOn 23 = .ok (.aload_n 1, 1) := by decide +kernel
theorem dX4_stingsOn_24 : decode cX4_stingsOn 24 = .ok (.iload 4, 2) := by decide +kernel
theorem dX4_stingsOn_26 : decode cX4_stingsOn 26 = .ok (.invokevirtual 134, 3) := by decide +kernel
theorem dX4_stingsOn_29 : decode cX4_stingsOn 29 = .ok (.ifCond .eq 37, 3) := by decide +kernel
theorem dX4_stingsOn_32 : decode cX4_stingsOn 32 = .ok (.iload_n 3, 1) := by decide +kernel
theorem dX4_stingsOn_33 : decode cX4_stingsOn 33 = .ok (.aload_n 1, 1) := by decide +kernel
theorem dX4_stingsOn_34 : decode cX4_stingsOn 34 = .ok (.getfield 122, 3) := by decide +kernel
theorem dX4_stingsOn_37 : decode cX4_stingsOn 37 = .ok (.aload_n 0, 1) := by decide +kernel
theorem dX4_stingsOn_38 : decode cX4_stingsOn 38 = .ok (.getfield 11, 3) := by decide +kernel
theorem dX4_stingsOn_41 : decode cX4_stingsOn 41 = .ok (.iload 4, 2) := by decide +kernel
theorem dX4_stingsOn_43 : decode cX4_stingsOn 43 = .ok (.aaload, 1) := by decide +kernel
theorem dX4_stingsOn_44 : decode cX4_stingsOn 44 = .ok (.getfield 74, 3) := by decide +kernel
theorem dX4_stingsOn_47 : decode cX4_stingsOn 47 = .ok (.imul, 1) := by decide +kernel
theorem dX4_stingsOn_48 : decode cX4_stingsOn 48 = .ok (.aload_n 0, 1) := by decide +kernel
theorem dX4_stingsOn_49 : decode cX4_stingsOn 49 = .ok (.getfield 11, 3) := by decide +kernel
theorem dX4_stingsOn_52 : decode cX4_stingsOn 52 = .ok (.iload 4, 2) := by decide +kernel
theorem dX4_stingsOn_54 : decode cX4_stingsOn 54 = .ok (.aaload, 1) := by decide +kernel
theorem dX4_stingsOn_55 : decode cX4_stingsOn 55 = .ok (.iload_n 2, 1) := by decide +kernel
theorem dX4_stingsOn_56 : decode cX4_stingsOn 56 = .ok (.invokevirtual 107, 3) := by decide +kernel
theorem dX4_stingsOn_59 : decode cX4_stingsOn 59 = .ok (.imul, 1) := by decide +kernel
theorem dX4_stingsOn_60 : decode cX4_stingsOn 60 = .ok (.sipush 5000, 3) := by decide +kernel
theorem dX4_stingsOn_63 : decode cX4_stingsOn 63 = .ok (.idiv, 1) := by decide +kernel
theorem dX4_stingsOn_64 : decode cX4_stingsOn 64 = .ok (.iadd, 1) := by decide +kernel
theorem dX4_stingsOn_65 : decode cX4_stingsOn 65 = .ok (.istore_n 3, 1) := by decide +kernel
theorem dX4_stingsOn_66 : decode cX4_stingsOn 66 = .ok (.iinc 4 1, 3) := by decide +kernel
theorem dX4_stingsOn_69 : decode cX4_stingsOn 69 = .ok (.goto (-55), 3) := by decide +kernel
theorem dX4_stingsOn_72 : decode cX4_stingsOn 72 = .ok (.iload_n 3, 1) := by decide +kernel
theorem dX4_stingsOn_73 : decode cX4_stingsOn 73 = .ok (.ireturn, 1) := by decide +kernel
set_option maxRecDepth 20000 in
theorem ggX4_joyWithStopAdded_X2_append : GoodIn wsX4_joyWithStopAdded wsX2_append := goodIn_r _ [5, 6, 7, 8, 9, 10, 3, 11, 76, 77, 78, 79] (by decide +kernel) (by decide +kernel)
set_option maxRecDepth 20000 in
theorem gX4_joyWithStopAdded_X2_append_n140 : GoodIn wsX4_joyWithStopAdded (wsX2_append) := ggX4_joyWithStopAdded_X2_append
set_option maxRecDepth 20000 in
theorem ggX4_joyWithStopAdded_X4_reckonCrowds : GoodIn wsX4_joyWithStopAdded wsX4_reckonCrowds := goodIn_r _ [16, 17, 18, 19, 20, 21, 22, 3, 23, 24, 7, 6, 25, 26, 27, 28, 29, 30, 31, 32, 33, 34, 35, 15, 36, 37, 38, 39, 40, 41, 42, 43, 44, 45, 46, 67, 68, 69, 70, 71, 72, 73, 74, 75, 80, 81, 82, 83, 84, 76, 77, 78, 79, 85, 86] (by decide +kernel) (by decide +kernel)
set_option maxRecDepth 20000 in
theorem gX4_joyWithStopAdded_X4_reckonCrowds : GoodIn wsX4_joyWithStopAdded (wsV RX4 94 RX4 yX4_reckonCrowds wsX4_reckonCrowds) := goodIn_app (goodIn_of _ (by decide +kernel)) ggX4_joyWithStopAdded_X4_reckonCrowds
set_option maxRecDepth 20000 in
theorem ggX4_joyWithStopAdded_X4_joyOn : GoodIn wsX4_joyWithStopAdded wsX4_joyOn := goodIn_r _ [50, 17, 18, 51, 52, 53, 54, 37, 3, 38, 39, 7, 25, 35, 15, 36, 44, 45, 46, 6, 55, 56, 57, 58, 59, 60, 61, 62, 63, 67, 68, 69, 70, 71, 72, 73, 74, 75, 80, 81, 82, 83, 84, 76, 77, 78, 79] (by decide +kernel) (by decide +kernel)
set_option maxRecDepth 20000 in
theorem gX4_joyWithStopAdded_X4_joyOn : GoodIn wsX4_joyWithStopAdded (wsV RX4 161 RX4 yX4_joyOn wsX4_joyOn) := goodIn_app (goodIn_of _ (by decide +kernel)) ggX4_joyWithStopAdded_X4_joyOn
set_option maxRecDepth 20000 in
theorem ggX4_joyWithStopAdded_X2_takeLast : GoodIn wsX4_joyWithStopAdded wsX2_takeLast := goodIn_r _ [66, 7, 6, 76, 77, 78, 79] (by decide +kernel) (by decide +kernel)
set_option maxRecDepth 20000 in
theorem gX4_joyWithStopAdded_X2_takeLast_n148 : GoodIn wsX4_joyWithStopAdded (wsX2_takeLast) := ggX4_joyWithStopAdded_X2_takeLast
theorem dX4_joyWithStopAdded_0 : decode cX4_joyWithStopAdded 0 = .ok (.aload_n 1, 1) := by decide +kernel
theorem dX4_joyWithStopAdded_1 : decode cX4_joyWithStopAdded 1 = .ok (.iload_n 2, 1) := by decide +kernel
theorem dX4_joyWithStopAdded_2 : decode cX4_joyWithStopAdded 2 = .ok (.invokevirtual 140, 3) := by decide +kernel
theorem dX4_joyWithStopAdded_5 : decode cX4_joyWithStopAdded 5 = .ok (.aload_n 0, 1) := by decide +kernel
theorem dX4_joyWithStopAdded_6 : decode cX4_joyWithStopAdded 6 = .ok (.invokevirtual 94, 3) := by decide +kernel
theorem dX4_joyWithStopAdded_9 : decode cX4_joyWithStopAdded 9 = .ok (.aload_n 0, 1) := by decide +kernel
theorem dX4_joyWithStopAdded_10 : decode cX4_joyWithStopAdded 10 = .ok (.aload_n 1, 1) := by decide +kernel
theorem dX4_joyWithStopAdded_11 : decode cX4_joyWithStopAdded 11 = .ok (.aload_n 0, 1) := by decide +kernel
theorem dX4_joyWithStopAdded_12 : decode cX4_joyWithStopAdded 12 = .ok (.getfield 158, 3) := by decide +kernel
theorem dX4_joyWithStopAdded_15 : decode cX4_joyWithStopAdded 15 = .ok (.invokevirtual 161, 3) := by decide +kernel
theorem dX4_joyWithStopAdded_18 : decode cX4_joyWithStopAdded 18 = .ok (.istore_n 3, 1) := by decide +kernel
theorem dX4_joyWithStopAdded_19 : decode cX4_joyWithStopAdded 19 = .ok (.aload_n 1, 1) := by decide +kernel
theorem dX4_joyWithStopAdded_20 : decode cX4_joyWithStopAdded 20 = .ok (.invokevirtual 148, 3) := by decide +kernel
theorem dX4_joyWithStopAdded_23 : decode cX4_joyWithStopAdded 23 = .ok (.pop, 1) := by decide +kernel
theorem dX4_joyWithStopAdded_24 : decode cX4_joyWithStopAdded 24 = .ok (.aload_n 0, 1) := by decide +kernel
theorem dX4_joyWithStopAdded_25 : decode cX4_joyWithStopAdded 25 = .ok (.invokevirtual 94, 3) := by decide +kernel
theorem dX4_joyWithStopAdded_28 : decode cX4_joyWithStopAdded 28 = .ok (.iload_n 3, 1) := by decide +kernel
theorem dX4_joyWithStopAdded_29 : decode cX4_joyWithStopAdded 29 = .ok (.ireturn, 1) := by decide +kernel
set_option maxRecDepth 20000 in
theorem ggX4_enterDays_X4_enterDay : GoodIn wsX4_enterDays wsX4_enterDay := goodIn_r _ [6, 7, 8, 9, 10, 11, 12, 13, 14, 15, 16, 17, 18, 19, 20, 5, 21, 22, 23, 24, 25, 26, 27, 28, 29, 30, 31, 32, 33, 34, 35, 36, 37, 38, 39, 40, 41, 42, 43, 44, 45, 46, 47, 48, 49, 50, 51, 52, 53, 54, 55, 56, 57, 58, 59, 60, 61, 62, 63, 64, 65, 66, 67, 68, 69] (by decide +kernel) (by decide +kernel)
set_option maxRecDepth 20000 in
theorem gX4_enterDays_X4_enterDay : GoodIn wsX4_enterDays (wsV RX4 257 RX4 yX4_enterDay wsX4_enterDay) := goodIn_app (goodIn_of _ (by decide +kernel)) ggX4_enterDays_X4_enterDay
theorem dX4_enterDays_0 : decode cX4_enterDays 0 = .ok (.iconst 0, 1) := by decide +kernel
theorem dX4_enterDays_1 : decode cX4_enterDays 1 = .ok (.istore_n 3, 1) := by decide +kernel
theorem dX4_enterDays_2 : decode cX4_enterDays 2 = .ok (.iload_n 3, 1) := by decide +kernel
theorem dX4_enterDays_3 : decode cX4_enterDays 3 = .ok (.iload_n 2, 1) := by decide +kernel
theorem dX4_enterDays_4 : decode cX4_enterDays 4 = .ok (.if_icmp .ge 20, 3) := by decide +kernel
theorem dX4_enterDays_7 : decode cX4_enterDays 7 = .ok (.aload_n 0, 1) := by decide +kernel
theorem dX4_enterDays_8 : decode cX4_enterDays 8 = .ok (.aload_n 1, 1) := by decide +kernel
theorem dX4_enterDays_9 : decode cX4_enterDays 9 = .ok (.aload_n 0, 1) := by decide +kernel
theorem dX4_enterDays_10 : decode cX4_enterDays 10 = .ok (.getfield 158, 3) := by decide +kernel
theorem dX4_enterDays_13 : decode cX4_enterDays 13 = .ok (.iload_n 3, 1) := by decide +kernel
theorem dX4_enterDays_14 : decode cX4_enterDays 14 = .ok (.iadd, 1) := by decide +kernel
theorem dX4_enterDays_15 : decode cX4_enterDays 15 = .ok (.invokevirtual 257, 3) := by decide +kernel
theorem dX4_enterDays_18 : decode cX4_enterDays 18 = .ok (.iinc 3 1, 3) := by decide +kernel
theorem dX4_enterDays_21 : decode cX4_enterDays 21 = .ok (.goto (-19), 3) := by decide +kernel
theorem dX4_enterDays_24 : decode cX4_enterDays 24 = .ok (.return_, 1) := by decide +kernel
set_option maxRecDepth 20000 in
theorem ggX4_enterDay_J9_floorMod_7cf53 : GoodIn wsX4_enterDay wsJ9_floorMod_7cf53 := goodIn_r _ [7] (by decide +kernel) (by decide +kernel)
set_option maxRecDepth 20000 in
theorem gX4_enterDay_J9_floorMod_7cf53 : GoodIn wsX4_enterDay (va_wsS RX4 260 yJ9_floorMod_7cf53 wsJ9_floorMod_7cf53) := goodIn_app (goodIn_of _ (by decide +kernel)) ggX4_enterDay_J9_floorMod_7cf53
set_option maxRecDepth 20000 in
theorem ggX4_enterDay_X2_canGo : GoodIn wsX4_enterDay wsX2_canGo := goodIn_r _ [11, 12, 13, 14, 15, 16, 56, 57, 58, 59] (by decide +kernel) (by decide +kernel)
set_option maxRecDepth 20000 in
theorem gX4_enterDay_X2_canGo_n155 : GoodIn wsX4_enterDay (wsX2_canGo) := ggX4_enterDay_X2_canGo
set_option maxRecDepth 20000 in
theorem ggX4_enterDay_X4_joyOn : GoodIn wsX4_enterDay wsX4_joyOn := goodIn_r _ [20, 21, 22, 23, 24, 25, 26, 8, 9, 10, 11, 12, 13, 14, 15, 16, 27, 28, 29, 30, 31, 32, 33, 34, 35, 36, 37, 38, 39, 44, 45, 46, 47, 48, 49, 50, 51, 52, 60, 61, 62, 63, 64, 56, 57, 58, 59] (by decide +kernel) (by decide +kernel)
set_option maxRecDepth 20000 in
theorem gX4_enterDay_X4_joyOn : GoodIn wsX4_enterDay (wsV RX4 161 RX4 yX4_joyOn wsX4_joyOn) := goodIn_app (goodIn_of _ (by decide +kernel)) ggX4_enterDay_X4_joyOn
set_option maxRecDepth 20000 in
theorem ggX4_enterDay_X4_stingsOn : GoodIn wsX4_enterDay wsX4_stingsOn := goodIn_r _ [43, 21, 22, 8, 9, 10, 11, 12, 13, 14, 15, 16, 27, 28, 29, 30, 31, 32, 33, 34, 35, 36, 37, 38, 25, 39, 44, 45, 46, 47, 48, 49, 50, 51, 52, 56, 57, 58, 59, 60, 61, 62, 63, 64] (by decide +kernel) (by decide +kernel)
set_option maxRecDepth 20000 in
theorem gX4_enterDay_X4_stingsOn : GoodIn wsX4_enterDay (wsV RX4 165 RX4 yX4_stingsOn wsX4_stingsOn) := goodIn_app (goodIn_of _ (by decide +kernel)) ggX4_enterDay_X4_stingsOn
theorem dX4_enterDay_0 : decode cX4_enterDay 0 = .ok (.aload_n 0, 1) := by decide +kernel
theorem dX4_enterDay_1 : decode cX4_enterDay 1 = .ok (.getfield 21, 3) := by decide +kernel
theorem dX4_enterDay_4 : decode cX4_enterDay 4 = .ok (.iload_n 2, 1) := by decide +kernel
theorem dX4_enterDay_5 : decode cX4_enterDay 5 = .ok (.bipush 10, 2) := by decide +kernel
theorem dX4_enterDay_7 : decode cX4_enterDay 7 = .ok (.invokestatic 260, 3) := by decide +kernel
theorem dX4_enterDay_10 : decode cX4_enterDay 10 = .ok (.iaload, 1) := by decide +kernel
theorem dX4_enterDay_11 : decode cX4_enterDay 11 = .ok (.istore_n 3, 1) := by decide +kernel
theorem dX4_enterDay_12 : decode cX4_enterDay 12 = .ok (.iconst 0, 1) := by decide +kernel
theorem dX4_enterDay_13 : decode cX4_enterDay 13 = .ok (.istore 4, 2) := by decide +kernel
theorem dX4_enterDay_15 : decode cX4_enterDay 15 = .ok (.iload 4, 2) := by decide +kernel
theorem dX4_enterDay_17 : decode cX4_enterDay 17 = .ok (.aload_n 0, 1) := by decide +kernel
theorem dX4_enterDay_18 : decode cX4_enterDay 18 = .ok (.getfield 117, 3) := by decide +kernel
theorem dX4_enterDay_21 : decode cX4_enterDay 21 = .ok (.if_icmp .ge 93, 3) := by decide +kernel
theorem dX4_enterDay_24 : decode cX4_enterDay 24 = .ok (.aload_n 0, 1) := by decide +kernel
theorem dX4_enterDay_25 : decode cX4_enterDay 25 = .ok (.getfield 17, 3) := by decide +kernel
theorem dX4_enterDay_28 : decode cX4_enterDay 28 = .ok (.iload 4, 2) := by decide +kernel
theorem dX4_enterDay_30 : decode cX4_enterDay 30 = .ok (.aaload, 1) := by decide +kernel
theorem dX4_enterDay_31 : decode cX4_enterDay 31 = .ok (.astore 5, 2) := by decide +kernel
theorem dX4_enterDay_33 : decode cX4_enterDay 33 = .ok (.aload 5, 2) := by decide +kernel
theorem dX4_enterDay_35 : decode cX4_enterDay 35 = .ok (.invokevirtual 155, 3) := by decide +kernel
theorem dX4_enterDay_38 : decode cX4_enterDay 38 = .ok (.ifCond .eq 70, 3) := by decide +kernel
theorem dX4_enterDay_41 : decode cX4_enterDay 41 = .ok (.aload_n 0, 1) := by decide +kernel
theorem dX4_enterDay_42 : decode cX4_enterDay 42 = .ok (.aload 5, 2) := by decide +kernel
theorem dX4_enterDay_44 : decode cX4_enterDay 44 = .ok (.iload_n 2, 1) := by decide +kernel
theorem dX4_enterDay_45 : decode cX4_enterDay 45 = .ok (.invokevirtual 161, 3) := by decide +kernel
theorem dX4_enterDay_48 : decode cX4_enterDay 48 = .ok (.istore 6, 2) := by decide +kernel
theorem dX4_enterDay_50 : decode cX4_enterDay 50 = .ok (.aload_n 1, 1) := by decide +kernel
theorem dX4_enterDay_51 : decode cX4_enterDay 51 = .ok (.dup, 1) := by decide +kernel
theorem dX4_enterDay_52 : decode cX4_enterDay 52 = .ok (.getfield 182, 3) := by decide +kernel
theorem dX4_enterDay_55 : decode cX4_enterDay 55 = .ok (.iload 6, 2) := by decide +kernel
theorem dX4_enterDay_57 : decode cX4_enterDay 57 = .ok (.aload 5, 2) := by decide +kernel
theorem dX4_enterDay_59 : decode cX4_enterDay 59 = .ok (.getfield 122, 3) := by decide +kernel
theorem dX4_enterDay_62 : decode cX4_enterDay 62 = .ok (.imul, 1) := by decide +kernel
theorem dX4_enterDay_63 : decode cX4_enterDay 63 = .ok (.bipush 100, 2) := by decide +kernel
theorem dX4_enterDay_65 : decode cX4_enterDay 65 = .ok (.idiv, 1) := by decide +kernel
theorem dX4_enterDay_66 : decode cX4_enterDay 66 = .ok (.aload 5, 2) := by decide +kernel
theorem dX4_enterDay_68 : decode cX4_enterDay 68 = .ok (.getfield 122, 3) := by decide +kernel
theorem dX4_enterDay_71 : decode cX4_enterDay 71 = .ok (.iload_n 3, 1) := by decide +kernel
theorem dX4_enterDay_72 : decode cX4_enterDay 72 = .ok (.imul, 1) := by decide +kernel
theorem dX4_enterDay_73 : decode cX4_enterDay 73 = .ok (.bipush 40, 2) := by decide +kernel
theorem dX4_enterDay_75 : decode cX4_enterDay 75 = .ok (.idiv, 1) := by decide +kernel
theorem dX4_enterDay_76 : decode cX4_enterDay 76 = .ok (.iadd, 1) := by decide +kernel
theorem dX4_enterDay_77 : decode cX4_enterDay 77 = .ok (.iadd, 1) := by decide +kernel
theorem dX4_enterDay_78 : decode cX4_enterDay 78 = .ok (.putfield 182, 3) := by decide +kernel
theorem dX4_enterDay_81 : decode cX4_enterDay 81 = .ok (.aload_n 1, 1) := by decide +kernel
theorem dX4_enterDay_82 : decode cX4_enterDay 82 = .ok (.dup, 1) := by decide +kernel
theorem dX4_enterDay_83 : decode cX4_enterDay 83 = .ok (.getfield 185, 3) := by decide +kernel
theorem dX4_enterDay_86 : decode cX4_enterDay 86 = .ok (.iload 6, 2) := by decide +kernel
theorem dX4_enterDay_88 : decode cX4_enterDay 88 = .ok (.iadd, 1) := by decide +kernel
theorem dX4_enterDay_89 : decode cX4_enterDay 89 = .ok (.putfield 185, 3) := by decide +kernel
theorem dX4_enterDay_92 : decode cX4_enterDay 92 = .ok (.aload_n 1, 1) := by decide +kernel
theorem dX4_enterDay_93 : decode cX4_enterDay 93 = .ok (.dup, 1) := by decide +kernel
theorem dX4_enterDay_94 : decode cX4_enterDay 94 = .ok (.getfield 188, 3) := by decide +kernel
theorem dX4_enterDay_97 : decode cX4_enterDay 97 = .ok (.aload_n 0, 1) := by decide +kernel
theorem dX4_enterDay_98 : decode cX4_enterDay 98 = .ok (.aload 5, 2) := by decide +kernel
theorem dX4_enterDay_100 : decode cX4_enterDay 100 = .ok (.iload_n 2, 1) := by decide +kernel
theorem dX4_enterDay_101 : decode cX4_enterDay 101 = .ok (.invokevirtual 165, 3) := by decide +kernel
theorem dX4_enterDay_104 : decode cX4_enterDay 104 = .ok (.iadd, 1) := by decide +kernel
theorem dX4_enterDay_105 : decode cX4_enterDay 105 = .ok (.putfield 188, 3) := by decide +kernel
theorem dX4_enterDay_108 : decode cX4_enterDay 108 = .ok (.iinc 4 1, 3) := by decide +kernel
theorem dX4_enterDay_111 : decode cX4_enterDay 111 = .ok (.goto (-96), 3) := by decide +kernel
theorem dX4_enterDay_114 : decode cX4_enterDay 114 = .ok (.return_, 1) := by decide +kernel
set_option maxRecDepth 20000 in
theorem ggX4_toursThatCanGo_X2_canGo : GoodIn wsX4_toursThatCanGo wsX2_canGo := goodIn_r _ [6, 7, 8, 9, 10, 11, 21, 22, 23, 24] (by decide +kernel) (by decide +kernel)
set_option maxRecDepth 20000 in
theorem gX4_toursThatCanGo_X2_canGo_n155 : GoodIn wsX4_toursThatCanGo (wsX2_canGo) := ggX4_toursThatCanGo_X2_canGo
theorem dX4_toursThatCanGo_0 : decode cX4_toursThatCanGo 0 = .ok (.iconst 0, 1) := by decide +kernel
theorem dX4_toursThatCanGo_1 : decode cX4_toursThatCanGo 1 = .ok (.istore_n 1, 1) := by decide +kernel
theorem dX4_toursThatCanGo_2 : decode cX4_toursThatCanGo 2 = .ok (.iconst 0, 1) := by decide +kernel
theorem dX4_toursThatCanGo_3 : decode cX4_toursThatCanGo 3 = .ok (.istore_n 2, 1) := by decide +kernel
theorem dX4_toursThatCanGo_4 : decode cX4_toursThatCanGo 4 = .ok (.iload_n 2, 1) := by decide +kernel
theorem dX4_toursThatCanGo_5 : decode cX4_toursThatCanGo 5 = .ok (.aload_n 0, 1) := by decide +kernel
theorem dX4_toursThatCanGo_6 : decode cX4_toursThatCanGo 6 = .ok (.getfield 117, 3) := by decide +kernel
theorem dX4_toursThatCanGo_9 : decode cX4_toursThatCanGo 9 = .ok (.if_icmp .ge 24, 3) := by decide +kernel
theorem dX4_toursThatCanGo_12 : decode cX4_toursThatCanGo 12 = .ok (.aload_n 0, 1) := by decide +kernel
theorem dX4_toursThatCanGo_13 : decode cX4_toursThatCanGo 13 = .ok (.getfield 17, 3) := by decide +kernel
theorem dX4_toursThatCanGo_16 : decode cX4_toursThatCanGo 16 = .ok (.iload_n 2, 1) := by decide +kernel
theorem dX4_toursThatCanGo_17 : decode cX4_toursThatCanGo 17 = .ok (.aaload, 1) := by decide +kernel
theorem dX4_toursThatCanGo_18 : decode cX4_toursThatCanGo 18 = .ok (.invokevirtual 155, 3) := by decide +kernel
theorem dX4_toursThatCanGo_21 : decode cX4_toursThatCanGo 21 = .ok (.ifCond .eq 6, 3) := by decide +kernel
theorem dX4_toursThatCanGo_24 : decode cX4_toursThatCanGo 24 = .ok (.iinc 1 1, 3) := by decide +kernel
theorem dX4_toursThatCanGo_27 : decode cX4_toursThatCanGo 27 = .ok (.iinc 2 1, 3) := by decide +kernel
theorem dX4_toursThatCanGo_30 : decode cX4_toursThatCanGo 30 = .ok (.goto (-26), 3) := by decide +kernel
theorem dX4_toursThatCanGo_33 : decode cX4_toursThatCanGo 33 = .ok (.iload_n 1, 1) := by decide +kernel
theorem dX4_toursThatCanGo_34 : decode cX4_toursThatCanGo 34 = .ok (.ireturn, 1) := by decide +kernel
set_option maxRecDepth 20000 in
theorem ggX4_valleysInBloomOn_X3_bloomOn : GoodIn wsX4_valleysInBloomOn wsX3_bloomOn := goodIn_r _ [6, 7, 8, 9, 10, 11, 12, 22, 23, 24, 25, 26] (by decide +kernel) (by decide +kernel)
set_option maxRecDepth 20000 in
theorem gX4_valleysInBloomOn_X3_bloomOn_n107 : GoodIn wsX4_valleysInBloomOn (wsX3_bloomOn) := ggX4_valleysInBloomOn_X3_bloomOn
theorem dX4_valleysInBloomOn_0 : decode cX4_valleysInBloomOn 0 = .ok (.iconst 0, 1) := by decide +kernel
theorem dX4_valleysInBloomOn_1 : decode cX4_valleysInBloomOn 1 = .ok (.istore_n 2, 1) := by decide +kernel
theorem dX4_valleysInBloomOn_2 : decode cX4_valleysInBloomOn 2 = .ok (.iconst 0, 1) := by decide +kernel
theorem dX4_valleysInBloomOn_3 : decode cX4_valleysInBloomOn 3 = .ok (.istore_n 3, 1) := by decide +kernel
theorem dX4_valleysInBloomOn_4 : decode cX4_valleysInBloomOn 4 = .ok (.iload_n 3, 1) := by decide +kernel
theorem dX4_valleysInBloomOn_5 : decode cX4_valleysInBloomOn 5 = .ok (.aload_n 0, 1) := by decide +kernel
theorem dX4_valleysInBloomOn_6 : decode cX4_valleysInBloomOn 6 = .ok (.getfield 59, 3) := by decide +kernel
theorem dX4_valleysInBloomOn_9 : decode cX4_valleysInBloomOn 9 = .ok (.if_icmp .ge 25, 3) := by decide +kernel
theorem dX4_valleysInBloomOn_12 : decode cX4_valleysInBloomOn 12 = .ok (.aload_n 0, 1) := by decide +kernel
theorem dX4_valleysInBloomOn_13 : decode cX4_valleysInBloomOn 13 = .ok (.getfield 11, 3) := by decide +kernel
theorem dX4_valleysInBloomOn_16 : decode cX4_valleysInBloomOn 16 = .ok (.iload_n 3, 1) := by decide +kernel
theorem dX4_valleysInBloomOn_17 : decode cX4_valleysInBloomOn 17 = .ok (.aaload, 1) := by decide +kernel
theorem dX4_valleysInBloomOn_18 : decode cX4_valleysInBloomOn 18 = .ok (.iload_n 1, 1) := by decide +kernel
theorem dX4_valleysInBloomOn_19 : decode cX4_valleysInBloomOn 19 = .ok (.invokevirtual 107, 3) := by decide +kernel
theorem dX4_valleysInBloomOn_22 : decode cX4_valleysInBloomOn 22 = .ok (.ifCond .le 6, 3) := by decide +kernel
theorem dX4_valleysInBloomOn_25 : decode cX4_valleysInBloomOn 25 = .ok (.iinc 2 1, 3) := by decide +kernel
theorem dX4_valleysInBloomOn_28 : decode cX4_valleysInBloomOn 28 = .ok (.iinc 3 1, 3) := by decide +kernel
theorem dX4_valleysInBloomOn_31 : decode cX4_valleysInBloomOn 31 = .ok (.goto (-27), 3) := by decide +kernel
theorem dX4_valleysInBloomOn_34 : decode cX4_valleysInBloomOn 34 = .ok (.iload_n 2, 1) := by decide +kernel
theorem dX4_valleysInBloomOn_35 : decode cX4_valleysInBloomOn 35 = .ok (.ireturn, 1) := by decide +kernel
theorem dX5_init_0 : decode cX5_init 0 = .ok (.aload_n 0, 1) := by decide +kernel
theorem dX5_init_1 : decode cX5_init 1 = .ok (.invokespecial 1, 3) := by decide +kernel
theorem dX5_init_4 : decode cX5_init 4 = .ok (.aload_n 0, 1) := by decide +kernel
theorem dX5_init_5 : decode cX5_init 5 = .ok (.bipush 8, 2) := by decide +kernel
theorem dX5_init_7 : decode cX5_init 7 = .ok (.newarray .int, 2) := by decide +kernel
theorem dX5_init_9 : decode cX5_init 9 = .ok (.putfield 9, 3) := by decide +kernel
theorem dX5_init_12 : decode cX5_init 12 = .ok (.aload_n 0, 1) := by decide +kernel
theorem dX5_init_13 : decode cX5_init 13 = .ok (.bipush 8, 2) := by decide +kernel
theorem dX5_init_15 : decode cX5_init 15 = .ok (.newarray .int, 2) := by decide +kernel
theorem dX5_init_17 : decode cX5_init 17 = .ok (.putfield 13, 3) := by decide +kernel
theorem dX5_init_20 : decode cX5_init 20 = .ok (.aload_n 0, 1) := by decide +kernel
theorem dX5_init_21 : decode cX5_init 21 = .ok (.bipush 8, 2) := by decide +kernel
theorem dX5_init_23 : decode cX5_init 23 = .ok (.newarray .int, 2) := by decide +kernel
theorem dX5_init_25 : decode cX5_init 25 = .ok (.putfield 16, 3) := by decide +kernel
theorem dX5_init_28 : decode cX5_init 28 = .ok (.aload_n 0, 1) := by decide +kernel
theorem dX5_init_29 : decode cX5_init 29 = .ok (.bipush 64, 2) := by decide +kernel
theorem dX5_init_31 : decode cX5_init 31 = .ok (.newarray .int, 2) := by decide +kernel
theorem dX5_init_33 : decode cX5_init 33 = .ok (.putfield 19, 3) := by decide +kernel
theorem dX5_init_36 : decode cX5_init 36 = .ok (.aload_n 0, 1) := by decide +kernel
theorem dX5_init_37 : decode cX5_init 37 = .ok (.bipush 10, 2) := by decide +kernel
theorem dX5_init_39 : decode cX5_init 39 = .ok (.newarray .int, 2) := by decide +kernel
theorem dX5_init_41 : decode cX5_init 41 = .ok (.dup, 1) := by decide +kernel
theorem dX5_init_42 : decode cX5_init 42 = .ok (.iconst 0, 1) := by decide +kernel
theorem dX5_init_43 : decode cX5_init 43 = .ok (.bipush 20, 2) := by decide +kernel
theorem dX5_init_45 : decode cX5_init 45 = .ok (.iastore, 1) := by decide +kernel
theorem dX5_init_46 : decode cX5_init 46 = .ok (.dup, 1) := by decide +kernel
theorem dX5_init_47 : decode cX5_init 47 = .ok (.iconst 1, 1) := by decide +kernel
theorem dX5_init_48 : decode cX5_init 48 = .ok (.bipush 20, 2) := by decide +kernel
theorem dX5_init_50 : decode cX5_init 50 = .ok (.iastore, 1) := by decide +kernel
theorem dX5_init_51 : decode cX5_init 51 = .ok (.dup, 1) := by decide +kernel
theorem dX5_init_52 : decode cX5_init 52 = .ok (.iconst 2, 1) := by decide +kernel
theorem dX5_init_53 : decode cX5_init 53 = .ok (.bipush 20, 2) := by decide +kernel
theorem dX5_init_55 : decode cX5_init 55 = .ok (.iastore, 1) := by decide +kernel
theorem dX5_init_56 : decode cX5_init 56 = .ok (.dup, 1) := by decide +kernel
theorem dX5_init_57 : decode cX5_init 57 = .ok (.iconst 3, 1) := by decide +kernel
theorem dX5_init_58 : decode cX5_init 58 = .ok (.bipush 20, 2) := by decide +kernel
theorem dX5_init_60 : decode cX5_init 60 = .ok (.iastore, 1) := by decide +kernel
theorem dX5_init_61 : decode cX5_init 61 = .ok (.dup, 1) := by decide +kernel
theorem dX5_init_62 : decode cX5_init 62 = .ok (.iconst 4, 1) := by decide +kernel
theorem dX5_init_63 : decode cX5_init 63 = .ok (.bipush 20, 2) := by decide +kernel
theorem dX5_init_65 : decode cX5_init 65 = .ok (.iastore, 1) := by decide +kernel
theorem dX5_init_66 : decode cX5_init 66 = .ok (.dup, 1) := by decide +kernel
theorem dX5_init_67 : decode cX5_init 67 = .ok (.iconst 5, 1) := by decide +kernel
theorem dX5_init_68 : decode cX5_init 68 = .ok (.bipush 20, 2) := by decide +kernel
theorem dX5_init_70 : decode cX5_init 70 = .ok (.iastore, 1) := by decide +kernel
theorem dX5_init_71 : decode cX5_init 71 = .ok (.dup, 1) := by decide +kernel
theorem dX5_init_72 : decode cX5_init 72 = .ok (.bipush 6, 2) := by decide +kernel
theorem dX5_init_74 : decode cX5_init 74 = .ok (.bipush 20, 2) := by decide +kernel
theorem dX5_init_76 : decode cX5_init 76 = .ok (.iastore, 1) := by decide +kernel
theorem dX5_init_77 : decode cX5_init 77 = .ok (.dup, 1) := by decide +kernel
theorem dX5_init_78 : decode cX5_init 78 = .ok (.bipush 7, 2) := by decide +kernel
theorem dX5_init_80 : decode cX5_init 80 = .ok (.bipush 20, 2) := by decide +kernel
theorem dX5_init_82 : decode cX5_init 82 = .ok (.iastore, 1) := by decide +kernel
theorem dX5_init_83 : decode cX5_init 83 = .ok (.dup, 1) := by decide +kernel
theorem dX5_init_84 : decode cX5_init 84 = .ok (.bipush 8, 2) := by decide +kernel
theorem dX5_init_86 : decode cX5_init 86 = .ok (.bipush 20, 2) := by decide +kernel
theorem dX5_init_88 : decode cX5_init 88 = .ok (.iastore, 1) := by decide +kernel
theorem dX5_init_89 : decode cX5_init 89 = .ok (.dup, 1) := by decide +kernel
theorem dX5_init_90 : decode cX5_init 90 = .ok (.bipush 9, 2) := by decide +kernel
theorem dX5_init_92 : decode cX5_init 92 = .ok (.bipush 20, 2) := by decide +kernel
theorem dX5_init_94 : decode cX5_init 94 = .ok (.iastore, 1) := by decide +kernel
theorem dX5_init_95 : decode cX5_init 95 = .ok (.putfield 22, 3) := by decide +kernel
theorem dX5_init_98 : decode cX5_init 98 = .ok (.aload_n 0, 1) := by decide +kernel
theorem dX5_init_99 : decode cX5_init 99 = .ok (.bipush 6, 2) := by decide +kernel
theorem dX5_init_101 : decode cX5_init 101 = .ok (.newarray .int, 2) := by decide +kernel
theorem dX5_init_103 : decode cX5_init 103 = .ok (.putfield 25, 3) := by decide +kernel
theorem dX5_init_106 : decode cX5_init 106 = .ok (.aload_n 0, 1) := by decide +kernel
theorem dX5_init_107 : decode cX5_init 107 = .ok (.bipush 6, 2) := by decide +kernel
theorem dX5_init_109 : decode cX5_init 109 = .ok (.newarray .int, 2) := by decide +kernel
theorem dX5_init_111 : decode cX5_init 111 = .ok (.putfield 28, 3) := by decide +kernel
theorem dX5_init_114 : decode cX5_init 114 = .ok (.aload_n 0, 1) := by decide +kernel
theorem dX5_init_115 : decode cX5_init 115 = .ok (.bipush 30, 2) := by decide +kernel
theorem dX5_init_117 : decode cX5_init 117 = .ok (.newarray .int, 2) := by decide +kernel
theorem dX5_init_119 : decode cX5_init 119 = .ok (.putfield 31, 3) := by decide +kernel
theorem dX5_init_122 : decode cX5_init 122 = .ok (.aload_n 0, 1) := by decide +kernel
theorem dX5_init_123 : decode cX5_init 123 = .ok (.iconst 4, 1) := by decide +kernel
theorem dX5_init_124 : decode cX5_init 124 = .ok (.newarray .int, 2) := by decide +kernel
theorem dX5_init_126 : decode cX5_init 126 = .ok (.putfield 34, 3) := by decide +kernel
theorem dX5_init_129 : decode cX5_init 129 = .ok (.iconst 0, 1) := by decide +kernel
theorem dX5_init_130 : decode cX5_init 130 = .ok (.istore_n 1, 1) := by decide +kernel
theorem dX5_init_131 : decode cX5_init 131 = .ok (.iload_n 1, 1) := by decide +kernel
theorem dX5_init_132 : decode cX5_init 132 = .ok (.aload_n 0, 1) := by decide +kernel
theorem dX5_init_133 : decode cX5_init 133 = .ok (.getfield 19, 3) := by decide +kernel
theorem dX5_init_136 : decode cX5_init 136 = .ok (.arraylength, 1) := by decide +kernel
theorem dX5_init_137 : decode cX5_init 137 = .ok (.if_icmp .ge 27, 3) := by decide +kernel
theorem dX5_init_140 : decode cX5_init 140 = .ok (.aload_n 0, 1) := by decide +kernel
theorem dX5_init_141 : decode cX5_init 141 = .ok (.getfield 19, 3) := by decide +kernel
theorem dX5_init_144 : decode cX5_init 144 = .ok (.iload_n 1, 1) := by decide +kernel
theorem dX5_init_145 : decode cX5_init 145 = .ok (.iload_n 1, 1) := by decide +kernel
theorem dX5_init_146 : decode cX5_init 146 = .ok (.bipush 9, 2) := by decide +kernel
theorem dX5_init_148 : decode cX5_init 148 = .ok (.irem, 1) := by decide +kernel
theorem dX5_init_149 : decode cX5_init 149 = .ok (.ifCond .ne 7, 3) := by decide +kernel
theorem dX5_init_152 : decode cX5_init 152 = .ok (.iconst 0, 1) := by decide +kernel
theorem dX5_init_153 : decode cX5_init 153 = .ok (.goto 4, 3) := by decide +kernel
theorem dX5_init_156 : decode cX5_init 156 = .ok (.iconst (-1), 1) := by decide +kernel
theorem dX5_init_157 : decode cX5_init 157 = .ok (.iastore, 1) := by decide +kernel
theorem dX5_init_158 : decode cX5_init 158 = .ok (.iinc 1 1, 3) := by decide +kernel
theorem dX5_init_161 : decode cX5_init 161 = .ok (.goto (-30), 3) := by decide +kernel
theorem dX5_init_164 : decode cX5_init 164 = .ok (.return_, 1) := by decide +kernel
theorem dX5_thrown_0 : decode cX5_thrown 0 = .ok (.aload_n 0, 1) := by decide +kernel
theorem dX5_thrown_1 : decode cX5_thrown 1 = .ok (.getfield 37, 3) := by decide +kernel
theorem dX5_thrown_4 : decode cX5_thrown 4 = .ok (.ireturn, 1) := by decide +kernel
theorem dX5_no_0 : decode cX5_no 0 = .ok (.aload_n 0, 1) := by decide +kernel
theorem dX5_no_1 : decode cX5_no 1 = .ok (.iload_n 1, 1) := by decide +kernel
theorem dX5_no_2 : decode cX5_no 2 = .ok (.putfield 37, 3) := by decide +kernel
theorem dX5_no_5 : decode cX5_no 5 = .ok (.iconst 0, 1) := by decide +kernel
theorem dX5_no_6 : decode cX5_no 6 = .ok (.ireturn, 1) := by decide +kernel
theorem dX5_isIn_0 : decode cX5_isIn 0 = .ok (.iload_n 0, 1) := by decide +kernel
theorem dX5_isIn_1 : decode cX5_isIn 1 = .ok (.iload_n 1, 1) := by decide +kernel
theorem dX5_isIn_2 : decode cX5_isIn 2 = .ok (.if_icmp .lt 12, 3) := by decide +kernel
theorem dX5_isIn_5 : decode cX5_isIn 5 = .ok (.iload_n 0, 1) := by decide +kernel
theorem dX5_isIn_6 : decode cX5_isIn 6 = .ok (.iload_n 2, 1) := by decide +kernel
theorem dX5_isIn_7 : decode cX5_isIn 7 = .ok (.if_icmp .gt 7, 3) := by decide +kernel
theorem dX5_isIn_10 : decode cX5_isIn 10 = .ok (.iconst 1, 1) := by decide +kernel
theorem dX5_isIn_11 : decode cX5_isIn 11 = .ok (.goto 4, 3) := by decide +kernel
theorem dX5_isIn_14 : decode cX5_isIn 14 = .ok (.iconst 0, 1) := by decide +kernel
theorem dX5_isIn_15 : decode cX5_isIn 15 = .ok (.ireturn, 1) := by decide +kernel
set_option maxRecDepth 20000 in
theorem ggX5_isValley_X5_isIn : GoodIn wsX5_isValley wsX5_isIn := goodIn_r _ [5] (by decide +kernel) (by decide +kernel)
set_option maxRecDepth 20000 in
theorem gX5_isValley_X5_isIn : GoodIn wsX5_isValley (va_wsS RX5 44 yX5_isIn wsX5_isIn) := goodIn_app (goodIn_of _ (by decide +kernel)) ggX5_isValley_X5_isIn
theorem dX5_isValley_0 : decode cX5_isValley 0 = .ok (.iload_n 1, 1) := by decide +kernel
theorem dX5_isValley_1 : decode cX5_isValley 1 = .ok (.iconst 0, 1) := by decide +kernel
theorem dX5_isValley_2 : decode cX5_isValley 2 = .ok (.aload_n 0, 1) := by decide +kernel
theorem dX5_isValley_3 : decode cX5_isValley 3 = .ok (.getfield 41, 3) := by decide +kernel
theorem dX5_isValley_6 : decode cX5_isValley 6 = .ok (.iconst 1, 1) := by decide +kernel
theorem dX5_isValley_7 : decode cX5_isValley 7 = .ok (.isub, 1) := by decide +kernel
theorem dX5_isValley_8 : decode cX5_isValley 8 = .ok (.invokestatic 44, 3) := by decide +kernel
theorem dX5_isValley_11 : decode cX5_isValley 11 = .ok (.ireturn, 1) := by decide +kernel
set_option maxRecDepth 20000 in
theorem ggX5_isTour_X5_isIn : GoodIn wsX5_isTour wsX5_isIn := goodIn_r _ [5] (by decide +kernel) (by decide +kernel)
set_option maxRecDepth 20000 in
theorem gX5_isTour_X5_isIn : GoodIn wsX5_isTour (va_wsS RX5 44 yX5_isIn wsX5_isIn) := goodIn_app (goodIn_of _ (by decide +kernel)) ggX5_isTour_X5_isIn
theorem dX5_isTour_0 : decode cX5_isTour 0 = .ok (.iload_n 1, 1) := by decide +kernel
theorem dX5_isTour_1 : decode cX5_isTour 1 = .ok (.iconst 0, 1) := by decide +kernel
theorem dX5_isTour_2 : decode cX5_isTour 2 = .ok (.aload_n 0, 1) := by decide +kernel
theorem dX5_isTour_3 : decode cX5_isTour 3 = .ok (.getfield 48, 3) := by decide +kernel
theorem dX5_isTour_6 : decode cX5_isTour 6 = .ok (.iconst 1, 1) := by decide +kernel
theorem dX5_isTour_7 : decode cX5_isTour 7 = .ok (.isub, 1) := by decide +kernel
theorem dX5_isTour_8 : decode cX5_isTour 8 = .ok (.invokestatic 44, 3) := by decide +kernel
theorem dX5_isTour_11 : decode cX5_isTour 11 = .ok (.ireturn, 1) := by decide +kernel
set_option maxRecDepth 20000 in
theorem ggX5_valley_X5_isIn : GoodIn wsX5_valley wsX5_isIn := goodIn_r _ [9] (by decide +kernel) (by decide +kernel)
set_option maxRecDepth 20000 in
theorem gX5_valley_X5_isIn : GoodIn wsX5_valley (va_wsS RX5 44 yX5_isIn wsX5_isIn) := goodIn_app (goodIn_of _ (by decide +kernel)) ggX5_valley_X5_isIn
set_option maxRecDepth 20000 in
theorem ggX5_valley_X5_no : GoodIn wsX5_valley wsX5_no := goodIn_r _ [13, 1, 14, 15, 16, 17, 18, 19, 20, 21, 22, 23, 24, 25, 26] (by decide +kernel) (by decide +kernel)
set_option maxRecDepth 20000 in
theorem gX5_valley_X5_no : GoodIn wsX5_valley (wsV RX5 51 RX5 yX5_no wsX5_no) := goodIn_app (goodIn_of _ (by decide +kernel)) ggX5_valley_X5_no
theorem dX5_valley_0 : decode cX5_valley 0 = .ok (.aload_n 0, 1) := by decide +kernel
theorem dX5_valley_1 : decode cX5_valley 1 = .ok (.iconst 0, 1) := by decide +kernel
theorem dX5_valley_2 : decode cX5_valley 2 = .ok (.putfield 37, 3) := by decide +kernel
theorem dX5_valley_5 : decode cX5_valley 5 = .ok (.iload_n 1, 1) := by decide +kernel
theorem dX5_valley_6 : decode cX5_valley 6 = .ok (.iconst 0, 1) := by decide +kernel
theorem dX5_valley_7 : decode cX5_valley 7 = .ok (.bipush 90, 2) := by decide +kernel
theorem dX5_valley_9 : decode cX5_valley 9 = .ok (.invokestatic 44, 3) := by decide +kernel
theorem dX5_valley_12 : decode cX5_valley 12 = .ok (.ifCond .eq 23, 3) := by decide +kernel
theorem dX5_valley_15 : decode cX5_valley 15 = .ok (.iload_n 2, 1) := by decide +kernel
theorem dX5_valley_16 : decode cX5_valley 16 = .ok (.iconst 1, 1) := by decide +kernel
theorem dX5_valley_17 : decode cX5_valley 17 = .ok (.bipush 30, 2) := by decide +kernel
theorem dX5_valley_19 : decode cX5_valley 19 = .ok (.invokestatic 44, 3) := by decide +kernel
theorem dX5_valley_22 : decode cX5_valley 22 = .ok (.ifCond .eq 13, 3) := by decide +kernel
theorem dX5_valley_25 : decode cX5_valley 25 = .ok (.iload_n 3, 1) := by decide +kernel
theorem dX5_valley_26 : decode cX5_valley 26 = .ok (.iconst 0, 1) := by decide +kernel
theorem dX5_valley_27 : decode cX5_valley 27 = .ok (.bipush 50, 2) := by decide +kernel
theorem dX5_valley_29 : decode cX5_valley 29 = .ok (.invokestatic 44, 3) := by decide +kernel
theorem dX5_valley_32 : decode cX5_valley 32 = .ok (.ifCond .ne 9, 3) := by decide +kernel
theorem dX5_valley_35 : decode cX5_valley 35 = .ok (.aload_n 0, 1) := by decide +kernel
theorem dX5_valley_36 : decode cX5_valley 36 = .ok (.iconst 1, 1) := by decide +kernel
theorem dX5_valley_37 : decode cX5_valley 37 = .ok (.invokevirtual 51, 3) := by decide +kernel
theorem dX5_valley_40 : decode cX5_valley 40 = .ok (.ireturn, 1) := by decide +kernel
theorem dX5_valley_41 : decode cX5_valley 41 = .ok (.aload_n 0, 1) := by decide +kernel
theorem dX5_valley_42 : decode cX5_valley 42 = .ok (.getfield 41, 3) := by decide +kernel
theorem dX5_valley_45 : decode cX5_valley 45 = .ok (.bipush 8, 2) := by decide +kernel
theorem dX5_valley_47 : decode cX5_valley 47 = .ok (.if_icmp .ne 9, 3) := by decide +kernel
theorem dX5_valley_50 : decode cX5_valley 50 = .ok (.aload_n 0, 1) := by decide +kernel
theorem dX5_valley_51 : decode cX5_valley 51 = .ok (.iconst 2, 1) := by decide +kernel
theorem dX5_valley_52 : decode cX5_valley 52 = .ok (.invokevirtual 51, 3) := by decide +kernel
theorem dX5_valley_55 : decode cX5_valley 55 = .ok (.ireturn, 1) := by decide +kernel
theorem dX5_valley_56 : decode cX5_valley 56 = .ok (.aload_n 0, 1) := by decide +kernel
theorem dX5_valley_57 : decode cX5_valley 57 = .ok (.getfield 9, 3) := by decide +kernel
theorem dX5_valley_60 : decode cX5_valley 60 = .ok (.aload_n 0, 1) := by decide +kernel
theorem dX5_valley_61 : decode cX5_valley 61 = .ok (.getfield 41, 3) := by decide +kernel
theorem dX5_valley_64 : decode cX5_valley 64 = .ok (.iload_n 1, 1) := by decide +kernel
theorem dX5_valley_65 : decode cX5_valley 65 = .ok (.iastore, 1) := by decide +kernel
theorem dX5_valley_66 : decode cX5_valley 66 = .ok (.aload_n 0, 1) := by decide +kernel
theorem dX5_valley_67 : decode cX5_valley 67 = .ok (.getfield 13, 3) := by decide +kernel
theorem dX5_valley_70 : decode cX5_valley 70 = .ok (.aload_n 0, 1) := by decide +kernel
theorem dX5_valley_71 : decode cX5_valley 71 = .ok (.getfield 41, 3) := by decide +kernel
theorem dX5_valley_74 : decode cX5_valley 74 = .ok (.iload_n 2, 1) := by decide +kernel
theorem dX5_valley_75 : decode cX5_valley 75 = .ok (.iastore, 1) := by decide +kernel
theorem dX5_valley_76 : decode cX5_valley 76 = .ok (.aload_n 0, 1) := by decide +kernel
theorem dX5_valley_77 : decode cX5_valley 77 = .ok (.getfield 16, 3) := by decide +kernel
theorem dX5_valley_80 : decode cX5_valley 80 = .ok (.aload_n 0, 1) := by decide +kernel
theorem dX5_valley_81 : decode cX5_valley 81 = .ok (.getfield 41, 3) := by decide +kernel
theorem dX5_valley_84 : decode cX5_valley 84 = .ok (.iload_n 3, 1) := by decide +kernel
theorem dX5_valley_85 : decode cX5_valley 85 = .ok (.iastore, 1) := by decide +kernel
theorem dX5_valley_86 : decode cX5_valley 86 = .ok (.aload_n 0, 1) := by decide +kernel
theorem dX5_valley_87 : decode cX5_valley 87 = .ok (.dup, 1) := by decide +kernel
theorem dX5_valley_88 : decode cX5_valley 88 = .ok (.getfield 41, 3) := by decide +kernel
theorem dX5_valley_91 : decode cX5_valley 91 = .ok (.iconst 1, 1) := by decide +kernel
theorem dX5_valley_92 : decode cX5_valley 92 = .ok (.iadd, 1) := by decide +kernel
theorem dX5_valley_93 : decode cX5_valley 93 = .ok (.putfield 41, 3) := by decide +kernel
theorem dX5_valley_96 : decode cX5_valley 96 = .ok (.aload_n 0, 1) := by decide +kernel
theorem dX5_valley_97 : decode cX5_valley 97 = .ok (.getfield 41, 3) := by decide +kernel
theorem dX5_valley_100 : decode cX5_valley 100 = .ok (.iconst 1, 1) := by decide +kernel
theorem dX5_valley_101 : decode cX5_valley 101 = .ok (.isub, 1) := by decide +kernel
theorem dX5_valley_102 : decode cX5_valley 102 = .ok (.ireturn, 1) := by decide +kernel
theorem dX5_shorten_0 : decode cX5_shorten 0 = .ok (.iconst 0, 1) := by decide +kernel
theorem dX5_shorten_1 : decode cX5_shorten 1 = .ok (.istore 4, 2) := by decide +kernel
theorem dX5_shorten_3 : decode cX5_shorten 3 = .ok (.iload 4, 2) := by decide +kernel
theorem dX5_shorten_5 : decode cX5_shorten 5 = .ok (.bipush 8, 2) := by decide +kernel
theorem dX5_shorten_7 : decode cX5_shorten 7 = .ok (.if_icmp .ge 121, 3) := by decide +kernel
theorem dX5_shorten_10 : decode cX5_shorten 10 = .ok (.iconst 0, 1) := by decide +kernel
theorem dX5_shorten_11 : decode cX5_shorten 11 = .ok (.istore 5, 2) := by decide +kernel
theorem dX5_shorten_13 : decode cX5_shorten 13 = .ok (.iload 5, 2) := by decide +kernel
theorem dX5_shorten_15 : decode cX5_shorten 15 = .ok (.bipush 8, 2) := by decide +kernel
theorem dX5_shorten_17 : decode cX5_shorten 17 = .ok (.if_icmp .ge 105, 3) := by decide +kernel
theorem dX5_shorten_20 : decode cX5_shorten 20 = .ok (.aload_n 0, 1) := by decide +kernel
theorem dX5_shorten_21 : decode cX5_shorten 21 = .ok (.getfield 19, 3) := by decide +kernel
theorem dX5_shorten_24 : decode cX5_shorten 24 = .ok (.bipush 8, 2) := by decide +kernel
theorem dX5_shorten_26 : decode cX5_shorten 26 = .ok (.iload 4, 2) := by decide +kernel
theorem dX5_shorten_28 : decode cX5_shorten 28 = .ok (.imul, 1) := by decide +kernel
theorem dX5_shorten_29 : decode cX5_shorten 29 = .ok (.iload_n 1, 1) := by decide +kernel
theorem dX5_shorten_30 : decode cX5_shorten 30 = .ok (.iadd, 1) := by decide +kernel
theorem dX5_shorten_31 : decode cX5_shorten 31 = .ok (.iaload, 1) := by decide +kernel
theorem dX5_shorten_32 : decode cX5_shorten 32 = .ok (.istore 6, 2) := by decide +kernel
theorem dX5_shorten_34 : decode cX5_shorten 34 = .ok (.aload_n 0, 1) := by decide +kernel
theorem dX5_shorten_35 : decode cX5_shorten 35 = .ok (.getfield 19, 3) := by decide +kernel
theorem dX5_shorten_38 : decode cX5_shorten 38 = .ok (.bipush 8, 2) := by decide +kernel
theorem dX5_shorten_40 : decode cX5_shorten 40 = .ok (.iload_n 2, 1) := by decide +kernel
theorem dX5_shorten_41 : decode cX5_shorten 41 = .ok (.imul, 1) := by decide +kernel
theorem dX5_shorten_42 : decode cX5_shorten 42 = .ok (.iload 5, 2) := by decide +kernel
theorem dX5_shorten_44 : decode cX5_shorten 44 = .ok (.iadd, 1) := by decide +kernel
theorem dX5_shorten_45 : decode cX5_shorten 45 = .ok (.iaload, 1) := by decide +kernel
theorem dX5_shorten_46 : decode cX5_shorten 46 = .ok (.istore 7, 2) := by decide +kernel
theorem dX5_shorten_48 : decode cX5_shorten 48 = .ok (.iload 6, 2) := by decide +kernel
theorem dX5_shorten_50 : decode cX5_shorten 50 = .ok (.iconst (-1), 1) := by decide +kernel
theorem dX5_shorten_51 : decode cX5_shorten 51 = .ok (.if_icmp .eq 65, 3) := by decide +kernel
theorem dX5_shorten_54 : decode cX5_shorten 54 = .ok (.iload 7, 2) := by decide +kernel
theorem dX5_shorten_56 : decode cX5_shorten 56 = .ok (.iconst (-1), 1) := by decide +kernel
theorem dX5_shorten_57 : decode cX5_shorten 57 = .ok (.if_icmp .ne 6, 3) := by decide +kernel
theorem dX5_shorten_60 : decode cX5_shorten 60 = .ok (.goto 56, 3) := by decide +kernel
theorem dX5_shorten_63 : decode cX5_shorten 63 = .ok (.aload_n 0, 1) := by decide +kernel
theorem dX5_shorten_64 : decode cX5_shorten 64 = .ok (.getfield 19, 3) := by decide +kernel
theorem dX5_shorten_67 : decode cX5_shorten 67 = .ok (.bipush 8, 2) := by decide +kernel
theorem dX5_shorten_69 : decode cX5_shorten 69 = .ok (.iload 4, 2) := by decide +kernel
theorem dX5_shorten_71 : decode cX5_shorten 71 = .ok (.imul, 1) := by decide +kernel
theorem dX5_shorten_72 : decode cX5_shorten 72 = .ok (.iload 5, 2) := by decide +kernel
theorem dX5_shorten_74 : decode cX5_shorten 74 = .ok (.iadd, 1) := by decide +kernel
theorem dX5_shorten_75 : decode cX5_shorten 75 = .ok (.iaload, 1) := by decide +kernel
theorem dX5_shorten_76 : decode cX5_shorten 76 = .ok (.istore 8, 2) := by decide +kernel
theorem dX5_shorten_78 : decode cX5_shorten 78 = .ok (.iload 8, 2) := by decide +kernel
theorem dX5_shorten_80 : decode cX5_shorten 80 = .ok (.iconst (-1), 1) := by decide +kernel
theorem dX5_shorten_81 : decode cX5_shorten 81 = .ok (.if_icmp .eq 15, 3) := by decide +kernel
theorem dX5_shorten_84 : decode cX5_shorten 84 = .ok (.iload 6, 2) := by decide +kernel
theorem dX5_shorten_86 : decode cX5_shorten 86 = .ok (.iload_n 3, 1) := by decide +kernel
theorem dX5_shorten_87 : decode cX5_shorten 87 = .ok (.iadd, 1) := by decide +kernel
theorem dX5_shorten_88 : decode cX5_shorten 88 = .ok (.iload 7, 2) := by decide +kernel
theorem dX5_shorten_90 : decode cX5_shorten 90 = .ok (.iadd, 1) := by decide +kernel
theorem dX5_shorten_91 : decode cX5_shorten 91 = .ok (.iload 8, 2) := by decide +kernel
theorem dX5_shorten_93 : decode cX5_shorten 93 = .ok (.if_icmp .ge 23, 3) := by decide +kernel
theorem dX5_shorten_96 : decode cX5_shorten 96 = .ok (.aload_n 0, 1) := by decide +kernel
theorem dX5_shorten_97 : decode cX5_shorten 97 = .ok (.getfield 19, 3) := by decide +kernel
theorem dX5_shorten_100 : decode cX5_shorten 100 = .ok (.bipush 8, 2) := by decide +kernel
theorem dX5_shorten_102 : decode cX5_shorten 102 = .ok (.iload 4, 2) := by decide +kernel
theorem dX5_shorten_104 : decode cX5_shorten 104 = .ok (.imul, 1) := by decide +kernel
theorem dX5_shorten_105 : decode cX5_shorten 105 = .ok (.iload 5, 2) := by decide +kernel
theorem dX5_shorten_107 : decode cX5_shorten 107 = .ok (.iadd, 1) := by decide +kernel
theorem dX5_shorten_108 : decode cX5_shorten 108 = .ok (.iload 6, 2) := by decide +kernel
theorem dX5_shorten_110 : decode cX5_shorten 110 = .ok (.iload_n 3, 1) := by decide +kernel
theorem dX5_shorten_111 : decode cX5_shorten 111 = .ok (.iadd, 1) := by decide +kernel
theorem dX5_shorten_112 : decode cX5_shorten 112 = .ok (.iload 7, 2) := by decide +kernel
theorem dX5_shorten_114 : decode cX5_shorten 114 = .ok (.iadd, 1) := by decide +kernel
theorem dX5_shorten_115 : decode cX5_shorten 115 = .ok (.iastore, 1) := by decide +kernel
theorem dX5_shorten_116 : decode cX5_shorten 116 = .ok (.iinc 5 1, 3) := by decide +kernel
theorem dX5_shorten_119 : decode cX5_shorten 119 = .ok (.goto (-106), 3) := by decide +kernel
theorem dX5_shorten_122 : decode cX5_shorten 122 = .ok (.iinc 4 1, 3) := by decide +kernel
theorem dX5_shorten_125 : decode cX5_shorten 125 = .ok (.goto (-122), 3) := by decide +kernel
theorem dX5_shorten_128 : decode cX5_shorten 128 = .ok (.return_, 1) := by decide +kernel
set_option maxRecDepth 20000 in
theorem ggX5_road_X5_isValley : GoodIn wsX5_road wsX5_isValley := goodIn_r _ [7, 8, 9, 10, 6, 11, 21, 22, 23, 24, 25, 26, 27, 28, 29, 30, 31, 32, 33] (by decide +kernel) (by decide +kernel)
set_option maxRecDepth 20000 in
theorem gX5_road_X5_isValley : GoodIn wsX5_road (wsV RX5 55 RX5 yX5_isValley wsX5_isValley) := goodIn_app (goodIn_of _ (by decide +kernel)) ggX5_road_X5_isValley
set_option maxRecDepth 20000 in
theorem ggX5_road_X5_no : GoodIn wsX5_road wsX5_no := goodIn_r _ [15, 1, 21, 22, 23, 24, 25, 26, 27, 28, 29, 30, 31, 32, 33] (by decide +kernel) (by decide +kernel)
set_option maxRecDepth 20000 in
theorem gX5_road_X5_no : GoodIn wsX5_road (wsV RX5 51 RX5 yX5_no wsX5_no) := goodIn_app (goodIn_of _ (by decide +kernel)) ggX5_road_X5_no
set_option maxRecDepth 20000 in
theorem ggX5_road_X5_isIn : GoodIn wsX5_road wsX5_isIn := goodIn_r _ [11] (by decide +kernel) (by decide +kernel)
set_option maxRecDepth 20000 in
theorem gX5_road_X5_isIn : GoodIn wsX5_road (va_wsS RX5 44 yX5_isIn wsX5_isIn) := goodIn_app (goodIn_of _ (by decide +kernel)) ggX5_road_X5_isIn
set_option maxRecDepth 20000 in
theorem ggX5_road_X5_shorten : GoodIn wsX5_road wsX5_shorten := goodIn_r _ [19, 20, 21, 22, 23, 24, 25, 26, 27, 28, 29, 30, 31, 32, 33] (by decide +kernel) (by decide +kernel)
set_option maxRecDepth 20000 in
theorem gX5_road_X5_shorten : GoodIn wsX5_road (wsV RX5 62 RX5 yX5_shorten wsX5_shorten) := goodIn_app (goodIn_of _ (by decide +kernel)) ggX5_road_X5_shorten
theorem dX5_road_0 : decode cX5_road 0 = .ok (.aload_n 0, 1) := by decide +kernel
theorem dX5_road_1 : decode cX5_road 1 = .ok (.iconst 0, 1) := by decide +kernel
theorem dX5_road_2 : decode cX5_road 2 = .ok (.putfield 37, 3) := by decide +kernel
theorem dX5_road_5 : decode cX5_road 5 = .ok (.aload_n 0, 1) := by decide +kernel
theorem dX5_road_6 : decode cX5_road 6 = .ok (.iload_n 1, 1) := by decide +kernel
theorem dX5_road_7 : decode cX5_road 7 = .ok (.invokevirtual 55, 3) := by decide +kernel
theorem dX5_road_10 : decode cX5_road 10 = .ok (.ifCond .eq 11, 3) := by decide +kernel
theorem dX5_road_13 : decode cX5_road 13 = .ok (.aload_n 0, 1) := by decide +kernel
theorem dX5_road_14 : decode cX5_road 14 = .ok (.iload_n 2, 1) := by decide +kernel
theorem dX5_road_15 : decode cX5_road 15 = .ok (.invokevirtual 55, 3) := by decide +kernel
theorem dX5_road_18 : decode cX5_road 18 = .ok (.ifCond .ne 9, 3) := by decide +kernel
theorem dX5_road_21 : decode cX5_road 21 = .ok (.aload_n 0, 1) := by decide +kernel
theorem dX5_road_22 : decode cX5_road 22 = .ok (.iconst 1, 1) := by decide +kernel
theorem dX5_road_23 : decode cX5_road 23 = .ok (.invokevirtual 51, 3) := by decide +kernel
theorem dX5_road_26 : decode cX5_road 26 = .ok (.ireturn, 1) := by decide +kernel
theorem dX5_road_27 : decode cX5_road 27 = .ok (.iload_n 1, 1) := by decide +kernel
theorem dX5_road_28 : decode cX5_road 28 = .ok (.iload_n 2, 1) := by decide +kernel
theorem dX5_road_29 : decode cX5_road 29 = .ok (.if_icmp .eq 14, 3) := by decide +kernel
theorem dX5_road_32 : decode cX5_road 32 = .ok (.iload_n 3, 1) := by decide +kernel
theorem dX5_road_33 : decode cX5_road 33 = .ok (.iconst 1, 1) := by decide +kernel
theorem dX5_road_34 : decode cX5_road 34 = .ok (.sipush 240, 3) := by decide +kernel
theorem dX5_road_37 : decode cX5_road 37 = .ok (.invokestatic 44, 3) := by decide +kernel
theorem dX5_road_40 : decode cX5_road 40 = .ok (.ifCond .ne 9, 3) := by decide +kernel
theorem dX5_road_43 : decode cX5_road 43 = .ok (.aload_n 0, 1) := by decide +kernel
theorem dX5_road_44 : decode cX5_road 44 = .ok (.iconst 2, 1) := by decide +kernel
theorem dX5_road_45 : decode cX5_road 45 = .ok (.invokevirtual 51, 3) := by decide +kernel
theorem dX5_road_48 : decode cX5_road 48 = .ok (.ireturn, 1) := by decide +kernel
theorem dX5_road_49 : decode cX5_road 49 = .ok (.aload_n 0, 1) := by decide +kernel
theorem dX5_road_50 : decode cX5_road 50 = .ok (.getfield 59, 3) := by decide +kernel
theorem dX5_road_53 : decode cX5_road 53 = .ok (.bipush 20, 2) := by decide +kernel
theorem dX5_road_55 : decode cX5_road 55 = .ok (.if_icmp .ne 9, 3) := by decide +kernel
theorem dX5_road_58 : decode cX5_road 58 = .ok (.aload_n 0, 1) := by decide +kernel
theorem dX5_road_59 : decode cX5_road 59 = .ok (.iconst 3, 1) := by decide +kernel
theorem dX5_road_60 : decode cX5_road 60 = .ok (.invokevirtual 51, 3) := by decide +kernel
theorem dX5_road_63 : decode cX5_road 63 = .ok (.ireturn, 1) := by decide +kernel
theorem dX5_road_64 : decode cX5_road 64 = .ok (.aload_n 0, 1) := by decide +kernel
theorem dX5_road_65 : decode cX5_road 65 = .ok (.dup, 1) := by decide +kernel
theorem dX5_road_66 : decode cX5_road 66 = .ok (.getfield 59, 3) := by decide +kernel
theorem dX5_road_69 : decode cX5_road 69 = .ok (.iconst 1, 1) := by decide +kernel
theorem dX5_road_70 : decode cX5_road 70 = .ok (.iadd, 1) := by decide +kernel
theorem dX5_road_71 : decode cX5_road 71 = .ok (.putfield 59, 3) := by decide +kernel
theorem dX5_road_74 : decode cX5_road 74 = .ok (.aload_n 0, 1) := by decide +kernel
theorem dX5_road_75 : decode cX5_road 75 = .ok (.iload_n 1, 1) := by decide +kernel
theorem dX5_road_76 : decode cX5_road 76 = .ok (.iload_n 2, 1) := by decide +kernel
theorem dX5_road_77 : decode cX5_road 77 = .ok (.iload_n 3, 1) := by decide +kernel
theorem dX5_road_78 : decode cX5_road 78 = .ok (.invokevirtual 62, 3) := by decide +kernel
theorem dX5_road_81 : decode cX5_road 81 = .ok (.aload_n 0, 1) := by decide +kernel
theorem dX5_road_82 : decode cX5_road 82 = .ok (.iload_n 2, 1) := by decide +kernel
theorem dX5_road_83 : decode cX5_road 83 = .ok (.iload_n 1, 1) := by decide +kernel
theorem dX5_road_84 : decode cX5_road 84 = .ok (.iload_n 3, 1) := by decide +kernel
theorem dX5_road_85 : decode cX5_road 85 = .ok (.invokevirtual 62, 3) := by decide +kernel
theorem dX5_road_88 : decode cX5_road 88 = .ok (.aload_n 0, 1) := by decide +kernel
theorem dX5_road_89 : decode cX5_road 89 = .ok (.getfield 59, 3) := by decide +kernel
theorem dX5_road_92 : decode cX5_road 92 = .ok (.ireturn, 1) := by decide +kernel
set_option maxRecDepth 20000 in
theorem ggX5_setHeat_X5_isIn : GoodIn wsX5_setHeat wsX5_isIn := goodIn_r _ [6] (by decide +kernel) (by decide +kernel)
set_option maxRecDepth 20000 in
theorem gX5_setHeat_X5_isIn : GoodIn wsX5_setHeat (va_wsS RX5 44 yX5_isIn wsX5_isIn) := goodIn_app (goodIn_of _ (by decide +kernel)) ggX5_setHeat_X5_isIn
set_option maxRecDepth 20000 in
theorem ggX5_setHeat_X5_no : GoodIn wsX5_setHeat wsX5_no := goodIn_r _ [10, 1, 11, 12, 13, 14, 15, 16, 17, 18, 19, 20, 21, 22, 23] (by decide +kernel) (by decide +kernel)
set_option maxRecDepth 20000 in
theorem gX5_setHeat_X5_no : GoodIn wsX5_setHeat (wsV RX5 51 RX5 yX5_no wsX5_no) := goodIn_app (goodIn_of _ (by decide +kernel)) ggX5_setHeat_X5_no
theorem dX5_setHeat_0 : decode cX5_setHeat 0 = .ok (.aload_n 0, 1) := by decide +kernel
theorem dX5_setHeat_1 : decode cX5_setHeat 1 = .ok (.iconst 0, 1) := by decide +kernel
theorem dX5_setHeat_2 : decode cX5_setHeat 2 = .ok (.putfield 37, 3) := by decide +kernel
theorem dX5_setHeat_5 : decode cX5_setHeat 5 = .ok (.iload_n 1, 1) := by decide +kernel
theorem dX5_setHeat_6 : decode cX5_setHeat 6 = .ok (.iconst 0, 1) := by decide +kernel
theorem dX5_setHeat_7 : decode cX5_setHeat 7 = .ok (.bipush 9, 2) := by decide +kernel
theorem dX5_setHeat_9 : decode cX5_setHeat 9 = .ok (.invokestatic 44, 3) := by decide +kernel
theorem dX5_setHeat_12 : decode cX5_setHeat 12 = .ok (.ifCond .ne 9, 3) := by decide +kernel
theorem dX5_setHeat_15 : decode cX5_setHeat 15 = .ok (.aload_n 0, 1) := by decide +kernel
theorem dX5_setHeat_16 : decode cX5_setHeat 16 = .ok (.iconst 1, 1) := by decide +kernel
theorem dX5_setHeat_17 : decode cX5_setHeat 17 = .ok (.invokevirtual 51, 3) := by decide +kernel
theorem dX5_setHeat_20 : decode cX5_setHeat 20 = .ok (.ireturn, 1) := by decide +kernel
theorem dX5_setHeat_21 : decode cX5_setHeat 21 = .ok (.iload_n 2, 1) := by decide +kernel
theorem dX5_setHeat_22 : decode cX5_setHeat 22 = .ok (.iconst 0, 1) := by decide +kernel
theorem dX5_setHeat_23 : decode cX5_setHeat 23 = .ok (.bipush 40, 2) := by decide +kernel
theorem dX5_setHeat_25 : decode cX5_setHeat 25 = .ok (.invokestatic 44, 3) := by decide +kernel
theorem dX5_setHeat_28 : decode cX5_setHeat 28 = .ok (.ifCond .ne 9, 3) := by decide +kernel
theorem dX5_setHeat_31 : decode cX5_setHeat 31 = .ok (.aload_n 0, 1) := by decide +kernel
theorem dX5_setHeat_32 : decode cX5_setHeat 32 = .ok (.iconst 2, 1) := by decide +kernel
theorem dX5_setHeat_33 : decode cX5_setHeat 33 = .ok (.invokevirtual 51, 3) := by decide +kernel
theorem dX5_setHeat_36 : decode cX5_setHeat 36 = .ok (.ireturn, 1) := by decide +kernel
theorem dX5_setHeat_37 : decode cX5_setHeat 37 = .ok (.aload_n 0, 1) := by decide +kernel
theorem dX5_setHeat_38 : decode cX5_setHeat 38 = .ok (.getfield 22, 3) := by decide +kernel
theorem dX5_setHeat_41 : decode cX5_setHeat 41 = .ok (.iload_n 1, 1) := by decide +kernel
end
section
theorem dX5_setHeat_42 : decode cX5_setHeat 42 = .ok (.iaload, 1) := by decide +kernel
theorem dX5_setHeat_43 : decode cX5_setHeat 43 = .ok (.istore_n 3, 1) := by decide +kernel
theorem dX5_setHeat_44 : decode cX5_setHeat 44 = .ok (.aload_n 0, 1) := by decide +kernel
theorem dX5_setHeat_45 : decode cX5_setHeat 45 = .ok (.getfield 22, 3) := by decide +kernel
theorem dX5_setHeat_48 : decode cX5_setHeat 48 = .ok (.iload_n 1, 1) := by decide +kernel
theorem dX5_setHeat_49 : decode cX5_setHeat 49 = .ok (.iload_n 2, 1) := by decide +kernel
theorem dX5_setHeat_50 : decode cX5_setHeat 50 = .ok (.iastore, 1) := by decide +kernel
theorem dX5_setHeat_51 : decode cX5_setHeat 51 = .ok (.iload_n 3, 1) := by decide +kernel
theorem dX5_setHeat_52 : decode cX5_setHeat 52 = .ok (.ireturn, 1) := by decide +kernel
set_option maxRecDepth 20000 in
theorem ggX5_blooms_X5_isIn : GoodIn wsX5_blooms wsX5_isIn := goodIn_r _ [10] (by decide +kernel) (by decide +kernel)
set_option maxRecDepth 20000 in
theorem gX5_blooms_X5_isIn : GoodIn wsX5_blooms (va_wsS RX5 44 yX5_isIn wsX5_isIn) := goodIn_app (goodIn_of _ (by decide +kernel)) ggX5_blooms_X5_isIn
theorem dX5_blooms_0 : decode cX5_blooms 0 = .ok (.iload_n 2, 1) := by decide +kernel
theorem dX5_blooms_1 : decode cX5_blooms 1 = .ok (.aload_n 0, 1) := by decide +kernel
theorem dX5_blooms_2 : decode cX5_blooms 2 = .ok (.getfield 9, 3) := by decide +kernel
theorem dX5_blooms_5 : decode cX5_blooms 5 = .ok (.iload_n 1, 1) := by decide +kernel
theorem dX5_blooms_6 : decode cX5_blooms 6 = .ok (.iaload, 1) := by decide +kernel
theorem dX5_blooms_7 : decode cX5_blooms 7 = .ok (.aload_n 0, 1) := by decide +kernel
theorem dX5_blooms_8 : decode cX5_blooms 8 = .ok (.getfield 9, 3) := by decide +kernel
theorem dX5_blooms_11 : decode cX5_blooms 11 = .ok (.iload_n 1, 1) := by decide +kernel
theorem dX5_blooms_12 : decode cX5_blooms 12 = .ok (.iaload, 1) := by decide +kernel
theorem dX5_blooms_13 : decode cX5_blooms 13 = .ok (.aload_n 0, 1) := by decide +kernel
theorem dX5_blooms_14 : decode cX5_blooms 14 = .ok (.getfield 13, 3) := by decide +kernel
theorem dX5_blooms_17 : decode cX5_blooms 17 = .ok (.iload_n 1, 1) := by decide +kernel
theorem dX5_blooms_18 : decode cX5_blooms 18 = .ok (.iaload, 1) := by decide +kernel
theorem dX5_blooms_19 : decode cX5_blooms 19 = .ok (.iadd, 1) := by decide +kernel
theorem dX5_blooms_20 : decode cX5_blooms 20 = .ok (.iconst 1, 1) := by decide +kernel
theorem dX5_blooms_21 : decode cX5_blooms 21 = .ok (.isub, 1) := by decide +kernel
theorem dX5_blooms_22 : decode cX5_blooms 22 = .ok (.invokestatic 44, 3) := by decide +kernel
theorem dX5_blooms_25 : decode cX5_blooms 25 = .ok (.ifCond .ne 5, 3) := by decide +kernel
theorem dX5_blooms_28 : decode cX5_blooms 28 = .ok (.iconst 0, 1) := by decide +kernel
theorem dX5_blooms_29 : decode cX5_blooms 29 = .ok (.ireturn, 1) := by decide +kernel
theorem dX5_blooms_30 : decode cX5_blooms 30 = .ok (.bipush 100, 2) := by decide +kernel
theorem dX5_blooms_32 : decode cX5_blooms 32 = .ok (.iload_n 2, 1) := by decide +kernel
theorem dX5_blooms_33 : decode cX5_blooms 33 = .ok (.aload_n 0, 1) := by decide +kernel
theorem dX5_blooms_34 : decode cX5_blooms 34 = .ok (.getfield 9, 3) := by decide +kernel
theorem dX5_blooms_37 : decode cX5_blooms 37 = .ok (.iload_n 1, 1) := by decide +kernel
theorem dX5_blooms_38 : decode cX5_blooms 38 = .ok (.iaload, 1) := by decide +kernel
theorem dX5_blooms_39 : decode cX5_blooms 39 = .ok (.isub, 1) := by decide +kernel
theorem dX5_blooms_40 : decode cX5_blooms 40 = .ok (.iconst 1, 1) := by decide +kernel
theorem dX5_blooms_41 : decode cX5_blooms 41 = .ok (.iadd, 1) := by decide +kernel
theorem dX5_blooms_42 : decode cX5_blooms 42 = .ok (.aload_n 0, 1) := by decide +kernel
theorem dX5_blooms_43 : decode cX5_blooms 43 = .ok (.getfield 9, 3) := by decide +kernel
theorem dX5_blooms_46 : decode cX5_blooms 46 = .ok (.iload_n 1, 1) := by decide +kernel
theorem dX5_blooms_47 : decode cX5_blooms 47 = .ok (.iaload, 1) := by decide +kernel
theorem dX5_blooms_48 : decode cX5_blooms 48 = .ok (.aload_n 0, 1) := by decide +kernel
theorem dX5_blooms_49 : decode cX5_blooms 49 = .ok (.getfield 13, 3) := by decide +kernel
theorem dX5_blooms_52 : decode cX5_blooms 52 = .ok (.iload_n 1, 1) := by decide +kernel
theorem dX5_blooms_53 : decode cX5_blooms 53 = .ok (.iaload, 1) := by decide +kernel
theorem dX5_blooms_54 : decode cX5_blooms 54 = .ok (.iadd, 1) := by decide +kernel
theorem dX5_blooms_55 : decode cX5_blooms 55 = .ok (.iload_n 2, 1) := by decide +kernel
theorem dX5_blooms_56 : decode cX5_blooms 56 = .ok (.isub, 1) := by decide +kernel
theorem dX5_blooms_57 : decode cX5_blooms 57 = .ok (.invokestatic 66, 3) := by decide +kernel
theorem dX5_blooms_60 : decode cX5_blooms 60 = .ok (.imul, 1) := by decide +kernel
theorem dX5_blooms_61 : decode cX5_blooms 61 = .ok (.aload_n 0, 1) := by decide +kernel
theorem dX5_blooms_62 : decode cX5_blooms 62 = .ok (.getfield 13, 3) := by decide +kernel
theorem dX5_blooms_65 : decode cX5_blooms 65 = .ok (.iload_n 1, 1) := by decide +kernel
theorem dX5_blooms_66 : decode cX5_blooms 66 = .ok (.iaload, 1) := by decide +kernel
theorem dX5_blooms_67 : decode cX5_blooms 67 = .ok (.iconst 1, 1) := by decide +kernel
theorem dX5_blooms_68 : decode cX5_blooms 68 = .ok (.iadd, 1) := by decide +kernel
theorem dX5_blooms_69 : decode cX5_blooms 69 = .ok (.iconst 2, 1) := by decide +kernel
theorem dX5_blooms_70 : decode cX5_blooms 70 = .ok (.idiv, 1) := by decide +kernel
theorem dX5_blooms_71 : decode cX5_blooms 71 = .ok (.idiv, 1) := by decide +kernel
theorem dX5_blooms_72 : decode cX5_blooms 72 = .ok (.ireturn, 1) := by decide +kernel
set_option maxRecDepth 20000 in
theorem ggX5_bloom_X5_isValley : GoodIn wsX5_bloom wsX5_isValley := goodIn_r _ [6, 7, 8, 9, 5, 10, 25, 26, 27, 28, 29, 30, 31, 32, 33, 34, 35, 36, 37] (by decide +kernel) (by decide +kernel)
set_option maxRecDepth 20000 in
theorem gX5_bloom_X5_isValley : GoodIn wsX5_bloom (wsV RX5 55 RX5 yX5_isValley wsX5_isValley) := goodIn_app (goodIn_of _ (by decide +kernel)) ggX5_bloom_X5_isValley
set_option maxRecDepth 20000 in
theorem ggX5_bloom_X5_no : GoodIn wsX5_bloom wsX5_no := goodIn_r _ [14, 1, 25, 26, 27, 28, 29, 30, 31, 32, 33, 34, 35, 36, 37] (by decide +kernel) (by decide +kernel)
set_option maxRecDepth 20000 in
theorem gX5_bloom_X5_no : GoodIn wsX5_bloom (wsV RX5 51 RX5 yX5_no wsX5_no) := goodIn_app (goodIn_of _ (by decide +kernel)) ggX5_bloom_X5_no
set_option maxRecDepth 20000 in
theorem ggX5_bloom_X5_blooms : GoodIn wsX5_bloom wsX5_blooms := goodIn_r _ [18, 19, 20, 21, 22, 23, 24, 8, 9, 5, 10, 25, 26, 27, 28, 29, 30, 31, 32, 33, 34, 35, 36, 37] (by decide +kernel) (by decide +kernel)
set_option maxRecDepth 20000 in
theorem gX5_bloom_X5_blooms : GoodIn wsX5_bloom (wsV RX5 72 RX5 yX5_blooms wsX5_blooms) := goodIn_app (goodIn_of _ (by decide +kernel)) ggX5_bloom_X5_blooms
theorem dX5_bloom_0 : decode cX5_bloom 0 = .ok (.aload_n 0, 1) := by decide +kernel
theorem dX5_bloom_1 : decode cX5_bloom 1 = .ok (.iconst 0, 1) := by decide +kernel
theorem dX5_bloom_2 : decode cX5_bloom 2 = .ok (.putfield 37, 3) := by decide +kernel
theorem dX5_bloom_5 : decode cX5_bloom 5 = .ok (.aload_n 0, 1) := by decide +kernel
theorem dX5_bloom_6 : decode cX5_bloom 6 = .ok (.iload_n 1, 1) := by decide +kernel
theorem dX5_bloom_7 : decode cX5_bloom 7 = .ok (.invokevirtual 55, 3) := by decide +kernel
theorem dX5_bloom_10 : decode cX5_bloom 10 = .ok (.ifCond .ne 9, 3) := by decide +kernel
theorem dX5_bloom_13 : decode cX5_bloom 13 = .ok (.aload_n 0, 1) := by decide +kernel
theorem dX5_bloom_14 : decode cX5_bloom 14 = .ok (.iconst 1, 1) := by decide +kernel
theorem dX5_bloom_15 : decode cX5_bloom 15 = .ok (.invokevirtual 51, 3) := by decide +kernel
theorem dX5_bloom_18 : decode cX5_bloom 18 = .ok (.ireturn, 1) := by decide +kernel
theorem dX5_bloom_19 : decode cX5_bloom 19 = .ok (.iload_n 2, 1) := by decide +kernel
theorem dX5_bloom_20 : decode cX5_bloom 20 = .ok (.ifCond .ge 11, 3) := by decide +kernel
theorem dX5_bloom_23 : decode cX5_bloom 23 = .ok (.aload_n 0, 1) := by decide +kernel
theorem dX5_bloom_24 : decode cX5_bloom 24 = .ok (.iconst 2, 1) := by decide +kernel
theorem dX5_bloom_25 : decode cX5_bloom 25 = .ok (.invokevirtual 51, 3) := by decide +kernel
theorem dX5_bloom_28 : decode cX5_bloom 28 = .ok (.goto 9, 3) := by decide +kernel
theorem dX5_bloom_31 : decode cX5_bloom 31 = .ok (.aload_n 0, 1) := by decide +kernel
theorem dX5_bloom_32 : decode cX5_bloom 32 = .ok (.iload_n 1, 1) := by decide +kernel
theorem dX5_bloom_33 : decode cX5_bloom 33 = .ok (.iload_n 2, 1) := by decide +kernel
theorem dX5_bloom_34 : decode cX5_bloom 34 = .ok (.invokevirtual 72, 3) := by decide +kernel
theorem dX5_bloom_37 : decode cX5_bloom 37 = .ok (.ireturn, 1) := by decide +kernel
set_option maxRecDepth 20000 in
theorem ggX5_way_X5_isValley : GoodIn wsX5_way wsX5_isValley := goodIn_r _ [7, 8, 9, 10, 6, 11, 16, 17, 18, 19, 20, 21, 22, 23, 24, 25, 26, 27, 28] (by decide +kernel) (by decide +kernel)
set_option maxRecDepth 20000 in
theorem gX5_way_X5_isValley : GoodIn wsX5_way (wsV RX5 55 RX5 yX5_isValley wsX5_isValley) := goodIn_app (goodIn_of _ (by decide +kernel)) ggX5_way_X5_isValley
set_option maxRecDepth 20000 in
theorem ggX5_way_X5_no : GoodIn wsX5_way wsX5_no := goodIn_r _ [15, 1, 16, 17, 18, 19, 20, 21, 22, 23, 24, 25, 26, 27, 28] (by decide +kernel) (by decide +kernel)
set_option maxRecDepth 20000 in
theorem gX5_way_X5_no : GoodIn wsX5_way (wsV RX5 51 RX5 yX5_no wsX5_no) := goodIn_app (goodIn_of _ (by decide +kernel)) ggX5_way_X5_no
theorem dX5_way_0 : decode cX5_way 0 = .ok (.aload_n 0, 1) := by decide +kernel
theorem dX5_way_1 : decode cX5_way 1 = .ok (.iconst 0, 1) := by decide +kernel
theorem dX5_way_2 : decode cX5_way 2 = .ok (.putfield 37, 3) := by decide +kernel
theorem dX5_way_5 : decode cX5_way 5 = .ok (.aload_n 0, 1) := by decide +kernel
theorem dX5_way_6 : decode cX5_way 6 = .ok (.iload_n 1, 1) := by decide +kernel
theorem dX5_way_7 : decode cX5_way 7 = .ok (.invokevirtual 55, 3) := by decide +kernel
theorem dX5_way_10 : decode cX5_way 10 = .ok (.ifCond .eq 25, 3) := by decide +kernel
theorem dX5_way_13 : decode cX5_way 13 = .ok (.aload_n 0, 1) := by decide +kernel
theorem dX5_way_14 : decode cX5_way 14 = .ok (.iload_n 2, 1) := by decide +kernel
theorem dX5_way_15 : decode cX5_way 15 = .ok (.invokevirtual 55, 3) := by decide +kernel
theorem dX5_way_18 : decode cX5_way 18 = .ok (.ifCond .eq 17, 3) := by decide +kernel
theorem dX5_way_21 : decode cX5_way 21 = .ok (.aload_n 0, 1) := by decide +kernel
theorem dX5_way_22 : decode cX5_way 22 = .ok (.getfield 19, 3) := by decide +kernel
theorem dX5_way_25 : decode cX5_way 25 = .ok (.bipush 8, 2) := by decide +kernel
theorem dX5_way_27 : decode cX5_way 27 = .ok (.iload_n 1, 1) := by decide +kernel
theorem dX5_way_28 : decode cX5_way 28 = .ok (.imul, 1) := by decide +kernel
theorem dX5_way_29 : decode cX5_way 29 = .ok (.iload_n 2, 1) := by decide +kernel
theorem dX5_way_30 : decode cX5_way 30 = .ok (.iadd, 1) := by decide +kernel
theorem dX5_way_31 : decode cX5_way 31 = .ok (.iaload, 1) := by decide +kernel
theorem dX5_way_32 : decode cX5_way 32 = .ok (.goto 8, 3) := by decide +kernel
theorem dX5_way_35 : decode cX5_way 35 = .ok (.aload_n 0, 1) := by decide +kernel
theorem dX5_way_36 : decode cX5_way 36 = .ok (.iconst 1, 1) := by decide +kernel
theorem dX5_way_37 : decode cX5_way 37 = .ok (.invokevirtual 51, 3) := by decide +kernel
theorem dX5_way_40 : decode cX5_way 40 = .ok (.ireturn, 1) := by decide +kernel
theorem dX5_at_0 : decode cX5_at 0 = .ok (.aload_n 0, 1) := by decide +kernel
theorem dX5_at_1 : decode cX5_at 1 = .ok (.getfield 31, 3) := by decide +kernel
theorem dX5_at_4 : decode cX5_at 4 = .ok (.iconst 5, 1) := by decide +kernel
theorem dX5_at_5 : decode cX5_at 5 = .ok (.iload_n 1, 1) := by decide +kernel
theorem dX5_at_6 : decode cX5_at 6 = .ok (.imul, 1) := by decide +kernel
theorem dX5_at_7 : decode cX5_at 7 = .ok (.iload_n 2, 1) := by decide +kernel
theorem dX5_at_8 : decode cX5_at 8 = .ok (.iadd, 1) := by decide +kernel
theorem dX5_at_9 : decode cX5_at 9 = .ok (.iaload, 1) := by decide +kernel
theorem dX5_at_10 : decode cX5_at 10 = .ok (.ireturn, 1) := by decide +kernel
set_option maxRecDepth 20000 in
theorem ggX5_has_X5_at : GoodIn wsX5_has wsX5_at := goodIn_r _ [6, 7, 8, 9, 10, 11, 12, 13, 14, 15, 16, 17, 18, 19, 20] (by decide +kernel) (by decide +kernel)
set_option maxRecDepth 20000 in
theorem gX5_has_X5_at : GoodIn wsX5_has (wsV RX5 75 RX5 yX5_at wsX5_at) := goodIn_app (goodIn_of _ (by decide +kernel)) ggX5_has_X5_at
theorem dX5_has_0 : decode cX5_has 0 = .ok (.iconst 0, 1) := by decide +kernel
theorem dX5_has_1 : decode cX5_has 1 = .ok (.istore_n 3, 1) := by decide +kernel
theorem dX5_has_2 : decode cX5_has 2 = .ok (.iload_n 3, 1) := by decide +kernel
theorem dX5_has_3 : decode cX5_has 3 = .ok (.aload_n 0, 1) := by decide +kernel
theorem dX5_has_4 : decode cX5_has 4 = .ok (.getfield 28, 3) := by decide +kernel
theorem dX5_has_7 : decode cX5_has 7 = .ok (.iload_n 1, 1) := by decide +kernel
theorem dX5_has_8 : decode cX5_has 8 = .ok (.iaload, 1) := by decide +kernel
theorem dX5_has_9 : decode cX5_has 9 = .ok (.if_icmp .ge 21, 3) := by decide +kernel
theorem dX5_has_12 : decode cX5_has 12 = .ok (.aload_n 0, 1) := by decide +kernel
theorem dX5_has_13 : decode cX5_has 13 = .ok (.iload_n 1, 1) := by decide +kernel
theorem dX5_has_14 : decode cX5_has 14 = .ok (.iload_n 3, 1) := by decide +kernel
theorem dX5_has_15 : decode cX5_has 15 = .ok (.invokevirtual 75, 3) := by decide +kernel
theorem dX5_has_18 : decode cX5_has 18 = .ok (.iload_n 2, 1) := by decide +kernel
theorem dX5_has_19 : decode cX5_has 19 = .ok (.if_icmp .ne 5, 3) := by decide +kernel
theorem dX5_has_22 : decode cX5_has 22 = .ok (.iconst 1, 1) := by decide +kernel
theorem dX5_has_23 : decode cX5_has 23 = .ok (.ireturn, 1) := by decide +kernel
theorem dX5_has_24 : decode cX5_has 24 = .ok (.iinc 3 1, 3) := by decide +kernel
theorem dX5_has_27 : decode cX5_has 27 = .ok (.goto (-25), 3) := by decide +kernel
theorem dX5_has_30 : decode cX5_has 30 = .ok (.iconst 0, 1) := by decide +kernel
theorem dX5_has_31 : decode cX5_has 31 = .ok (.ireturn, 1) := by decide +kernel
set_option maxRecDepth 20000 in
theorem ggX5_minutes_X5_at : GoodIn wsX5_minutes wsX5_at := goodIn_r _ [7, 8, 9, 10, 11, 12, 13, 14, 15, 16, 17, 18, 19, 20, 21] (by decide +kernel) (by decide +kernel)
set_option maxRecDepth 20000 in
theorem gX5_minutes_X5_at : GoodIn wsX5_minutes (wsV RX5 75 RX5 yX5_at wsX5_at) := goodIn_app (goodIn_of _ (by decide +kernel)) ggX5_minutes_X5_at
theorem dX5_minutes_0 : decode cX5_minutes 0 = .ok (.bipush 50, 2) := by decide +kernel
theorem dX5_minutes_2 : decode cX5_minutes 2 = .ok (.aload_n 0, 1) := by decide +kernel
theorem dX5_minutes_3 : decode cX5_minutes 3 = .ok (.getfield 28, 3) := by decide +kernel
theorem dX5_minutes_6 : decode cX5_minutes 6 = .ok (.iload_n 1, 1) := by decide +kernel
theorem dX5_minutes_7 : decode cX5_minutes 7 = .ok (.iaload, 1) := by decide +kernel
theorem dX5_minutes_8 : decode cX5_minutes 8 = .ok (.imul, 1) := by decide +kernel
theorem dX5_minutes_9 : decode cX5_minutes 9 = .ok (.istore_n 2, 1) := by decide +kernel
theorem dX5_minutes_10 : decode cX5_minutes 10 = .ok (.iconst 1, 1) := by decide +kernel
theorem dX5_minutes_11 : decode cX5_minutes 11 = .ok (.istore_n 3, 1) := by decide +kernel
theorem dX5_minutes_12 : decode cX5_minutes 12 = .ok (.iload_n 3, 1) := by decide +kernel
theorem dX5_minutes_13 : decode cX5_minutes 13 = .ok (.aload_n 0, 1) := by decide +kernel
theorem dX5_minutes_14 : decode cX5_minutes 14 = .ok (.getfield 28, 3) := by decide +kernel
theorem dX5_minutes_17 : decode cX5_minutes 17 = .ok (.iload_n 1, 1) := by decide +kernel
theorem dX5_minutes_18 : decode cX5_minutes 18 = .ok (.iaload, 1) := by decide +kernel
theorem dX5_minutes_19 : decode cX5_minutes 19 = .ok (.if_icmp .ge 47, 3) := by decide +kernel
theorem dX5_minutes_22 : decode cX5_minutes 22 = .ok (.aload_n 0, 1) := by decide +kernel
theorem dX5_minutes_23 : decode cX5_minutes 23 = .ok (.getfield 19, 3) := by decide +kernel
theorem dX5_minutes_26 : decode cX5_minutes 26 = .ok (.bipush 8, 2) := by decide +kernel
theorem dX5_minutes_28 : decode cX5_minutes 28 = .ok (.aload_n 0, 1) := by decide +kernel
theorem dX5_minutes_29 : decode cX5_minutes 29 = .ok (.iload_n 1, 1) := by decide +kernel
theorem dX5_minutes_30 : decode cX5_minutes 30 = .ok (.iload_n 3, 1) := by decide +kernel
theorem dX5_minutes_31 : decode cX5_minutes 31 = .ok (.iconst 1, 1) := by decide +kernel
theorem dX5_minutes_32 : decode cX5_minutes 32 = .ok (.isub, 1) := by decide +kernel
theorem dX5_minutes_33 : decode cX5_minutes 33 = .ok (.invokevirtual 75, 3) := by decide +kernel
theorem dX5_minutes_36 : decode cX5_minutes 36 = .ok (.imul, 1) := by decide +kernel
theorem dX5_minutes_37 : decode cX5_minutes 37 = .ok (.aload_n 0, 1) := by decide +kernel
theorem dX5_minutes_38 : decode cX5_minutes 38 = .ok (.iload_n 1, 1) := by decide +kernel
theorem dX5_minutes_39 : decode cX5_minutes 39 = .ok (.iload_n 3, 1) := by decide +kernel
theorem dX5_minutes_40 : decode cX5_minutes 40 = .ok (.invokevirtual 75, 3) := by decide +kernel
theorem dX5_minutes_43 : decode cX5_minutes 43 = .ok (.iadd, 1) := by decide +kernel
theorem dX5_minutes_44 : decode cX5_minutes 44 = .ok (.iaload, 1) := by decide +kernel
theorem dX5_minutes_45 : decode cX5_minutes 45 = .ok (.istore 4, 2) := by decide +kernel
theorem dX5_minutes_47 : decode cX5_minutes 47 = .ok (.iload 4, 2) := by decide +kernel
theorem dX5_minutes_49 : decode cX5_minutes 49 = .ok (.iconst (-1), 1) := by decide +kernel
theorem dX5_minutes_50 : decode cX5_minutes 50 = .ok (.if_icmp .ne 5, 3) := by decide +kernel
theorem dX5_minutes_53 : decode cX5_minutes 53 = .ok (.iconst (-1), 1) := by decide +kernel
theorem dX5_minutes_54 : decode cX5_minutes 54 = .ok (.ireturn, 1) := by decide +kernel
theorem dX5_minutes_55 : decode cX5_minutes 55 = .ok (.iload_n 2, 1) := by decide +kernel
theorem dX5_minutes_56 : decode cX5_minutes 56 = .ok (.iload 4, 2) := by decide +kernel
theorem dX5_minutes_58 : decode cX5_minutes 58 = .ok (.iadd, 1) := by decide +kernel
theorem dX5_minutes_59 : decode cX5_minutes 59 = .ok (.istore_n 2, 1) := by decide +kernel
theorem dX5_minutes_60 : decode cX5_minutes 60 = .ok (.iinc 3 1, 3) := by decide +kernel
theorem dX5_minutes_63 : decode cX5_minutes 63 = .ok (.goto (-51), 3) := by decide +kernel
theorem dX5_minutes_66 : decode cX5_minutes 66 = .ok (.iload_n 2, 1) := by decide +kernel
theorem dX5_minutes_67 : decode cX5_minutes 67 = .ok (.ireturn, 1) := by decide +kernel
set_option maxRecDepth 20000 in
theorem ggX5_goes_X5_minutes : GoodIn wsX5_goes wsX5_minutes := goodIn_r _ [5, 6, 7, 8, 9, 10, 4, 11, 12, 16, 17, 18, 19, 20, 21, 22, 23, 24, 25, 26, 27, 28] (by decide +kernel) (by decide +kernel)
set_option maxRecDepth 20000 in
theorem gX5_goes_X5_minutes : GoodIn wsX5_goes (wsV RX5 78 RX5 yX5_minutes wsX5_minutes) := goodIn_app (goodIn_of _ (by decide +kernel)) ggX5_goes_X5_minutes
set_option maxRecDepth 20000 in
theorem ggX5_goes_X5_isIn : GoodIn wsX5_goes wsX5_isIn := goodIn_r _ [15] (by decide +kernel) (by decide +kernel)
set_option maxRecDepth 20000 in
theorem gX5_goes_X5_isIn : GoodIn wsX5_goes (va_wsS RX5 44 yX5_isIn wsX5_isIn) := goodIn_app (goodIn_of _ (by decide +kernel)) ggX5_goes_X5_isIn
theorem dX5_goes_0 : decode cX5_goes 0 = .ok (.aload_n 0, 1) := by decide +kernel
theorem dX5_goes_1 : decode cX5_goes 1 = .ok (.iload_n 1, 1) := by decide +kernel
theorem dX5_goes_2 : decode cX5_goes 2 = .ok (.invokevirtual 78, 3) := by decide +kernel
theorem dX5_goes_5 : decode cX5_goes 5 = .ok (.iconst 1, 1) := by decide +kernel
theorem dX5_goes_6 : decode cX5_goes 6 = .ok (.sipush 480, 3) := by decide +kernel
theorem dX5_goes_9 : decode cX5_goes 9 = .ok (.invokestatic 44, 3) := by decide +kernel
theorem dX5_goes_12 : decode cX5_goes 12 = .ok (.ireturn, 1) := by decide +kernel
set_option maxRecDepth 20000 in
theorem ggX5_crowd_X5_has : GoodIn wsX5_crowd wsX5_has := goodIn_r _ [7, 8, 9, 10, 11, 6, 12, 13, 26, 27, 28, 29, 30, 31, 32, 33, 34, 35, 36, 37, 38] (by decide +kernel) (by decide +kernel)
set_option maxRecDepth 20000 in
theorem gX5_crowd_X5_has : GoodIn wsX5_crowd (wsV RX5 81 RX5 yX5_has wsX5_has) := goodIn_app (goodIn_of _ (by decide +kernel)) ggX5_crowd_X5_has
set_option maxRecDepth 20000 in
theorem ggX5_crowd_X5_goes : GoodIn wsX5_crowd wsX5_goes := goodIn_r _ [17, 18, 19, 20, 6, 21, 8, 22, 9, 10, 11, 12, 13, 23, 24, 25, 26, 27, 28, 29, 30, 31, 32, 33, 34, 35, 36, 37, 38] (by decide +kernel) (by decide +kernel)
set_option maxRecDepth 20000 in
theorem gX5_crowd_X5_goes : GoodIn wsX5_crowd (wsV RX5 85 RX5 yX5_goes wsX5_goes) := goodIn_app (goodIn_of _ (by decide +kernel)) ggX5_crowd_X5_goes
theorem dX5_crowd_0 : decode cX5_crowd 0 = .ok (.iconst 0, 1) := by decide +kernel
theorem dX5_crowd_1 : decode cX5_crowd 1 = .ok (.istore_n 2, 1) := by decide +kernel
theorem dX5_crowd_2 : decode cX5_crowd 2 = .ok (.iconst 0, 1) := by decide +kernel
theorem dX5_crowd_3 : decode cX5_crowd 3 = .ok (.istore_n 3, 1) := by decide +kernel
theorem dX5_crowd_4 : decode cX5_crowd 4 = .ok (.iload_n 3, 1) := by decide +kernel
theorem dX5_crowd_5 : decode cX5_crowd 5 = .ok (.aload_n 0, 1) := by decide +kernel
theorem dX5_crowd_6 : decode cX5_crowd 6 = .ok (.getfield 48, 3) := by decide +kernel
theorem dX5_crowd_9 : decode cX5_crowd 9 = .ok (.if_icmp .ge 39, 3) := by decide +kernel
theorem dX5_crowd_12 : decode cX5_crowd 12 = .ok (.iload_n 2, 1) := by decide +kernel
theorem dX5_crowd_13 : decode cX5_crowd 13 = .ok (.aload_n 0, 1) := by decide +kernel
theorem dX5_crowd_14 : decode cX5_crowd 14 = .ok (.iload_n 3, 1) := by decide +kernel
theorem dX5_crowd_15 : decode cX5_crowd 15 = .ok (.iload_n 1, 1) := by decide +kernel
theorem dX5_crowd_16 : decode cX5_crowd 16 = .ok (.invokevirtual 81, 3) := by decide +kernel
theorem dX5_crowd_19 : decode cX5_crowd 19 = .ok (.ifCond .eq 20, 3) := by decide +kernel
theorem dX5_crowd_22 : decode cX5_crowd 22 = .ok (.aload_n 0, 1) := by decide +kernel
theorem dX5_crowd_23 : decode cX5_crowd 23 = .ok (.iload_n 3, 1) := by decide +kernel
theorem dX5_crowd_24 : decode cX5_crowd 24 = .ok (.invokevirtual 85, 3) := by decide +kernel
theorem dX5_crowd_27 : decode cX5_crowd 27 = .ok (.ifCond .eq 12, 3) := by decide +kernel
theorem dX5_crowd_30 : decode cX5_crowd 30 = .ok (.aload_n 0, 1) := by decide +kernel
theorem dX5_crowd_31 : decode cX5_crowd 31 = .ok (.getfield 25, 3) := by decide +kernel
theorem dX5_crowd_34 : decode cX5_crowd 34 = .ok (.iload_n 3, 1) := by decide +kernel
theorem dX5_crowd_35 : decode cX5_crowd 35 = .ok (.iaload, 1) := by decide +kernel
theorem dX5_crowd_36 : decode cX5_crowd 36 = .ok (.goto 4, 3) := by decide +kernel
theorem dX5_crowd_39 : decode cX5_crowd 39 = .ok (.iconst 0, 1) := by decide +kernel
theorem dX5_crowd_40 : decode cX5_crowd 40 = .ok (.iadd, 1) := by decide +kernel
theorem dX5_crowd_41 : decode cX5_crowd 41 = .ok (.istore_n 2, 1) := by decide +kernel
theorem dX5_crowd_42 : decode cX5_crowd 42 = .ok (.iinc 3 1, 3) := by decide +kernel
theorem dX5_crowd_45 : decode cX5_crowd 45 = .ok (.goto (-41), 3) := by decide +kernel
theorem dX5_crowd_48 : decode cX5_crowd 48 = .ok (.iload_n 2, 1) := by decide +kernel
theorem dX5_crowd_49 : decode cX5_crowd 49 = .ok (.ireturn, 1) := by decide +kernel
set_option maxRecDepth 20000 in
theorem ggX5_joyOf_X5_goes : GoodIn wsX5_joyOf wsX5_goes := goodIn_r _ [10, 11, 12, 13, 9, 14, 1, 15, 16, 17, 18, 19, 20, 21, 22, 23, 43, 44, 45, 46, 47, 48, 49, 50, 51, 52, 53, 54, 55] (by decide +kernel) (by decide +kernel)
set_option maxRecDepth 20000 in
theorem gX5_joyOf_X5_goes : GoodIn wsX5_joyOf (wsV RX5 85 RX5 yX5_goes wsX5_goes) := goodIn_app (goodIn_of _ (by decide +kernel)) ggX5_joyOf_X5_goes
set_option maxRecDepth 20000 in
theorem ggX5_joyOf_X5_at : GoodIn wsX5_joyOf wsX5_at := goodIn_r _ [19, 20, 43, 44, 45, 46, 47, 48, 49, 50, 51, 52, 53, 54, 55] (by decide +kernel) (by decide +kernel)
set_option maxRecDepth 20000 in
theorem gX5_joyOf_X5_at : GoodIn wsX5_joyOf (wsV RX5 75 RX5 yX5_at wsX5_at) := goodIn_app (goodIn_of _ (by decide +kernel)) ggX5_joyOf_X5_at
set_option maxRecDepth 20000 in
theorem ggX5_joyOf_X5_blooms : GoodIn wsX5_joyOf wsX5_blooms := goodIn_r _ [27, 28, 29, 30, 31, 4, 32, 21, 22, 9, 23, 43, 44, 45, 46, 47, 48, 49, 50, 51, 52, 53, 54, 55] (by decide +kernel) (by decide +kernel)
set_option maxRecDepth 20000 in
theorem gX5_joyOf_X5_blooms : GoodIn wsX5_joyOf (wsV RX5 72 RX5 yX5_blooms wsX5_blooms) := goodIn_app (goodIn_of _ (by decide +kernel)) ggX5_joyOf_X5_blooms
set_option maxRecDepth 20000 in
theorem ggX5_joyOf_X5_crowd : GoodIn wsX5_joyOf wsX5_crowd := goodIn_r _ [36, 37, 38, 39, 40, 41, 9, 42, 1, 16, 17, 18, 19, 20, 6, 7, 8, 10, 11, 12, 13, 14, 15, 21, 22, 23, 43, 44, 45, 46, 47, 48, 49, 50, 51, 52, 53, 54, 55] (by decide +kernel) (by decide +kernel)
set_option maxRecDepth 20000 in
theorem gX5_joyOf_X5_crowd : GoodIn wsX5_joyOf (wsV RX5 88 RX5 yX5_crowd wsX5_crowd) := goodIn_app (goodIn_of _ (by decide +kernel)) ggX5_joyOf_X5_crowd
theorem dX5_joyOf_0 : decode cX5_joyOf 0 = .ok (.iconst 0, 1) := by decide +kernel
theorem dX5_joyOf_1 : decode cX5_joyOf 1 = .ok (.istore_n 3, 1) := by decide +kernel
theorem dX5_joyOf_2 : decode cX5_joyOf 2 = .ok (.iconst 0, 1) := by decide +kernel
theorem dX5_joyOf_3 : decode cX5_joyOf 3 = .ok (.istore 4, 2) := by decide +kernel
theorem dX5_joyOf_5 : decode cX5_joyOf 5 = .ok (.iload 4, 2) := by decide +kernel
theorem dX5_joyOf_7 : decode cX5_joyOf 7 = .ok (.aload_n 0, 1) := by decide +kernel
theorem dX5_joyOf_8 : decode cX5_joyOf 8 = .ok (.getfield 28, 3) := by decide +kernel
theorem dX5_joyOf_11 : decode cX5_joyOf 11 = .ok (.iload_n 1, 1) := by decide +kernel
theorem dX5_joyOf_12 : decode cX5_joyOf 12 = .ok (.iaload, 1) := by decide +kernel
theorem dX5_joyOf_13 : decode cX5_joyOf 13 = .ok (.if_icmp .ge 51, 3) := by decide +kernel
theorem dX5_joyOf_16 : decode cX5_joyOf 16 = .ok (.aload_n 0, 1) := by decide +kernel
theorem dX5_joyOf_17 : decode cX5_joyOf 17 = .ok (.iload_n 1, 1) := by decide +kernel
theorem dX5_joyOf_18 : decode cX5_joyOf 18 = .ok (.invokevirtual 85, 3) := by decide +kernel
theorem dX5_joyOf_21 : decode cX5_joyOf 21 = .ok (.ifCond .eq 43, 3) := by decide +kernel
theorem dX5_joyOf_24 : decode cX5_joyOf 24 = .ok (.iload_n 3, 1) := by decide +kernel
theorem dX5_joyOf_25 : decode cX5_joyOf 25 = .ok (.iconst 0, 1) := by decide +kernel
theorem dX5_joyOf_26 : decode cX5_joyOf 26 = .ok (.aload_n 0, 1) := by decide +kernel
theorem dX5_joyOf_27 : decode cX5_joyOf 27 = .ok (.aload_n 0, 1) := by decide +kernel
theorem dX5_joyOf_28 : decode cX5_joyOf 28 = .ok (.iload_n 1, 1) := by decide +kernel
theorem dX5_joyOf_29 : decode cX5_joyOf 29 = .ok (.iload 4, 2) := by decide +kernel
theorem dX5_joyOf_31 : decode cX5_joyOf 31 = .ok (.invokevirtual 75, 3) := by decide +kernel
theorem dX5_joyOf_34 : decode cX5_joyOf 34 = .ok (.iload_n 2, 1) := by decide +kernel
theorem dX5_joyOf_35 : decode cX5_joyOf 35 = .ok (.invokevirtual 72, 3) := by decide +kernel
theorem dX5_joyOf_38 : decode cX5_joyOf 38 = .ok (.aload_n 0, 1) := by decide +kernel
theorem dX5_joyOf_39 : decode cX5_joyOf 39 = .ok (.aload_n 0, 1) := by decide +kernel
theorem dX5_joyOf_40 : decode cX5_joyOf 40 = .ok (.iload_n 1, 1) := by decide +kernel
theorem dX5_joyOf_41 : decode cX5_joyOf 41 = .ok (.iload 4, 2) := by decide +kernel
theorem dX5_joyOf_43 : decode cX5_joyOf 43 = .ok (.invokevirtual 75, 3) := by decide +kernel
theorem dX5_joyOf_46 : decode cX5_joyOf 46 = .ok (.invokevirtual 88, 3) := by decide +kernel
theorem dX5_joyOf_49 : decode cX5_joyOf 49 = .ok (.bipush 10, 2) := by decide +kernel
theorem dX5_joyOf_51 : decode cX5_joyOf 51 = .ok (.idiv, 1) := by decide +kernel
theorem dX5_joyOf_52 : decode cX5_joyOf 52 = .ok (.isub, 1) := by decide +kernel
theorem dX5_joyOf_53 : decode cX5_joyOf 53 = .ok (.invokestatic 91, 3) := by decide +kernel
theorem dX5_joyOf_56 : decode cX5_joyOf 56 = .ok (.iadd, 1) := by decide +kernel
theorem dX5_joyOf_57 : decode cX5_joyOf 57 = .ok (.istore_n 3, 1) := by decide +kernel
theorem dX5_joyOf_58 : decode cX5_joyOf 58 = .ok (.iinc 4 1, 3) := by decide +kernel
theorem dX5_joyOf_61 : decode cX5_joyOf 61 = .ok (.goto (-56), 3) := by decide +kernel
theorem dX5_joyOf_64 : decode cX5_joyOf 64 = .ok (.iload_n 3, 1) := by decide +kernel
theorem dX5_joyOf_65 : decode cX5_joyOf 65 = .ok (.ireturn, 1) := by decide +kernel
set_option maxRecDepth 20000 in
theorem ggX5_stingsOf_X5_goes : GoodIn wsX5_stingsOf wsX5_goes := goodIn_r _ [8, 9, 10, 11, 7, 12, 1, 13, 14, 15, 16, 17, 18, 19, 20, 21, 32, 33, 34, 35, 36, 37, 38, 39, 40, 41, 42, 43, 44] (by decide +kernel) (by decide +kernel)
set_option maxRecDepth 20000 in
theorem gX5_stingsOf_X5_goes : GoodIn wsX5_stingsOf (wsV RX5 85 RX5 yX5_goes wsX5_goes) := goodIn_app (goodIn_of _ (by decide +kernel)) ggX5_stingsOf_X5_goes
set_option maxRecDepth 20000 in
theorem ggX5_stingsOf_X5_at : GoodIn wsX5_stingsOf wsX5_at := goodIn_r _ [17, 18, 32, 33, 34, 35, 36, 37, 38, 39, 40, 41, 42, 43, 44] (by decide +kernel) (by decide +kernel)
set_option maxRecDepth 20000 in
theorem gX5_stingsOf_X5_at : GoodIn wsX5_stingsOf (wsV RX5 75 RX5 yX5_at wsX5_at) := goodIn_app (goodIn_of _ (by decide +kernel)) ggX5_stingsOf_X5_at
set_option maxRecDepth 20000 in
theorem ggX5_stingsOf_X5_blooms : GoodIn wsX5_stingsOf wsX5_blooms := goodIn_r _ [25, 26, 27, 28, 29, 30, 31, 19, 20, 7, 21, 32, 33, 34, 35, 36, 37, 38, 39, 40, 41, 42, 43, 44] (by decide +kernel) (by decide +kernel)
set_option maxRecDepth 20000 in
theorem gX5_stingsOf_X5_blooms : GoodIn wsX5_stingsOf (wsV RX5 72 RX5 yX5_blooms wsX5_blooms) := goodIn_app (goodIn_of _ (by decide +kernel)) ggX5_stingsOf_X5_blooms
theorem dX5_stingsOf_0 : decode cX5_stingsOf 0 = .ok (.iconst 0, 1) := by decide +kernel
theorem dX5_stingsOf_1 : decode cX5_stingsOf 1 = .ok (.istore_n 3, 1) := by decide +kernel
theorem dX5_stingsOf_2 : decode cX5_stingsOf 2 = .ok (.iconst 0, 1) := by decide +kernel
theorem dX5_stingsOf_3 : decode cX5_stingsOf 3 = .ok (.istore 4, 2) := by decide +kernel
theorem dX5_stingsOf_5 : decode cX5_stingsOf 5 = .ok (.iload 4, 2) := by decide +kernel
theorem dX5_stingsOf_7 : decode cX5_stingsOf 7 = .ok (.aload_n 0, 1) := by decide +kernel
theorem dX5_stingsOf_8 : decode cX5_stingsOf 8 = .ok (.getfield 28, 3) := by decide +kernel
theorem dX5_stingsOf_11 : decode cX5_stingsOf 11 = .ok (.iload_n 1, 1) := by decide +kernel
theorem dX5_stingsOf_12 : decode cX5_stingsOf 12 = .ok (.iaload, 1) := by decide +kernel
theorem dX5_stingsOf_13 : decode cX5_stingsOf 13 = .ok (.if_icmp .ge 56, 3) := by decide +kernel
theorem dX5_stingsOf_16 : decode cX5_stingsOf 16 = .ok (.aload_n 0, 1) := by decide +kernel
theorem dX5_stingsOf_17 : decode cX5_stingsOf 17 = .ok (.iload_n 1, 1) := by decide +kernel
theorem dX5_stingsOf_18 : decode cX5_stingsOf 18 = .ok (.invokevirtual 85, 3) := by decide +kernel
theorem dX5_stingsOf_21 : decode cX5_stingsOf 21 = .ok (.ifCond .eq 48, 3) := by decide +kernel
theorem dX5_stingsOf_24 : decode cX5_stingsOf 24 = .ok (.iload_n 3, 1) := by decide +kernel
theorem dX5_stingsOf_25 : decode cX5_stingsOf 25 = .ok (.aload_n 0, 1) := by decide +kernel
theorem dX5_stingsOf_26 : decode cX5_stingsOf 26 = .ok (.getfield 25, 3) := by decide +kernel
theorem dX5_stingsOf_29 : decode cX5_stingsOf 29 = .ok (.iload_n 1, 1) := by decide +kernel
theorem dX5_stingsOf_30 : decode cX5_stingsOf 30 = .ok (.iaload, 1) := by decide +kernel
theorem dX5_stingsOf_31 : decode cX5_stingsOf 31 = .ok (.aload_n 0, 1) := by decide +kernel
theorem dX5_stingsOf_32 : decode cX5_stingsOf 32 = .ok (.getfield 16, 3) := by decide +kernel
theorem dX5_stingsOf_35 : decode cX5_stingsOf 35 = .ok (.aload_n 0, 1) := by decide +kernel
theorem dX5_stingsOf_36 : decode cX5_stingsOf 36 = .ok (.iload_n 1, 1) := by decide +kernel
theorem dX5_stingsOf_37 : decode cX5_stingsOf 37 = .ok (.iload 4, 2) := by decide +kernel
theorem dX5_stingsOf_39 : decode cX5_stingsOf 39 = .ok (.invokevirtual 75, 3) := by decide +kernel
theorem dX5_stingsOf_42 : decode cX5_stingsOf 42 = .ok (.iaload, 1) := by decide +kernel
theorem dX5_stingsOf_43 : decode cX5_stingsOf 43 = .ok (.imul, 1) := by decide +kernel
theorem dX5_stingsOf_44 : decode cX5_stingsOf 44 = .ok (.aload_n 0, 1) := by decide +kernel
theorem dX5_stingsOf_45 : decode cX5_stingsOf 45 = .ok (.aload_n 0, 1) := by decide +kernel
theorem dX5_stingsOf_46 : decode cX5_stingsOf 46 = .ok (.iload_n 1, 1) := by decide +kernel
theorem dX5_stingsOf_47 : decode cX5_stingsOf 47 = .ok (.iload 4, 2) := by decide +kernel
theorem dX5_stingsOf_49 : decode cX5_stingsOf 49 = .ok (.invokevirtual 75, 3) := by decide +kernel
theorem dX5_stingsOf_52 : decode cX5_stingsOf 52 = .ok (.iload_n 2, 1) := by decide +kernel
theorem dX5_stingsOf_53 : decode cX5_stingsOf 53 = .ok (.invokevirtual 72, 3) := by decide +kernel
theorem dX5_stingsOf_56 : decode cX5_stingsOf 56 = .ok (.imul, 1) := by decide +kernel
theorem dX5_stingsOf_57 : decode cX5_stingsOf 57 = .ok (.sipush 5000, 3) := by decide +kernel
theorem dX5_stingsOf_60 : decode cX5_stingsOf 60 = .ok (.idiv, 1) := by decide +kernel
theorem dX5_stingsOf_61 : decode cX5_stingsOf 61 = .ok (.iadd, 1) := by decide +kernel
theorem dX5_stingsOf_62 : decode cX5_stingsOf 62 = .ok (.istore_n 3, 1) := by decide +kernel
theorem dX5_stingsOf_63 : decode cX5_stingsOf 63 = .ok (.iinc 4 1, 3) := by decide +kernel
theorem dX5_stingsOf_66 : decode cX5_stingsOf 66 = .ok (.goto (-61), 3) := by decide +kernel
theorem dX5_stingsOf_69 : decode cX5_stingsOf 69 = .ok (.iload_n 3, 1) := by decide +kernel
theorem dX5_stingsOf_70 : decode cX5_stingsOf 70 = .ok (.ireturn, 1) := by decide +kernel
set_option maxRecDepth 20000 in
theorem ggX5_tour_X5_isIn : GoodIn wsX5_tour wsX5_isIn := goodIn_r _ [7] (by decide +kernel) (by decide +kernel)
set_option maxRecDepth 20000 in
theorem gX5_tour_X5_isIn : GoodIn wsX5_tour (va_wsS RX5 44 yX5_isIn wsX5_isIn) := goodIn_app (goodIn_of _ (by decide +kernel)) ggX5_tour_X5_isIn
set_option maxRecDepth 20000 in
theorem ggX5_tour_X5_no : GoodIn wsX5_tour wsX5_no := goodIn_r _ [11, 1, 12, 13, 14, 15, 16, 17, 18, 19, 20, 21, 22, 23, 24] (by decide +kernel) (by decide +kernel)
set_option maxRecDepth 20000 in
theorem gX5_tour_X5_no : GoodIn wsX5_tour (wsV RX5 51 RX5 yX5_no wsX5_no) := goodIn_app (goodIn_of _ (by decide +kernel)) ggX5_tour_X5_no
theorem dX5_tour_0 : decode cX5_tour 0 = .ok (.aload_n 0, 1) := by decide +kernel
theorem dX5_tour_1 : decode cX5_tour 1 = .ok (.iconst 0, 1) := by decide +kernel
theorem dX5_tour_2 : decode cX5_tour 2 = .ok (.putfield 37, 3) := by decide +kernel
theorem dX5_tour_5 : decode cX5_tour 5 = .ok (.iload_n 1, 1) := by decide +kernel
theorem dX5_tour_6 : decode cX5_tour 6 = .ok (.iconst 1, 1) := by decide +kernel
theorem dX5_tour_7 : decode cX5_tour 7 = .ok (.bipush 60, 2) := by decide +kernel
theorem dX5_tour_9 : decode cX5_tour 9 = .ok (.invokestatic 44, 3) := by decide +kernel
theorem dX5_tour_12 : decode cX5_tour 12 = .ok (.ifCond .ne 9, 3) := by decide +kernel
theorem dX5_tour_15 : decode cX5_tour 15 = .ok (.aload_n 0, 1) := by decide +kernel
theorem dX5_tour_16 : decode cX5_tour 16 = .ok (.iconst 1, 1) := by decide +kernel
theorem dX5_tour_17 : decode cX5_tour 17 = .ok (.invokevirtual 51, 3) := by decide +kernel
theorem dX5_tour_20 : decode cX5_tour 20 = .ok (.ireturn, 1) := by decide +kernel
theorem dX5_tour_21 : decode cX5_tour 21 = .ok (.aload_n 0, 1) := by decide +kernel
theorem dX5_tour_22 : decode cX5_tour 22 = .ok (.getfield 48, 3) := by decide +kernel
theorem dX5_tour_25 : decode cX5_tour 25 = .ok (.bipush 6, 2) := by decide +kernel
theorem dX5_tour_27 : decode cX5_tour 27 = .ok (.if_icmp .ne 9, 3) := by decide +kernel
theorem dX5_tour_30 : decode cX5_tour 30 = .ok (.aload_n 0, 1) := by decide +kernel
theorem dX5_tour_31 : decode cX5_tour 31 = .ok (.iconst 2, 1) := by decide +kernel
theorem dX5_tour_32 : decode cX5_tour 32 = .ok (.invokevirtual 51, 3) := by decide +kernel
theorem dX5_tour_35 : decode cX5_tour 35 = .ok (.ireturn, 1) := by decide +kernel
theorem dX5_tour_36 : decode cX5_tour 36 = .ok (.aload_n 0, 1) := by decide +kernel
theorem dX5_tour_37 : decode cX5_tour 37 = .ok (.getfield 25, 3) := by decide +kernel
theorem dX5_tour_40 : decode cX5_tour 40 = .ok (.aload_n 0, 1) := by decide +kernel
theorem dX5_tour_41 : decode cX5_tour 41 = .ok (.getfield 48, 3) := by decide +kernel
theorem dX5_tour_44 : decode cX5_tour 44 = .ok (.iload_n 1, 1) := by decide +kernel
theorem dX5_tour_45 : decode cX5_tour 45 = .ok (.iastore, 1) := by decide +kernel
theorem dX5_tour_46 : decode cX5_tour 46 = .ok (.aload_n 0, 1) := by decide +kernel
theorem dX5_tour_47 : decode cX5_tour 47 = .ok (.dup, 1) := by decide +kernel
theorem dX5_tour_48 : decode cX5_tour 48 = .ok (.getfield 48, 3) := by decide +kernel
theorem dX5_tour_51 : decode cX5_tour 51 = .ok (.iconst 1, 1) := by decide +kernel
theorem dX5_tour_52 : decode cX5_tour 52 = .ok (.iadd, 1) := by decide +kernel
theorem dX5_tour_53 : decode cX5_tour 53 = .ok (.putfield 48, 3) := by decide +kernel
theorem dX5_tour_56 : decode cX5_tour 56 = .ok (.aload_n 0, 1) := by decide +kernel
theorem dX5_tour_57 : decode cX5_tour 57 = .ok (.getfield 48, 3) := by decide +kernel
theorem dX5_tour_60 : decode cX5_tour 60 = .ok (.iconst 1, 1) := by decide +kernel
theorem dX5_tour_61 : decode cX5_tour 61 = .ok (.isub, 1) := by decide +kernel
theorem dX5_tour_62 : decode cX5_tour 62 = .ok (.ireturn, 1) := by decide +kernel
set_option maxRecDepth 20000 in
theorem ggX5_add_X5_isTour : GoodIn wsX5_add wsX5_isTour := goodIn_r _ [8, 9, 10, 11, 7, 12, 30, 31, 32, 33, 34, 35, 36, 37, 38, 39, 40, 41, 42] (by decide +kernel) (by decide +kernel)
set_option maxRecDepth 20000 in
theorem gX5_add_X5_isTour : GoodIn wsX5_add (wsV RX5 94 RX5 yX5_isTour wsX5_isTour) := goodIn_app (goodIn_of _ (by decide +kernel)) ggX5_add_X5_isTour
set_option maxRecDepth 20000 in
theorem ggX5_add_X5_isValley : GoodIn wsX5_add wsX5_isValley := goodIn_r _ [16, 17, 10, 11, 7, 12, 30, 31, 32, 33, 34, 35, 36, 37, 38, 39, 40, 41, 42] (by decide +kernel) (by decide +kernel)
set_option maxRecDepth 20000 in
theorem gX5_add_X5_isValley : GoodIn wsX5_add (wsV RX5 55 RX5 yX5_isValley wsX5_isValley) := goodIn_app (goodIn_of _ (by decide +kernel)) ggX5_add_X5_isValley
set_option maxRecDepth 20000 in
theorem ggX5_add_X5_no : GoodIn wsX5_add wsX5_no := goodIn_r _ [21, 1, 30, 31, 32, 33, 34, 35, 36, 37, 38, 39, 40, 41, 42] (by decide +kernel) (by decide +kernel)
set_option maxRecDepth 20000 in
theorem gX5_add_X5_no : GoodIn wsX5_add (wsV RX5 51 RX5 yX5_no wsX5_no) := goodIn_app (goodIn_of _ (by decide +kernel)) ggX5_add_X5_no
set_option maxRecDepth 20000 in
theorem ggX5_add_X5_has : GoodIn wsX5_add wsX5_has := goodIn_r _ [25, 2, 26, 27, 28, 7, 29, 3, 30, 31, 32, 33, 34, 35, 36, 37, 38, 39, 40, 41, 42] (by decide +kernel) (by decide +kernel)
set_option maxRecDepth 20000 in
theorem gX5_add_X5_has : GoodIn wsX5_add (wsV RX5 81 RX5 yX5_has wsX5_has) := goodIn_app (goodIn_of _ (by decide +kernel)) ggX5_add_X5_has
theorem dX5_add_0 : decode cX5_add 0 = .ok (.aload_n 0, 1) := by decide +kernel
theorem dX5_add_1 : decode cX5_add 1 = .ok (.iconst 0, 1) := by decide +kernel
theorem dX5_add_2 : decode cX5_add 2 = .ok (.putfield 37, 3) := by decide +kernel
theorem dX5_add_5 : decode cX5_add 5 = .ok (.aload_n 0, 1) := by decide +kernel
theorem dX5_add_6 : decode cX5_add 6 = .ok (.iload_n 1, 1) := by decide +kernel
theorem dX5_add_7 : decode cX5_add 7 = .ok (.invokevirtual 94, 3) := by decide +kernel
theorem dX5_add_10 : decode cX5_add 10 = .ok (.ifCond .eq 11, 3) := by decide +kernel
theorem dX5_add_13 : decode cX5_add 13 = .ok (.aload_n 0, 1) := by decide +kernel
theorem dX5_add_14 : decode cX5_add 14 = .ok (.iload_n 2, 1) := by decide +kernel
theorem dX5_add_15 : decode cX5_add 15 = .ok (.invokevirtual 55, 3) := by decide +kernel
theorem dX5_add_18 : decode cX5_add 18 = .ok (.ifCond .ne 9, 3) := by decide +kernel
theorem dX5_add_21 : decode cX5_add 21 = .ok (.aload_n 0, 1) := by decide +kernel
theorem dX5_add_22 : decode cX5_add 22 = .ok (.iconst 1, 1) := by decide +kernel
theorem dX5_add_23 : decode cX5_add 23 = .ok (.invokevirtual 51, 3) := by decide +kernel
theorem dX5_add_26 : decode cX5_add 26 = .ok (.ireturn, 1) := by decide +kernel
theorem dX5_add_27 : decode cX5_add 27 = .ok (.aload_n 0, 1) := by decide +kernel
theorem dX5_add_28 : decode cX5_add 28 = .ok (.getfield 28, 3) := by decide +kernel
theorem dX5_add_31 : decode cX5_add 31 = .ok (.iload_n 1, 1) := by decide +kernel
theorem dX5_add_32 : decode cX5_add 32 = .ok (.iaload, 1) := by decide +kernel
theorem dX5_add_33 : decode cX5_add 33 = .ok (.iconst 5, 1) := by decide +kernel
theorem dX5_add_34 : decode cX5_add 34 = .ok (.if_icmp .eq 12, 3) := by decide +kernel
theorem dX5_add_37 : decode cX5_add 37 = .ok (.aload_n 0, 1) := by decide +kernel
theorem dX5_add_38 : decode cX5_add 38 = .ok (.iload_n 1, 1) := by decide +kernel
theorem dX5_add_39 : decode cX5_add 39 = .ok (.iload_n 2, 1) := by decide +kernel
theorem dX5_add_40 : decode cX5_add 40 = .ok (.invokevirtual 81, 3) := by decide +kernel
theorem dX5_add_43 : decode cX5_add 43 = .ok (.ifCond .eq 9, 3) := by decide +kernel
theorem dX5_add_46 : decode cX5_add 46 = .ok (.aload_n 0, 1) := by decide +kernel
theorem dX5_add_47 : decode cX5_add 47 = .ok (.iconst 2, 1) := by decide +kernel
theorem dX5_add_48 : decode cX5_add 48 = .ok (.invokevirtual 51, 3) := by decide +kernel
theorem dX5_add_51 : decode cX5_add 51 = .ok (.ireturn, 1) := by decide +kernel
theorem dX5_add_52 : decode cX5_add 52 = .ok (.aload_n 0, 1) := by decide +kernel
theorem dX5_add_53 : decode cX5_add 53 = .ok (.getfield 31, 3) := by decide +kernel
theorem dX5_add_56 : decode cX5_add 56 = .ok (.iconst 5, 1) := by decide +kernel
theorem dX5_add_57 : decode cX5_add 57 = .ok (.iload_n 1, 1) := by decide +kernel
theorem dX5_add_58 : decode cX5_add 58 = .ok (.imul, 1) := by decide +kernel
theorem dX5_add_59 : decode cX5_add 59 = .ok (.aload_n 0, 1) := by decide +kernel
theorem dX5_add_60 : decode cX5_add 60 = .ok (.getfield 28, 3) := by decide +kernel
theorem dX5_add_63 : decode cX5_add 63 = .ok (.iload_n 1, 1) := by decide +kernel
theorem dX5_add_64 : decode cX5_add 64 = .ok (.iaload, 1) := by decide +kernel
theorem dX5_add_65 : decode cX5_add 65 = .ok (.iadd, 1) := by decide +kernel
theorem dX5_add_66 : decode cX5_add 66 = .ok (.iload_n 2, 1) := by decide +kernel
theorem dX5_add_67 : decode cX5_add 67 = .ok (.iastore, 1) := by decide +kernel
theorem dX5_add_68 : decode cX5_add 68 = .ok (.aload_n 0, 1) := by decide +kernel
theorem dX5_add_69 : decode cX5_add 69 = .ok (.getfield 28, 3) := by decide +kernel
theorem dX5_add_72 : decode cX5_add 72 = .ok (.iload_n 1, 1) := by decide +kernel
theorem dX5_add_73 : decode cX5_add 73 = .ok (.dup2, 1) := by decide +kernel
theorem dX5_add_74 : decode cX5_add 74 = .ok (.iaload, 1) := by decide +kernel
theorem dX5_add_75 : decode cX5_add 75 = .ok (.iconst 1, 1) := by decide +kernel
theorem dX5_add_76 : decode cX5_add 76 = .ok (.iadd, 1) := by decide +kernel
theorem dX5_add_77 : decode cX5_add 77 = .ok (.iastore, 1) := by decide +kernel
theorem dX5_add_78 : decode cX5_add 78 = .ok (.aload_n 0, 1) := by decide +kernel
theorem dX5_add_79 : decode cX5_add 79 = .ok (.getfield 28, 3) := by decide +kernel
theorem dX5_add_82 : decode cX5_add 82 = .ok (.iload_n 1, 1) := by decide +kernel
theorem dX5_add_83 : decode cX5_add 83 = .ok (.iaload, 1) := by decide +kernel
theorem dX5_add_84 : decode cX5_add 84 = .ok (.ireturn, 1) := by decide +kernel
set_option maxRecDepth 20000 in
theorem ggX5_cut_X5_isTour : GoodIn wsX5_cut wsX5_isTour := goodIn_r _ [7, 8, 9, 10, 6, 11, 21, 22, 23, 24, 25, 26, 27, 28, 29, 30, 31, 32, 33] (by decide +kernel) (by decide +kernel)
set_option maxRecDepth 20000 in
theorem gX5_cut_X5_isTour : GoodIn wsX5_cut (wsV RX5 94 RX5 yX5_isTour wsX5_isTour) := goodIn_app (goodIn_of _ (by decide +kernel)) ggX5_cut_X5_isTour
set_option maxRecDepth 20000 in
theorem ggX5_cut_X5_no : GoodIn wsX5_cut wsX5_no := goodIn_r _ [15, 1, 21, 22, 23, 24, 25, 26, 27, 28, 29, 30, 31, 32, 33] (by decide +kernel) (by decide +kernel)
set_option maxRecDepth 20000 in
theorem gX5_cut_X5_no : GoodIn wsX5_cut (wsV RX5 51 RX5 yX5_no wsX5_no) := goodIn_app (goodIn_of _ (by decide +kernel)) ggX5_cut_X5_no
set_option maxRecDepth 20000 in
theorem ggX5_cut_X5_at : GoodIn wsX5_cut wsX5_at := goodIn_r _ [19, 20, 21, 22, 23, 24, 25, 26, 27, 28, 29, 30, 31, 32, 33] (by decide +kernel) (by decide +kernel)
set_option maxRecDepth 20000 in
theorem gX5_cut_X5_at : GoodIn wsX5_cut (wsV RX5 75 RX5 yX5_at wsX5_at) := goodIn_app (goodIn_of _ (by decide +kernel)) ggX5_cut_X5_at
theorem dX5_cut_0 : decode cX5_cut 0 = .ok (.aload_n 0, 1) := by decide +kernel
theorem dX5_cut_1 : decode cX5_cut 1 = .ok (.iconst 0, 1) := by decide +kernel
theorem dX5_cut_2 : decode cX5_cut 2 = .ok (.putfield 37, 3) := by decide +kernel
theorem dX5_cut_5 : decode cX5_cut 5 = .ok (.aload_n 0, 1) := by decide +kernel
theorem dX5_cut_6 : decode cX5_cut 6 = .ok (.iload_n 1, 1) := by decide +kernel
theorem dX5_cut_7 : decode cX5_cut 7 = .ok (.invokevirtual 94, 3) := by decide +kernel
theorem dX5_cut_10 : decode cX5_cut 10 = .ok (.ifCond .ne 9, 3) := by decide +kernel
theorem dX5_cut_13 : decode cX5_cut 13 = .ok (.aload_n 0, 1) := by decide +kernel
theorem dX5_cut_14 : decode cX5_cut 14 = .ok (.iconst 1, 1) := by decide +kernel
theorem dX5_cut_15 : decode cX5_cut 15 = .ok (.invokevirtual 51, 3) := by decide +kernel
theorem dX5_cut_18 : decode cX5_cut 18 = .ok (.ireturn, 1) := by decide +kernel
theorem dX5_cut_19 : decode cX5_cut 19 = .ok (.aload_n 0, 1) := by decide +kernel
theorem dX5_cut_20 : decode cX5_cut 20 = .ok (.getfield 28, 3) := by decide +kernel
theorem dX5_cut_23 : decode cX5_cut 23 = .ok (.iload_n 1, 1) := by decide +kernel
theorem dX5_cut_24 : decode cX5_cut 24 = .ok (.iaload, 1) := by decide +kernel
theorem dX5_cut_25 : decode cX5_cut 25 = .ok (.ifCond .ne 9, 3) := by decide +kernel
theorem dX5_cut_28 : decode cX5_cut 28 = .ok (.aload_n 0, 1) := by decide +kernel
theorem dX5_cut_29 : decode cX5_cut 29 = .ok (.iconst 2, 1) := by decide +kernel
theorem dX5_cut_30 : decode cX5_cut 30 = .ok (.invokevirtual 51, 3) := by decide +kernel
theorem dX5_cut_33 : decode cX5_cut 33 = .ok (.ireturn, 1) := by decide +kernel
theorem dX5_cut_34 : decode cX5_cut 34 = .ok (.aload_n 0, 1) := by decide +kernel
theorem dX5_cut_35 : decode cX5_cut 35 = .ok (.getfield 28, 3) := by decide +kernel
theorem dX5_cut_38 : decode cX5_cut 38 = .ok (.iload_n 1, 1) := by decide +kernel
theorem dX5_cut_39 : decode cX5_cut 39 = .ok (.dup2, 1) := by decide +kernel
theorem dX5_cut_40 : decode cX5_cut 40 = .ok (.iaload, 1) := by decide +kernel
theorem dX5_cut_41 : decode cX5_cut 41 = .ok (.iconst 1, 1) := by decide +kernel
theorem dX5_cut_42 : decode cX5_cut 42 = .ok (.isub, 1) := by decide +kernel
theorem dX5_cut_43 : decode cX5_cut 43 = .ok (.iastore, 1) := by decide +kernel
theorem dX5_cut_44 : decode cX5_cut 44 = .ok (.aload_n 0, 1) := by decide +kernel
theorem dX5_cut_45 : decode cX5_cut 45 = .ok (.iload_n 1, 1) := by decide +kernel
theorem dX5_cut_46 : decode cX5_cut 46 = .ok (.aload_n 0, 1) := by decide +kernel
theorem dX5_cut_47 : decode cX5_cut 47 = .ok (.getfield 28, 3) := by decide +kernel
theorem dX5_cut_50 : decode cX5_cut 50 = .ok (.iload_n 1, 1) := by decide +kernel
theorem dX5_cut_51 : decode cX5_cut 51 = .ok (.iaload, 1) := by decide +kernel
theorem dX5_cut_52 : decode cX5_cut 52 = .ok (.invokevirtual 75, 3) := by decide +kernel
theorem dX5_cut_55 : decode cX5_cut 55 = .ok (.ireturn, 1) := by decide +kernel
set_option maxRecDepth 20000 in
theorem ggX5_tourTold_X5_minutes : GoodIn wsX5_tourTold wsX5_minutes := goodIn_r _ [8, 2, 9, 10, 11, 12, 7, 13, 14, 53, 54, 55, 56, 57, 58, 59, 60, 61, 62, 63, 64, 65] (by decide +kernel) (by decide +kernel)
set_option maxRecDepth 20000 in
theorem gX5_tourTold_X5_minutes : GoodIn wsX5_tourTold (wsV RX5 78 RX5 yX5_minutes wsX5_minutes) := goodIn_app (goodIn_of _ (by decide +kernel)) ggX5_tourTold_X5_minutes
set_option maxRecDepth 20000 in
theorem ggX5_tourTold_X5_goes : GoodIn wsX5_tourTold wsX5_goes := goodIn_r _ [18, 4, 5, 6, 7, 8, 2, 9, 10, 11, 12, 13, 14, 19, 20, 21, 53, 54, 55, 56, 57, 58, 59, 60, 61, 62, 63, 64, 65] (by decide +kernel) (by decide +kernel)
set_option maxRecDepth 20000 in
theorem gX5_tourTold_X5_goes : GoodIn wsX5_tourTold (wsV RX5 85 RX5 yX5_goes wsX5_goes) := goodIn_app (goodIn_of _ (by decide +kernel)) ggX5_tourTold_X5_goes
set_option maxRecDepth 20000 in
theorem ggX5_tourTold_X5_joyOf : GoodIn wsX5_tourTold wsX5_joyOf := goodIn_r _ [25, 2, 26, 27, 28, 29, 15, 16, 17, 7, 18, 4, 5, 6, 8, 9, 10, 11, 12, 13, 14, 19, 20, 21, 30, 31, 32, 33, 34, 35, 36, 37, 38, 39, 40, 41, 42, 43, 1, 44, 45, 46, 47, 53, 54, 55, 56, 57, 58, 59, 60, 61, 62, 63, 64, 65] (by decide +kernel) (by decide +kernel)
set_option maxRecDepth 20000 in
theorem gX5_tourTold_X5_joyOf : GoodIn wsX5_tourTold (wsV RX5 97 RX5 yX5_joyOf wsX5_joyOf) := goodIn_app (goodIn_of _ (by decide +kernel)) ggX5_tourTold_X5_joyOf
set_option maxRecDepth 20000 in
theorem ggX5_tourTold_X5_stingsOf : GoodIn wsX5_tourTold wsX5_stingsOf := goodIn_r _ [51, 2, 1, 52, 15, 16, 17, 7, 18, 4, 5, 6, 8, 9, 10, 11, 12, 13, 14, 19, 20, 21, 30, 31, 32, 33, 34, 35, 36, 37, 28, 38, 53, 54, 55, 56, 57, 58, 59, 60, 61, 62, 63, 64, 65] (by decide +kernel) (by decide +kernel)
set_option maxRecDepth 20000 in
theorem gX5_tourTold_X5_stingsOf : GoodIn wsX5_tourTold (wsV RX5 100 RX5 yX5_stingsOf wsX5_stingsOf) := goodIn_app (goodIn_of _ (by decide +kernel)) ggX5_tourTold_X5_stingsOf
theorem dX5_tourTold_0 : decode cX5_tourTold 0 = .ok (.iload_n 2, 1) := by decide +kernel
theorem dX5_tourTold_1 : decode cX5_tourTold 1 = .ok (.tableswitch 81 0 4 #[35, 42, 49, 55, 69], 35) := by decide +kernel
theorem dX5_tourTold_36 : decode cX5_tourTold 36 = .ok (.aload_n 0, 1) := by decide +kernel
theorem dX5_tourTold_37 : decode cX5_tourTold 37 = .ok (.getfield 25, 3) := by decide +kernel
theorem dX5_tourTold_40 : decode cX5_tourTold 40 = .ok (.iload_n 1, 1) := by decide +kernel
theorem dX5_tourTold_41 : decode cX5_tourTold 41 = .ok (.iaload, 1) := by decide +kernel
theorem dX5_tourTold_42 : decode cX5_tourTold 42 = .ok (.ireturn, 1) := by decide +kernel
theorem dX5_tourTold_43 : decode cX5_tourTold 43 = .ok (.aload_n 0, 1) := by decide +kernel
theorem dX5_tourTold_44 : decode cX5_tourTold 44 = .ok (.getfield 28, 3) := by decide +kernel
theorem dX5_tourTold_47 : decode cX5_tourTold 47 = .ok (.iload_n 1, 1) := by decide +kernel
theorem dX5_tourTold_48 : decode cX5_tourTold 48 = .ok (.iaload, 1) := by decide +kernel
theorem dX5_tourTold_49 : decode cX5_tourTold 49 = .ok (.ireturn, 1) := by decide +kernel
theorem dX5_tourTold_50 : decode cX5_tourTold 50 = .ok (.aload_n 0, 1) := by decide +kernel
theorem dX5_tourTold_51 : decode cX5_tourTold 51 = .ok (.iload_n 1, 1) := by decide +kernel
theorem dX5_tourTold_52 : decode cX5_tourTold 52 = .ok (.invokevirtual 78, 3) := by decide +kernel
theorem dX5_tourTold_55 : decode cX5_tourTold 55 = .ok (.ireturn, 1) := by decide +kernel
theorem dX5_tourTold_56 : decode cX5_tourTold 56 = .ok (.aload_n 0, 1) := by decide +kernel
theorem dX5_tourTold_57 : decode cX5_tourTold 57 = .ok (.iload_n 1, 1) := by decide +kernel
theorem dX5_tourTold_58 : decode cX5_tourTold 58 = .ok (.invokevirtual 85, 3) := by decide +kernel
theorem dX5_tourTold_61 : decode cX5_tourTold 61 = .ok (.ifCond .eq 7, 3) := by decide +kernel
theorem dX5_tourTold_64 : decode cX5_tourTold 64 = .ok (.iconst 1, 1) := by decide +kernel
theorem dX5_tourTold_65 : decode cX5_tourTold 65 = .ok (.goto 4, 3) := by decide +kernel
theorem dX5_tourTold_68 : decode cX5_tourTold 68 = .ok (.iconst 0, 1) := by decide +kernel
theorem dX5_tourTold_69 : decode cX5_tourTold 69 = .ok (.ireturn, 1) := by decide +kernel
theorem dX5_tourTold_70 : decode cX5_tourTold 70 = .ok (.aload_n 0, 1) := by decide +kernel
theorem dX5_tourTold_71 : decode cX5_tourTold 71 = .ok (.iload_n 1, 1) := by decide +kernel
theorem dX5_tourTold_72 : decode cX5_tourTold 72 = .ok (.aload_n 0, 1) := by decide +kernel
theorem dX5_tourTold_73 : decode cX5_tourTold 73 = .ok (.getfield 34, 3) := by decide +kernel
theorem dX5_tourTold_76 : decode cX5_tourTold 76 = .ok (.iconst 0, 1) := by decide +kernel
theorem dX5_tourTold_77 : decode cX5_tourTold 77 = .ok (.iaload, 1) := by decide +kernel
theorem dX5_tourTold_78 : decode cX5_tourTold 78 = .ok (.invokevirtual 97, 3) := by decide +kernel
theorem dX5_tourTold_81 : decode cX5_tourTold 81 = .ok (.ireturn, 1) := by decide +kernel
theorem dX5_tourTold_82 : decode cX5_tourTold 82 = .ok (.aload_n 0, 1) := by decide +kernel
theorem dX5_tourTold_83 : decode cX5_tourTold 83 = .ok (.iload_n 1, 1) := by decide +kernel
theorem dX5_tourTold_84 : decode cX5_tourTold 84 = .ok (.aload_n 0, 1) := by decide +kernel
theorem dX5_tourTold_85 : decode cX5_tourTold 85 = .ok (.getfield 34, 3) := by decide +kernel
theorem dX5_tourTold_88 : decode cX5_tourTold 88 = .ok (.iconst 0, 1) := by decide +kernel
theorem dX5_tourTold_89 : decode cX5_tourTold 89 = .ok (.iaload, 1) := by decide +kernel
theorem dX5_tourTold_90 : decode cX5_tourTold 90 = .ok (.invokevirtual 100, 3) := by decide +kernel
theorem dX5_tourTold_93 : decode cX5_tourTold 93 = .ok (.ireturn, 1) := by decide +kernel
set_option maxRecDepth 20000 in
theorem ggX5_told_X5_isTour : GoodIn wsX5_told wsX5_isTour := goodIn_r _ [6, 7, 8, 9, 5, 10, 66, 67, 68, 69, 70, 71, 72, 73, 74, 75, 76, 77, 78] (by decide +kernel) (by decide +kernel)
set_option maxRecDepth 20000 in
theorem gX5_told_X5_isTour : GoodIn wsX5_told (wsV RX5 94 RX5 yX5_isTour wsX5_isTour) := goodIn_app (goodIn_of _ (by decide +kernel)) ggX5_told_X5_isTour
set_option maxRecDepth 20000 in
theorem ggX5_told_X5_isIn : GoodIn wsX5_told wsX5_isIn := goodIn_r _ [10] (by decide +kernel) (by decide +kernel)
set_option maxRecDepth 20000 in
theorem gX5_told_X5_isIn : GoodIn wsX5_told (va_wsS RX5 44 yX5_isIn wsX5_isIn) := goodIn_app (goodIn_of _ (by decide +kernel)) ggX5_told_X5_isIn
set_option maxRecDepth 20000 in
theorem ggX5_told_X5_tourTold : GoodIn wsX5_told wsX5_tourTold := goodIn_r _ [14, 15, 16, 17, 18, 19, 20, 5, 21, 22, 23, 24, 25, 26, 27, 28, 29, 30, 31, 8, 9, 10, 32, 33, 34, 35, 36, 37, 38, 39, 40, 41, 42, 43, 44, 45, 46, 47, 48, 49, 50, 51, 52, 7, 53, 54, 55, 56, 57, 58, 59, 60, 61, 66, 67, 68, 69, 70, 71, 72, 73, 74, 75, 76, 77, 78] (by decide +kernel) (by decide +kernel)
set_option maxRecDepth 20000 in
theorem gX5_told_X5_tourTold : GoodIn wsX5_told (wsV RX5 103 RX5 yX5_tourTold wsX5_tourTold) := goodIn_app (goodIn_of _ (by decide +kernel)) ggX5_told_X5_tourTold
set_option maxRecDepth 20000 in
theorem ggX5_told_X5_no : GoodIn wsX5_told wsX5_no := goodIn_r _ [65, 1, 66, 67, 68, 69, 70, 71, 72, 73, 74, 75, 76, 77, 78] (by decide +kernel) (by decide +kernel)
set_option maxRecDepth 20000 in
theorem gX5_told_X5_no : GoodIn wsX5_told (wsV RX5 51 RX5 yX5_no wsX5_no) := goodIn_app (goodIn_of _ (by decide +kernel)) ggX5_told_X5_no
theorem dX5_told_0 : decode cX5_told 0 = .ok (.aload_n 0, 1) := by decide +kernel
theorem dX5_told_1 : decode cX5_told 1 = .ok (.iconst 0, 1) := by decide +kernel
theorem dX5_told_2 : decode cX5_told 2 = .ok (.putfield 37, 3) := by decide +kernel
theorem dX5_told_5 : decode cX5_told 5 = .ok (.aload_n 0, 1) := by decide +kernel
theorem dX5_told_6 : decode cX5_told 6 = .ok (.iload_n 1, 1) := by decide +kernel
theorem dX5_told_7 : decode cX5_told 7 = .ok (.invokevirtual 94, 3) := by decide +kernel
theorem dX5_told_10 : decode cX5_told 10 = .ok (.ifCond .eq 21, 3) := by decide +kernel
theorem dX5_told_13 : decode cX5_told 13 = .ok (.iload_n 2, 1) := by decide +kernel
theorem dX5_told_14 : decode cX5_told 14 = .ok (.iconst 0, 1) := by decide +kernel
theorem dX5_told_15 : decode cX5_told 15 = .ok (.iconst 5, 1) := by decide +kernel
theorem dX5_told_16 : decode cX5_told 16 = .ok (.invokestatic 44, 3) := by decide +kernel
theorem dX5_told_19 : decode cX5_told 19 = .ok (.ifCond .eq 12, 3) := by decide +kernel
theorem dX5_told_22 : decode cX5_told 22 = .ok (.aload_n 0, 1) := by decide +kernel
theorem dX5_told_23 : decode cX5_told 23 = .ok (.iload_n 1, 1) := by decide +kernel
theorem dX5_told_24 : decode cX5_told 24 = .ok (.iload_n 2, 1) := by decide +kernel
theorem dX5_told_25 : decode cX5_told 25 = .ok (.invokevirtual 103, 3) := by decide +kernel
theorem dX5_told_28 : decode cX5_told 28 = .ok (.goto 8, 3) := by decide +kernel
theorem dX5_told_31 : decode cX5_told 31 = .ok (.aload_n 0, 1) := by decide +kernel
theorem dX5_told_32 : decode cX5_told 32 = .ok (.iconst 1, 1) := by decide +kernel
theorem dX5_told_33 : decode cX5_told 33 = .ok (.invokevirtual 51, 3) := by decide +kernel
theorem dX5_told_36 : decode cX5_told 36 = .ok (.ireturn, 1) := by decide +kernel
set_option maxRecDepth 20000 in
theorem ggX5_valleyTold_X5_has : GoodIn wsX5_valleyTold wsX5_has := goodIn_r _ [10, 11, 12, 13, 14, 9, 15, 16, 42, 43, 44, 45, 46, 47, 48, 49, 50, 51, 52, 53, 54] (by decide +kernel) (by decide +kernel)
set_option maxRecDepth 20000 in
theorem gX5_valleyTold_X5_has : GoodIn wsX5_valleyTold (wsV RX5 81 RX5 yX5_has wsX5_has) := goodIn_app (goodIn_of _ (by decide +kernel)) ggX5_valleyTold_X5_has
set_option maxRecDepth 20000 in
theorem ggX5_valleyTold_X5_goes : GoodIn wsX5_valleyTold wsX5_goes := goodIn_r _ [20, 21, 22, 23, 9, 24, 11, 25, 12, 13, 14, 15, 16, 26, 27, 28, 42, 43, 44, 45, 46, 47, 48, 49, 50, 51, 52, 53, 54] (by decide +kernel) (by decide +kernel)
set_option maxRecDepth 20000 in
theorem gX5_valleyTold_X5_goes : GoodIn wsX5_valleyTold (wsV RX5 85 RX5 yX5_goes wsX5_goes) := goodIn_app (goodIn_of _ (by decide +kernel)) ggX5_valleyTold_X5_goes
set_option maxRecDepth 20000 in
theorem ggX5_valleyTold_X5_blooms : GoodIn wsX5_valleyTold wsX5_blooms := goodIn_r _ [32, 2, 3, 33, 34, 35, 36, 26, 27, 9, 28, 42, 43, 44, 45, 46, 47, 48, 49, 50, 51, 52, 53, 54] (by decide +kernel) (by decide +kernel)
set_option maxRecDepth 20000 in
theorem gX5_valleyTold_X5_blooms : GoodIn wsX5_valleyTold (wsV RX5 72 RX5 yX5_blooms wsX5_blooms) := goodIn_app (goodIn_of _ (by decide +kernel)) ggX5_valleyTold_X5_blooms
set_option maxRecDepth 20000 in
theorem ggX5_valleyTold_X5_crowd : GoodIn wsX5_valleyTold wsX5_crowd := goodIn_r _ [40, 1, 41, 6, 7, 8, 9, 10, 11, 12, 13, 14, 15, 16, 17, 18, 19, 20, 21, 22, 23, 24, 25, 26, 27, 28, 42, 43, 44, 45, 46, 47, 48, 49, 50, 51, 52, 53, 54] (by decide +kernel) (by decide +kernel)
set_option maxRecDepth 20000 in
theorem gX5_valleyTold_X5_crowd : GoodIn wsX5_valleyTold (wsV RX5 88 RX5 yX5_crowd wsX5_crowd) := goodIn_app (goodIn_of _ (by decide +kernel)) ggX5_valleyTold_X5_crowd
theorem dX5_valleyTold_0 : decode cX5_valleyTold 0 = .ok (.iconst 0, 1) := by decide +kernel
theorem dX5_valleyTold_1 : decode cX5_valleyTold 1 = .ok (.istore_n 3, 1) := by decide +kernel
theorem dX5_valleyTold_2 : decode cX5_valleyTold 2 = .ok (.iconst 0, 1) := by decide +kernel
theorem dX5_valleyTold_3 : decode cX5_valleyTold 3 = .ok (.istore 4, 2) := by decide +kernel
theorem dX5_valleyTold_5 : decode cX5_valleyTold 5 = .ok (.iload 4, 2) := by decide +kernel
theorem dX5_valleyTold_7 : decode cX5_valleyTold 7 = .ok (.aload_n 0, 1) := by decide +kernel
theorem dX5_valleyTold_8 : decode cX5_valleyTold 8 = .ok (.getfield 48, 3) := by decide +kernel
theorem dX5_valleyTold_11 : decode cX5_valleyTold 11 = .ok (.if_icmp .ge 36, 3) := by decide +kernel
theorem dX5_valleyTold_14 : decode cX5_valleyTold 14 = .ok (.iload_n 3, 1) := by decide +kernel
theorem dX5_valleyTold_15 : decode cX5_valleyTold 15 = .ok (.aload_n 0, 1) := by decide +kernel
theorem dX5_valleyTold_16 : decode cX5_valleyTold 16 = .ok (.iload 4, 2) := by decide +kernel
theorem dX5_valleyTold_18 : decode cX5_valleyTold 18 = .ok (.iload_n 1, 1) := by decide +kernel
theorem dX5_valleyTold_19 : decode cX5_valleyTold 19 = .ok (.invokevirtual 81, 3) := by decide +kernel
theorem dX5_valleyTold_22 : decode cX5_valleyTold 22 = .ok (.ifCond .eq 16, 3) := by decide +kernel
theorem dX5_valleyTold_25 : decode cX5_valleyTold 25 = .ok (.aload_n 0, 1) := by decide +kernel
theorem dX5_valleyTold_26 : decode cX5_valleyTold 26 = .ok (.iload 4, 2) := by decide +kernel
theorem dX5_valleyTold_28 : decode cX5_valleyTold 28 = .ok (.invokevirtual 85, 3) := by decide +kernel
theorem dX5_valleyTold_31 : decode cX5_valleyTold 31 = .ok (.ifCond .eq 7, 3) := by decide +kernel
theorem dX5_valleyTold_34 : decode cX5_valleyTold 34 = .ok (.iconst 1, 1) := by decide +kernel
theorem dX5_valleyTold_35 : decode cX5_valleyTold 35 = .ok (.goto 4, 3) := by decide +kernel
theorem dX5_valleyTold_38 : decode cX5_valleyTold 38 = .ok (.iconst 0, 1) := by decide +kernel
theorem dX5_valleyTold_39 : decode cX5_valleyTold 39 = .ok (.iadd, 1) := by decide +kernel
theorem dX5_valleyTold_40 : decode cX5_valleyTold 40 = .ok (.istore_n 3, 1) := by decide +kernel
theorem dX5_valleyTold_41 : decode cX5_valleyTold 41 = .ok (.iinc 4 1, 3) := by decide +kernel
theorem dX5_valleyTold_44 : decode cX5_valleyTold 44 = .ok (.goto (-39), 3) := by decide +kernel
theorem dX5_valleyTold_47 : decode cX5_valleyTold 47 = .ok (.iload_n 2, 1) := by decide +kernel
theorem dX5_valleyTold_48 : decode cX5_valleyTold 48 = .ok (.tableswitch 75 0 4 #[36, 43, 50, 57, 69], 36) := by decide +kernel
theorem dX5_valleyTold_84 : decode cX5_valleyTold 84 = .ok (.aload_n 0, 1) := by decide +kernel
theorem dX5_valleyTold_85 : decode cX5_valleyTold 85 = .ok (.getfield 9, 3) := by decide +kernel
theorem dX5_valleyTold_88 : decode cX5_valleyTold 88 = .ok (.iload_n 1, 1) := by decide +kernel
theorem dX5_valleyTold_89 : decode cX5_valleyTold 89 = .ok (.iaload, 1) := by decide +kernel
theorem dX5_valleyTold_90 : decode cX5_valleyTold 90 = .ok (.ireturn, 1) := by decide +kernel
theorem dX5_valleyTold_91 : decode cX5_valleyTold 91 = .ok (.aload_n 0, 1) := by decide +kernel
theorem dX5_valleyTold_92 : decode cX5_valleyTold 92 = .ok (.getfield 13, 3) := by decide +kernel
theorem dX5_valleyTold_95 : decode cX5_valleyTold 95 = .ok (.iload_n 1, 1) := by decide +kernel
theorem dX5_valleyTold_96 : decode cX5_valleyTold 96 = .ok (.iaload, 1) := by decide +kernel
theorem dX5_valleyTold_97 : decode cX5_valleyTold 97 = .ok (.ireturn, 1) := by decide +kernel
theorem dX5_valleyTold_98 : decode cX5_valleyTold 98 = .ok (.aload_n 0, 1) := by decide +kernel
theorem dX5_valleyTold_99 : decode cX5_valleyTold 99 = .ok (.getfield 16, 3) := by decide +kernel
theorem dX5_valleyTold_102 : decode cX5_valleyTold 102 = .ok (.iload_n 1, 1) := by decide +kernel
theorem dX5_valleyTold_103 : decode cX5_valleyTold 103 = .ok (.iaload, 1) := by decide +kernel
theorem dX5_valleyTold_104 : decode cX5_valleyTold 104 = .ok (.ireturn, 1) := by decide +kernel
theorem dX5_valleyTold_105 : decode cX5_valleyTold 105 = .ok (.aload_n 0, 1) := by decide +kernel
theorem dX5_valleyTold_106 : decode cX5_valleyTold 106 = .ok (.iload_n 1, 1) := by decide +kernel
theorem dX5_valleyTold_107 : decode cX5_valleyTold 107 = .ok (.aload_n 0, 1) := by decide +kernel
theorem dX5_valleyTold_108 : decode cX5_valleyTold 108 = .ok (.getfield 34, 3) := by decide +kernel
theorem dX5_valleyTold_111 : decode cX5_valleyTold 111 = .ok (.iconst 0, 1) := by decide +kernel
theorem dX5_valleyTold_112 : decode cX5_valleyTold 112 = .ok (.iaload, 1) := by decide +kernel
theorem dX5_valleyTold_113 : decode cX5_valleyTold 113 = .ok (.invokevirtual 72, 3) := by decide +kernel
theorem dX5_valleyTold_116 : decode cX5_valleyTold 116 = .ok (.ireturn, 1) := by decide +kernel
theorem dX5_valleyTold_117 : decode cX5_valleyTold 117 = .ok (.aload_n 0, 1) := by decide +kernel
theorem dX5_valleyTold_118 : decode cX5_valleyTold 118 = .ok (.iload_n 1, 1) := by decide +kernel
theorem dX5_valleyTold_119 : decode cX5_valleyTold 119 = .ok (.invokevirtual 88, 3) := by decide +kernel
theorem dX5_valleyTold_122 : decode cX5_valleyTold 122 = .ok (.ireturn, 1) := by decide +kernel
theorem dX5_valleyTold_123 : decode cX5_valleyTold 123 = .ok (.iload_n 3, 1) := by decide +kernel
theorem dX5_valleyTold_124 : decode cX5_valleyTold 124 = .ok (.ireturn, 1) := by decide +kernel
set_option maxRecDepth 20000 in
theorem ggX5_about_X5_isValley : GoodIn wsX5_about wsX5_isValley := goodIn_r _ [6, 7, 8, 9, 5, 10, 56, 57, 58, 59, 60, 61, 62, 63, 64, 65, 66, 67, 68] (by decide +kernel) (by decide +kernel)
set_option maxRecDepth 20000 in
theorem gX5_about_X5_isValley : GoodIn wsX5_about (wsV RX5 55 RX5 yX5_isValley wsX5_isValley) := goodIn_app (goodIn_of _ (by decide +kernel)) ggX5_about_X5_isValley
set_option maxRecDepth 20000 in
theorem ggX5_about_X5_isIn : GoodIn wsX5_about wsX5_isIn := goodIn_r _ [10] (by decide +kernel) (by decide +kernel)
set_option maxRecDepth 20000 in
theorem gX5_about_X5_isIn : GoodIn wsX5_about (va_wsS RX5 44 yX5_isIn wsX5_isIn) := goodIn_app (goodIn_of _ (by decide +kernel)) ggX5_about_X5_isIn
set_option maxRecDepth 20000 in
theorem ggX5_about_X5_valleyTold : GoodIn wsX5_about wsX5_valleyTold := goodIn_r _ [14, 15, 16, 17, 18, 19, 20, 21, 22, 5, 23, 24, 25, 26, 27, 28, 29, 30, 31, 32, 33, 34, 35, 36, 37, 38, 8, 9, 10, 39, 40, 41, 42, 43, 44, 45, 46, 47, 48, 49, 50, 51, 56, 57, 58, 59, 60, 61, 62, 63, 64, 65, 66, 67, 68] (by decide +kernel) (by decide +kernel)
set_option maxRecDepth 20000 in
theorem gX5_about_X5_valleyTold : GoodIn wsX5_about (wsV RX5 106 RX5 yX5_valleyTold wsX5_valleyTold) := goodIn_app (goodIn_of _ (by decide +kernel)) ggX5_about_X5_valleyTold
set_option maxRecDepth 20000 in
theorem ggX5_about_X5_no : GoodIn wsX5_about wsX5_no := goodIn_r _ [55, 1, 56, 57, 58, 59, 60, 61, 62, 63, 64, 65, 66, 67, 68] (by decide +kernel) (by decide +kernel)
set_option maxRecDepth 20000 in
theorem gX5_about_X5_no : GoodIn wsX5_about (wsV RX5 51 RX5 yX5_no wsX5_no) := goodIn_app (goodIn_of _ (by decide +kernel)) ggX5_about_X5_no
theorem dX5_about_0 : decode cX5_about 0 = .ok (.aload_n 0, 1) := by decide +kernel
theorem dX5_about_1 : decode cX5_about 1 = .ok (.iconst 0, 1) := by decide +kernel
theorem dX5_about_2 : decode cX5_about 2 = .ok (.putfield 37, 3) := by decide +kernel
theorem dX5_about_5 : decode cX5_about 5 = .ok (.aload_n 0, 1) := by decide +kernel
theorem dX5_about_6 : decode cX5_about 6 = .ok (.iload_n 1, 1) := by decide +kernel
theorem dX5_about_7 : decode cX5_about 7 = .ok (.invokevirtual 55, 3) := by decide +kernel
theorem dX5_about_10 : decode cX5_about 10 = .ok (.ifCond .eq 21, 3) := by decide +kernel
theorem dX5_about_13 : decode cX5_about 13 = .ok (.iload_n 2, 1) := by decide +kernel
theorem dX5_about_14 : decode cX5_about 14 = .ok (.iconst 0, 1) := by decide +kernel
theorem dX5_about_15 : decode cX5_about 15 = .ok (.iconst 5, 1) := by decide +kernel
theorem dX5_about_16 : decode cX5_about 16 = .ok (.invokestatic 44, 3) := by decide +kernel
theorem dX5_about_19 : decode cX5_about 19 = .ok (.ifCond .eq 12, 3) := by decide +kernel
theorem dX5_about_22 : decode cX5_about 22 = .ok (.aload_n 0, 1) := by decide +kernel
theorem dX5_about_23 : decode cX5_about 23 = .ok (.iload_n 1, 1) := by decide +kernel
theorem dX5_about_24 : decode cX5_about 24 = .ok (.iload_n 2, 1) := by decide +kernel
theorem dX5_about_25 : decode cX5_about 25 = .ok (.invokevirtual 106, 3) := by decide +kernel
theorem dX5_about_28 : decode cX5_about 28 = .ok (.goto 8, 3) := by decide +kernel
theorem dX5_about_31 : decode cX5_about 31 = .ok (.aload_n 0, 1) := by decide +kernel
theorem dX5_about_32 : decode cX5_about 32 = .ok (.iconst 1, 1) := by decide +kernel
theorem dX5_about_33 : decode cX5_about 33 = .ok (.invokevirtual 51, 3) := by decide +kernel
theorem dX5_about_36 : decode cX5_about 36 = .ok (.ireturn, 1) := by decide +kernel
set_option maxRecDepth 20000 in
theorem ggX5_counted_X5_blooms : GoodIn wsX5_counted wsX5_blooms := goodIn_r _ [9, 10, 11, 12, 13, 14, 15, 16, 17, 8, 18, 34, 35, 36, 37, 38, 39, 40, 41, 42, 43, 44, 45, 46] (by decide +kernel) (by decide +kernel)
set_option maxRecDepth 20000 in
theorem gX5_counted_X5_blooms : GoodIn wsX5_counted (wsV RX5 72 RX5 yX5_blooms wsX5_blooms) := goodIn_app (goodIn_of _ (by decide +kernel)) ggX5_counted_X5_blooms
set_option maxRecDepth 20000 in
theorem ggX5_counted_X5_goes : GoodIn wsX5_counted wsX5_goes := goodIn_r _ [22, 23, 24, 25, 8, 26, 27, 28, 29, 30, 31, 32, 33, 16, 17, 18, 34, 35, 36, 37, 38, 39, 40, 41, 42, 43, 44, 45, 46] (by decide +kernel) (by decide +kernel)
set_option maxRecDepth 20000 in
theorem gX5_counted_X5_goes : GoodIn wsX5_counted (wsV RX5 85 RX5 yX5_goes wsX5_goes) := goodIn_app (goodIn_of _ (by decide +kernel)) ggX5_counted_X5_goes
theorem dX5_counted_0 : decode cX5_counted 0 = .ok (.iconst 0, 1) := by decide +kernel
theorem dX5_counted_1 : decode cX5_counted 1 = .ok (.istore_n 3, 1) := by decide +kernel
theorem dX5_counted_2 : decode cX5_counted 2 = .ok (.iconst 0, 1) := by decide +kernel
theorem dX5_counted_3 : decode cX5_counted 3 = .ok (.istore 4, 2) := by decide +kernel
theorem dX5_counted_5 : decode cX5_counted 5 = .ok (.iconst 0, 1) := by decide +kernel
theorem dX5_counted_6 : decode cX5_counted 6 = .ok (.istore 5, 2) := by decide +kernel
theorem dX5_counted_8 : decode cX5_counted 8 = .ok (.iload 5, 2) := by decide +kernel
theorem dX5_counted_10 : decode cX5_counted 10 = .ok (.aload_n 0, 1) := by decide +kernel
theorem dX5_counted_11 : decode cX5_counted 11 = .ok (.getfield 41, 3) := by decide +kernel
theorem dX5_counted_14 : decode cX5_counted 14 = .ok (.if_icmp .ge 29, 3) := by decide +kernel
theorem dX5_counted_17 : decode cX5_counted 17 = .ok (.iload_n 3, 1) := by decide +kernel
theorem dX5_counted_18 : decode cX5_counted 18 = .ok (.aload_n 0, 1) := by decide +kernel
theorem dX5_counted_19 : decode cX5_counted 19 = .ok (.iload 5, 2) := by decide +kernel
theorem dX5_counted_21 : decode cX5_counted 21 = .ok (.aload_n 1, 1) := by decide +kernel
theorem dX5_counted_22 : decode cX5_counted 22 = .ok (.iconst 0, 1) := by decide +kernel
theorem dX5_counted_23 : decode cX5_counted 23 = .ok (.iaload, 1) := by decide +kernel
theorem dX5_counted_24 : decode cX5_counted 24 = .ok (.invokevirtual 72, 3) := by decide +kernel
theorem dX5_counted_27 : decode cX5_counted 27 = .ok (.ifCond .le 7, 3) := by decide +kernel
theorem dX5_counted_30 : decode cX5_counted 30 = .ok (.iconst 1, 1) := by decide +kernel
theorem dX5_counted_31 : decode cX5_counted 31 = .ok (.goto 4, 3) := by decide +kernel
theorem dX5_counted_34 : decode cX5_counted 34 = .ok (.iconst 0, 1) := by decide +kernel
theorem dX5_counted_35 : decode cX5_counted 35 = .ok (.iadd, 1) := by decide +kernel
theorem dX5_counted_36 : decode cX5_counted 36 = .ok (.istore_n 3, 1) := by decide +kernel
theorem dX5_counted_37 : decode cX5_counted 37 = .ok (.iinc 5 1, 3) := by decide +kernel
theorem dX5_counted_40 : decode cX5_counted 40 = .ok (.goto (-32), 3) := by decide +kernel
theorem dX5_counted_43 : decode cX5_counted 43 = .ok (.iconst 0, 1) := by decide +kernel
theorem dX5_counted_44 : decode cX5_counted 44 = .ok (.istore 5, 2) := by decide +kernel
theorem dX5_counted_46 : decode cX5_counted 46 = .ok (.iload 5, 2) := by decide +kernel
theorem dX5_counted_48 : decode cX5_counted 48 = .ok (.aload_n 0, 1) := by decide +kernel
theorem dX5_counted_49 : decode cX5_counted 49 = .ok (.getfield 48, 3) := by decide +kernel
theorem dX5_counted_52 : decode cX5_counted 52 = .ok (.if_icmp .ge 28, 3) := by decide +kernel
theorem dX5_counted_55 : decode cX5_counted 55 = .ok (.iload 4, 2) := by decide +kernel
theorem dX5_counted_57 : decode cX5_counted 57 = .ok (.aload_n 0, 1) := by decide +kernel
theorem dX5_counted_58 : decode cX5_counted 58 = .ok (.iload 5, 2) := by decide +kernel
theorem dX5_counted_60 : decode cX5_counted 60 = .ok (.invokevirtual 85, 3) := by decide +kernel
theorem dX5_counted_63 : decode cX5_counted 63 = .ok (.ifCond .eq 7, 3) := by decide +kernel
theorem dX5_counted_66 : decode cX5_counted 66 = .ok (.iconst 1, 1) := by decide +kernel
theorem dX5_counted_67 : decode cX5_counted 67 = .ok (.goto 4, 3) := by decide +kernel
theorem dX5_counted_70 : decode cX5_counted 70 = .ok (.iconst 0, 1) := by decide +kernel
theorem dX5_counted_71 : decode cX5_counted 71 = .ok (.iadd, 1) := by decide +kernel
theorem dX5_counted_72 : decode cX5_counted 72 = .ok (.istore 4, 2) := by decide +kernel
theorem dX5_counted_74 : decode cX5_counted 74 = .ok (.iinc 5 1, 3) := by decide +kernel
theorem dX5_counted_77 : decode cX5_counted 77 = .ok (.goto (-31), 3) := by decide +kernel
theorem dX5_counted_80 : decode cX5_counted 80 = .ok (.bipush 9, 2) := by decide +kernel
theorem dX5_counted_82 : decode cX5_counted 82 = .ok (.newarray .int, 2) := by decide +kernel
theorem dX5_counted_84 : decode cX5_counted 84 = .ok (.dup, 1) := by decide +kernel
theorem dX5_counted_85 : decode cX5_counted 85 = .ok (.iconst 0, 1) := by decide +kernel
theorem dX5_counted_86 : decode cX5_counted 86 = .ok (.aload_n 1, 1) := by decide +kernel
theorem dX5_counted_87 : decode cX5_counted 87 = .ok (.iconst 0, 1) := by decide +kernel
theorem dX5_counted_88 : decode cX5_counted 88 = .ok (.iaload, 1) := by decide +kernel
theorem dX5_counted_89 : decode cX5_counted 89 = .ok (.iastore, 1) := by decide +kernel
theorem dX5_counted_90 : decode cX5_counted 90 = .ok (.dup, 1) := by decide +kernel
theorem dX5_counted_91 : decode cX5_counted 91 = .ok (.iconst 1, 1) := by decide +kernel
theorem dX5_counted_92 : decode cX5_counted 92 = .ok (.aload_n 0, 1) := by decide +kernel
theorem dX5_counted_93 : decode cX5_counted 93 = .ok (.getfield 41, 3) := by decide +kernel
theorem dX5_counted_96 : decode cX5_counted 96 = .ok (.iastore, 1) := by decide +kernel
theorem dX5_counted_97 : decode cX5_counted 97 = .ok (.dup, 1) := by decide +kernel
theorem dX5_counted_98 : decode cX5_counted 98 = .ok (.iconst 2, 1) := by decide +kernel
theorem dX5_counted_99 : decode cX5_counted 99 = .ok (.aload_n 0, 1) := by decide +kernel
theorem dX5_counted_100 : decode cX5_counted 100 = .ok (.getfield 59, 3) := by decide +kernel
theorem dX5_counted_103 : decode cX5_counted 103 = .ok (.iastore, 1) := by decide +kernel
theorem dX5_counted_104 : decode cX5_counted 104 = .ok (.dup, 1) := by decide +kernel
theorem dX5_counted_105 : decode cX5_counted 105 = .ok (.iconst 3, 1) := by decide +kernel
theorem dX5_counted_106 : decode cX5_counted 106 = .ok (.aload_n 0, 1) := by decide +kernel
theorem dX5_counted_107 : decode cX5_counted 107 = .ok (.getfield 48, 3) := by decide +kernel
theorem dX5_counted_110 : decode cX5_counted 110 = .ok (.iastore, 1) := by decide +kernel
theorem dX5_counted_111 : decode cX5_counted 111 = .ok (.dup, 1) := by decide +kernel
theorem dX5_counted_112 : decode cX5_counted 112 = .ok (.iconst 4, 1) := by decide +kernel
theorem dX5_counted_113 : decode cX5_counted 113 = .ok (.iload 4, 2) := by decide +kernel
theorem dX5_counted_115 : decode cX5_counted 115 = .ok (.iastore, 1) := by decide +kernel
theorem dX5_counted_116 : decode cX5_counted 116 = .ok (.dup, 1) := by decide +kernel
theorem dX5_counted_117 : decode cX5_counted 117 = .ok (.iconst 5, 1) := by decide +kernel
theorem dX5_counted_118 : decode cX5_counted 118 = .ok (.iload_n 3, 1) := by decide +kernel
theorem dX5_counted_119 : decode cX5_counted 119 = .ok (.iastore, 1) := by decide +kernel
theorem dX5_counted_120 : decode cX5_counted 120 = .ok (.dup, 1) := by decide +kernel
theorem dX5_counted_121 : decode cX5_counted 121 = .ok (.bipush 6, 2) := by decide +kernel
theorem dX5_counted_123 : decode cX5_counted 123 = .ok (.aload_n 1, 1) := by decide +kernel
theorem dX5_counted_124 : decode cX5_counted 124 = .ok (.iconst 1, 1) := by decide +kernel
theorem dX5_counted_125 : decode cX5_counted 125 = .ok (.iaload, 1) := by decide +kernel
theorem dX5_counted_126 : decode cX5_counted 126 = .ok (.iastore, 1) := by decide +kernel
theorem dX5_counted_127 : decode cX5_counted 127 = .ok (.dup, 1) := by decide +kernel
theorem dX5_counted_128 : decode cX5_counted 128 = .ok (.bipush 7, 2) := by decide +kernel
theorem dX5_counted_130 : decode cX5_counted 130 = .ok (.aload_n 1, 1) := by decide +kernel
theorem dX5_counted_131 : decode cX5_counted 131 = .ok (.iconst 2, 1) := by decide +kernel
theorem dX5_counted_132 : decode cX5_counted 132 = .ok (.iaload, 1) := by decide +kernel
theorem dX5_counted_133 : decode cX5_counted 133 = .ok (.iastore, 1) := by decide +kernel
theorem dX5_counted_134 : decode cX5_counted 134 = .ok (.dup, 1) := by decide +kernel
theorem dX5_counted_135 : decode cX5_counted 135 = .ok (.bipush 8, 2) := by decide +kernel
theorem dX5_counted_137 : decode cX5_counted 137 = .ok (.aload_n 1, 1) := by decide +kernel
theorem dX5_counted_138 : decode cX5_counted 138 = .ok (.iconst 3, 1) := by decide +kernel
theorem dX5_counted_139 : decode cX5_counted 139 = .ok (.iaload, 1) := by decide +kernel
theorem dX5_counted_140 : decode cX5_counted 140 = .ok (.iastore, 1) := by decide +kernel
theorem dX5_counted_141 : decode cX5_counted 141 = .ok (.astore 5, 2) := by decide +kernel
theorem dX5_counted_143 : decode cX5_counted 143 = .ok (.aload 5, 2) := by decide +kernel
theorem dX5_counted_145 : decode cX5_counted 145 = .ok (.iload_n 2, 1) := by decide +kernel
theorem dX5_counted_146 : decode cX5_counted 146 = .ok (.iaload, 1) := by decide +kernel
theorem dX5_counted_147 : decode cX5_counted 147 = .ok (.ireturn, 1) := by decide +kernel
set_option maxRecDepth 20000 in
theorem ggX5_count_X5_isIn : GoodIn wsX5_count wsX5_isIn := goodIn_r _ [6] (by decide +kernel) (by decide +kernel)
set_option maxRecDepth 20000 in
theorem gX5_count_X5_isIn : GoodIn wsX5_count (va_wsS RX5 44 yX5_isIn wsX5_isIn) := goodIn_app (goodIn_of _ (by decide +kernel)) ggX5_count_X5_isIn
set_option maxRecDepth 20000 in
theorem ggX5_count_X5_counted : GoodIn wsX5_count wsX5_counted := goodIn_r _ [10, 11, 12, 13, 14, 15, 16, 17, 5, 18, 19, 20, 21, 22, 23, 24, 3, 4, 6, 25, 26, 27, 28, 29, 30, 31, 32, 33, 34, 35, 36, 37, 38, 39, 44, 45, 46, 47, 48, 49, 50, 51, 52, 53, 54, 55, 56] (by decide +kernel) (by decide +kernel)
set_option maxRecDepth 20000 in
theorem gX5_count_X5_counted : GoodIn wsX5_count (wsV RX5 109 RX5 yX5_counted wsX5_counted) := goodIn_app (goodIn_of _ (by decide +kernel)) ggX5_count_X5_counted
set_option maxRecDepth 20000 in
theorem ggX5_count_X5_no : GoodIn wsX5_count wsX5_no := goodIn_r _ [43, 1, 44, 45, 46, 47, 48, 49, 50, 51, 52, 53, 54, 55, 56] (by decide +kernel) (by decide +kernel)
set_option maxRecDepth 20000 in
theorem gX5_count_X5_no : GoodIn wsX5_count (wsV RX5 51 RX5 yX5_no wsX5_no) := goodIn_app (goodIn_of _ (by decide +kernel)) ggX5_count_X5_no
theorem dX5_count_0 : decode cX5_count 0 = .ok (.aload_n 0, 1) := by decide +kernel
theorem dX5_count_1 : decode cX5_count 1 = .ok (.iconst 0, 1) := by decide +kernel
theorem dX5_count_2 : decode cX5_count 2 = .ok (.putfield 37, 3) := by decide +kernel
theorem dX5_count_5 : decode cX5_count 5 = .ok (.iload_n 1, 1) := by decide +kernel
theorem dX5_count_6 : decode cX5_count 6 = .ok (.iconst 0, 1) := by decide +kernel
theorem dX5_count_7 : decode cX5_count 7 = .ok (.bipush 8, 2) := by decide +kernel
theorem dX5_count_9 : decode cX5_count 9 = .ok (.invokestatic 44, 3) := by decide +kernel
theorem dX5_count_12 : decode cX5_count 12 = .ok (.ifCond .eq 15, 3) := by decide +kernel
theorem dX5_count_15 : decode cX5_count 15 = .ok (.aload_n 0, 1) := by decide +kernel
theorem dX5_count_16 : decode cX5_count 16 = .ok (.aload_n 0, 1) := by decide +kernel
theorem dX5_count_17 : decode cX5_count 17 = .ok (.getfield 34, 3) := by decide +kernel
theorem dX5_count_20 : decode cX5_count 20 = .ok (.iload_n 1, 1) := by decide +kernel
theorem dX5_count_21 : decode cX5_count 21 = .ok (.invokevirtual 109, 3) := by decide +kernel
theorem dX5_count_24 : decode cX5_count 24 = .ok (.goto 8, 3) := by decide +kernel
theorem dX5_count_27 : decode cX5_count 27 = .ok (.aload_n 0, 1) := by decide +kernel
theorem dX5_count_28 : decode cX5_count 28 = .ok (.iconst 1, 1) := by decide +kernel
theorem dX5_count_29 : decode cX5_count 29 = .ok (.invokevirtual 51, 3) := by decide +kernel
theorem dX5_count_32 : decode cX5_count 32 = .ok (.ireturn, 1) := by decide +kernel
set_option maxRecDepth 20000 in
theorem ggX5_pass_X5_goes : GoodIn wsX5_pass wsX5_goes := goodIn_r _ [8, 9, 10, 11, 7, 12, 13, 14, 15, 16, 17, 18, 19, 20, 21, 22, 53, 54, 55, 56, 57, 58, 59, 60, 61, 62, 63, 64, 65] (by decide +kernel) (by decide +kernel)
set_option maxRecDepth 20000 in
theorem gX5_pass_X5_goes : GoodIn wsX5_pass (wsV RX5 85 RX5 yX5_goes wsX5_goes) := goodIn_app (goodIn_of _ (by decide +kernel)) ggX5_pass_X5_goes
set_option maxRecDepth 20000 in
theorem ggX5_pass_X5_joyOf : GoodIn wsX5_pass wsX5_joyOf := goodIn_r _ [26, 13, 27, 28, 29, 30, 4, 5, 6, 7, 8, 9, 10, 11, 12, 14, 15, 16, 17, 18, 19, 20, 21, 22, 31, 32, 33, 34, 35, 36, 37, 38, 39, 40, 41, 42, 43, 1, 2, 44, 45, 46, 47, 53, 54, 55, 56, 57, 58, 59, 60, 61, 62, 63, 64, 65] (by decide +kernel) (by decide +kernel)
set_option maxRecDepth 20000 in
theorem gX5_pass_X5_joyOf : GoodIn wsX5_pass (wsV RX5 97 RX5 yX5_joyOf wsX5_joyOf) := goodIn_app (goodIn_of _ (by decide +kernel)) ggX5_pass_X5_joyOf
set_option maxRecDepth 20000 in
theorem ggX5_pass_X5_stingsOf : GoodIn wsX5_pass wsX5_stingsOf := goodIn_r _ [51, 13, 2, 52, 4, 5, 6, 7, 8, 9, 10, 11, 12, 14, 15, 16, 17, 18, 19, 20, 21, 22, 31, 32, 33, 34, 35, 36, 37, 38, 29, 39, 53, 54, 55, 56, 57, 58, 59, 60, 61, 62, 63, 64, 65] (by decide +kernel) (by decide +kernel)
set_option maxRecDepth 20000 in
theorem gX5_pass_X5_stingsOf : GoodIn wsX5_pass (wsV RX5 100 RX5 yX5_stingsOf wsX5_stingsOf) := goodIn_app (goodIn_of _ (by decide +kernel)) ggX5_pass_X5_stingsOf
theorem dX5_pass_0 : decode cX5_pass 0 = .ok (.iconst 0, 1) := by decide +kernel
theorem dX5_pass_1 : decode cX5_pass 1 = .ok (.istore_n 2, 1) := by decide +kernel
theorem dX5_pass_2 : decode cX5_pass 2 = .ok (.iload_n 2, 1) := by decide +kernel
theorem dX5_pass_3 : decode cX5_pass 3 = .ok (.aload_n 0, 1) := by decide +kernel
theorem dX5_pass_4 : decode cX5_pass 4 = .ok (.getfield 48, 3) := by decide +kernel
theorem dX5_pass_7 : decode cX5_pass 7 = .ok (.if_icmp .ge 89, 3) := by decide +kernel
theorem dX5_pass_10 : decode cX5_pass 10 = .ok (.aload_n 0, 1) := by decide +kernel
theorem dX5_pass_11 : decode cX5_pass 11 = .ok (.iload_n 2, 1) := by decide +kernel
theorem dX5_pass_12 : decode cX5_pass 12 = .ok (.invokevirtual 85, 3) := by decide +kernel
theorem dX5_pass_15 : decode cX5_pass 15 = .ok (.ifCond .ne 6, 3) := by decide +kernel
theorem dX5_pass_18 : decode cX5_pass 18 = .ok (.goto 72, 3) := by decide +kernel
theorem dX5_pass_21 : decode cX5_pass 21 = .ok (.aload_n 0, 1) := by decide +kernel
theorem dX5_pass_22 : decode cX5_pass 22 = .ok (.iload_n 2, 1) := by decide +kernel
theorem dX5_pass_23 : decode cX5_pass 23 = .ok (.aload_n 1, 1) := by decide +kernel
theorem dX5_pass_24 : decode cX5_pass 24 = .ok (.iconst 0, 1) := by decide +kernel
theorem dX5_pass_25 : decode cX5_pass 25 = .ok (.iaload, 1) := by decide +kernel
theorem dX5_pass_26 : decode cX5_pass 26 = .ok (.invokevirtual 97, 3) := by decide +kernel
theorem dX5_pass_29 : decode cX5_pass 29 = .ok (.istore_n 3, 1) := by decide +kernel
theorem dX5_pass_30 : decode cX5_pass 30 = .ok (.aload_n 1, 1) := by decide +kernel
theorem dX5_pass_31 : decode cX5_pass 31 = .ok (.iconst 1, 1) := by decide +kernel
theorem dX5_pass_32 : decode cX5_pass 32 = .ok (.dup2, 1) := by decide +kernel
theorem dX5_pass_33 : decode cX5_pass 33 = .ok (.iaload, 1) := by decide +kernel
theorem dX5_pass_34 : decode cX5_pass 34 = .ok (.iload_n 3, 1) := by decide +kernel
theorem dX5_pass_35 : decode cX5_pass 35 = .ok (.aload_n 0, 1) := by decide +kernel
theorem dX5_pass_36 : decode cX5_pass 36 = .ok (.getfield 25, 3) := by decide +kernel
theorem dX5_pass_39 : decode cX5_pass 39 = .ok (.iload_n 2, 1) := by decide +kernel
theorem dX5_pass_40 : decode cX5_pass 40 = .ok (.iaload, 1) := by decide +kernel
theorem dX5_pass_41 : decode cX5_pass 41 = .ok (.imul, 1) := by decide +kernel
theorem dX5_pass_42 : decode cX5_pass 42 = .ok (.bipush 100, 2) := by decide +kernel
theorem dX5_pass_44 : decode cX5_pass 44 = .ok (.idiv, 1) := by decide +kernel
theorem dX5_pass_45 : decode cX5_pass 45 = .ok (.aload_n 0, 1) := by decide +kernel
theorem dX5_pass_46 : decode cX5_pass 46 = .ok (.getfield 25, 3) := by decide +kernel
theorem dX5_pass_49 : decode cX5_pass 49 = .ok (.iload_n 2, 1) := by decide +kernel
theorem dX5_pass_50 : decode cX5_pass 50 = .ok (.iaload, 1) := by decide +kernel
theorem dX5_pass_51 : decode cX5_pass 51 = .ok (.aload_n 0, 1) := by decide +kernel
theorem dX5_pass_52 : decode cX5_pass 52 = .ok (.getfield 22, 3) := by decide +kernel
theorem dX5_pass_55 : decode cX5_pass 55 = .ok (.aload_n 1, 1) := by decide +kernel
theorem dX5_pass_56 : decode cX5_pass 56 = .ok (.iconst 0, 1) := by decide +kernel
theorem dX5_pass_57 : decode cX5_pass 57 = .ok (.iaload, 1) := by decide +kernel
theorem dX5_pass_58 : decode cX5_pass 58 = .ok (.bipush 10, 2) := by decide +kernel
theorem dX5_pass_60 : decode cX5_pass 60 = .ok (.irem, 1) := by decide +kernel
theorem dX5_pass_61 : decode cX5_pass 61 = .ok (.iaload, 1) := by decide +kernel
theorem dX5_pass_62 : decode cX5_pass 62 = .ok (.imul, 1) := by decide +kernel
theorem dX5_pass_63 : decode cX5_pass 63 = .ok (.bipush 40, 2) := by decide +kernel
theorem dX5_pass_65 : decode cX5_pass 65 = .ok (.idiv, 1) := by decide +kernel
theorem dX5_pass_66 : decode cX5_pass 66 = .ok (.iadd, 1) := by decide +kernel
theorem dX5_pass_67 : decode cX5_pass 67 = .ok (.iadd, 1) := by decide +kernel
theorem dX5_pass_68 : decode cX5_pass 68 = .ok (.iastore, 1) := by decide +kernel
theorem dX5_pass_69 : decode cX5_pass 69 = .ok (.aload_n 1, 1) := by decide +kernel
theorem dX5_pass_70 : decode cX5_pass 70 = .ok (.iconst 2, 1) := by decide +kernel
theorem dX5_pass_71 : decode cX5_pass 71 = .ok (.dup2, 1) := by decide +kernel
theorem dX5_pass_72 : decode cX5_pass 72 = .ok (.iaload, 1) := by decide +kernel
theorem dX5_pass_73 : decode cX5_pass 73 = .ok (.iload_n 3, 1) := by decide +kernel
theorem dX5_pass_74 : decode cX5_pass 74 = .ok (.iadd, 1) := by decide +kernel
theorem dX5_pass_75 : decode cX5_pass 75 = .ok (.iastore, 1) := by decide +kernel
theorem dX5_pass_76 : decode cX5_pass 76 = .ok (.aload_n 1, 1) := by decide +kernel
theorem dX5_pass_77 : decode cX5_pass 77 = .ok (.iconst 3, 1) := by decide +kernel
theorem dX5_pass_78 : decode cX5_pass 78 = .ok (.dup2, 1) := by decide +kernel
theorem dX5_pass_79 : decode cX5_pass 79 = .ok (.iaload, 1) := by decide +kernel
theorem dX5_pass_80 : decode cX5_pass 80 = .ok (.aload_n 0, 1) := by decide +kernel
theorem dX5_pass_81 : decode cX5_pass 81 = .ok (.iload_n 2, 1) := by decide +kernel
theorem dX5_pass_82 : decode cX5_pass 82 = .ok (.aload_n 1, 1) := by decide +kernel
theorem dX5_pass_83 : decode cX5_pass 83 = .ok (.iconst 0, 1) := by decide +kernel
theorem dX5_pass_84 : decode cX5_pass 84 = .ok (.iaload, 1) := by decide +kernel
theorem dX5_pass_85 : decode cX5_pass 85 = .ok (.invokevirtual 100, 3) := by decide +kernel
theorem dX5_pass_88 : decode cX5_pass 88 = .ok (.iadd, 1) := by decide +kernel
theorem dX5_pass_89 : decode cX5_pass 89 = .ok (.iastore, 1) := by decide +kernel
theorem dX5_pass_90 : decode cX5_pass 90 = .ok (.iinc 2 1, 3) := by decide +kernel
theorem dX5_pass_93 : decode cX5_pass 93 = .ok (.goto (-91), 3) := by decide +kernel
theorem dX5_pass_96 : decode cX5_pass 96 = .ok (.aload_n 1, 1) := by decide +kernel
theorem dX5_pass_97 : decode cX5_pass 97 = .ok (.iconst 0, 1) := by decide +kernel
theorem dX5_pass_98 : decode cX5_pass 98 = .ok (.dup2, 1) := by decide +kernel
theorem dX5_pass_99 : decode cX5_pass 99 = .ok (.iaload, 1) := by decide +kernel
theorem dX5_pass_100 : decode cX5_pass 100 = .ok (.iconst 1, 1) := by decide +kernel
theorem dX5_pass_101 : decode cX5_pass 101 = .ok (.iadd, 1) := by decide +kernel
theorem dX5_pass_102 : decode cX5_pass 102 = .ok (.iastore, 1) := by decide +kernel
theorem dX5_pass_103 : decode cX5_pass 103 = .ok (.return_, 1) := by decide +kernel
set_option maxRecDepth 20000 in
theorem ggX5_pass__X5_isIn : GoodIn wsX5_pass_ wsX5_isIn := goodIn_r _ [6] (by decide +kernel) (by decide +kernel)
set_option maxRecDepth 20000 in
theorem gX5_pass__X5_isIn : GoodIn wsX5_pass_ (va_wsS RX5 44 yX5_isIn wsX5_isIn) := goodIn_app (goodIn_of _ (by decide +kernel)) ggX5_pass__X5_isIn
set_option maxRecDepth 20000 in
theorem ggX5_pass__X5_no : GoodIn wsX5_pass_ wsX5_no := goodIn_r _ [10, 1, 63, 64, 65, 66, 67, 68, 69, 70, 71, 72, 73, 74, 75] (by decide +kernel) (by decide +kernel)
set_option maxRecDepth 20000 in
theorem gX5_pass__X5_no : GoodIn wsX5_pass_ (wsV RX5 51 RX5 yX5_no wsX5_no) := goodIn_app (goodIn_of _ (by decide +kernel)) ggX5_pass__X5_no
set_option maxRecDepth 20000 in
theorem ggX5_pass__X5_pass : GoodIn wsX5_pass_ wsX5_pass := goodIn_r _ [14, 15, 16, 17, 18, 19, 20, 5, 21, 22, 23, 24, 25, 26, 27, 28, 29, 30, 31, 32, 3, 4, 6, 33, 34, 35, 36, 37, 38, 39, 40, 41, 42, 43, 44, 45, 46, 47, 48, 49, 50, 51, 52, 53, 54, 55, 56, 57, 58, 59, 60, 61, 62, 63, 64, 65, 66, 67, 68, 69, 70, 71, 72, 73, 74, 75] (by decide +kernel) (by decide +kernel)
set_option maxRecDepth 20000 in
theorem gX5_pass__X5_pass : GoodIn wsX5_pass_ (wsV RX5 113 RX5 yX5_pass wsX5_pass) := goodIn_app (goodIn_of _ (by decide +kernel)) ggX5_pass__X5_pass
theorem dX5_pass__0 : decode cX5_pass_ 0 = .ok (.aload_n 0, 1) := by decide +kernel
theorem dX5_pass__1 : decode cX5_pass_ 1 = .ok (.iconst 0, 1) := by decide +kernel
theorem dX5_pass__2 : decode cX5_pass_ 2 = .ok (.putfield 37, 3) := by decide +kernel
theorem dX5_pass__5 : decode cX5_pass_ 5 = .ok (.iload_n 1, 1) := by decide +kernel
theorem dX5_pass__6 : decode cX5_pass_ 6 = .ok (.iconst 1, 1) := by decide +kernel
theorem dX5_pass__7 : decode cX5_pass_ 7 = .ok (.bipush 60, 2) := by decide +kernel
theorem dX5_pass__9 : decode cX5_pass_ 9 = .ok (.invokestatic 44, 3) := by decide +kernel
theorem dX5_pass__12 : decode cX5_pass_ 12 = .ok (.ifCond .ne 9, 3) := by decide +kernel
theorem dX5_pass__15 : decode cX5_pass_ 15 = .ok (.aload_n 0, 1) := by decide +kernel
theorem dX5_pass__16 : decode cX5_pass_ 16 = .ok (.iconst 1, 1) := by decide +kernel
theorem dX5_pass__17 : decode cX5_pass_ 17 = .ok (.invokevirtual 51, 3) := by decide +kernel
theorem dX5_pass__20 : decode cX5_pass_ 20 = .ok (.ireturn, 1) := by decide +kernel
theorem dX5_pass__21 : decode cX5_pass_ 21 = .ok (.aload_n 0, 1) := by decide +kernel
theorem dX5_pass__22 : decode cX5_pass_ 22 = .ok (.getfield 34, 3) := by decide +kernel
theorem dX5_pass__25 : decode cX5_pass_ 25 = .ok (.iconst 1, 1) := by decide +kernel
theorem dX5_pass__26 : decode cX5_pass_ 26 = .ok (.iaload, 1) := by decide +kernel
theorem dX5_pass__27 : decode cX5_pass_ 27 = .ok (.istore_n 2, 1) := by decide +kernel
theorem dX5_pass__28 : decode cX5_pass_ 28 = .ok (.iconst 0, 1) := by decide +kernel
theorem dX5_pass__29 : decode cX5_pass_ 29 = .ok (.istore_n 3, 1) := by decide +kernel
theorem dX5_pass__30 : decode cX5_pass_ 30 = .ok (.iload_n 3, 1) := by decide +kernel
theorem dX5_pass__31 : decode cX5_pass_ 31 = .ok (.iload_n 1, 1) := by decide +kernel
theorem dX5_pass__32 : decode cX5_pass_ 32 = .ok (.if_icmp .ge 17, 3) := by decide +kernel
theorem dX5_pass__35 : decode cX5_pass_ 35 = .ok (.aload_n 0, 1) := by decide +kernel
theorem dX5_pass__36 : decode cX5_pass_ 36 = .ok (.aload_n 0, 1) := by decide +kernel
theorem dX5_pass__37 : decode cX5_pass_ 37 = .ok (.getfield 34, 3) := by decide +kernel
theorem dX5_pass__40 : decode cX5_pass_ 40 = .ok (.invokevirtual 113, 3) := by decide +kernel
theorem dX5_pass__43 : decode cX5_pass_ 43 = .ok (.iinc 3 1, 3) := by decide +kernel
theorem dX5_pass__46 : decode cX5_pass_ 46 = .ok (.goto (-16), 3) := by decide +kernel
theorem dX5_pass__49 : decode cX5_pass_ 49 = .ok (.aload_n 0, 1) := by decide +kernel
theorem dX5_pass__50 : decode cX5_pass_ 50 = .ok (.getfield 34, 3) := by decide +kernel
theorem dX5_pass__53 : decode cX5_pass_ 53 = .ok (.iconst 1, 1) := by decide +kernel
theorem dX5_pass__54 : decode cX5_pass_ 54 = .ok (.iaload, 1) := by decide +kernel
theorem dX5_pass__55 : decode cX5_pass_ 55 = .ok (.iload_n 2, 1) := by decide +kernel
theorem dX5_pass__56 : decode cX5_pass_ 56 = .ok (.isub, 1) := by decide +kernel
theorem dX5_pass__57 : decode cX5_pass_ 57 = .ok (.ireturn, 1) := by decide +kernel
set_option maxRecDepth 20000 in
theorem ggX5_joy_X5_isTour : GoodIn wsX5_joy wsX5_isTour := goodIn_r _ [6, 7, 8, 9, 5, 10, 56, 57, 58, 59, 60, 61, 62, 63, 64, 65, 66, 67, 68] (by decide +kernel) (by decide +kernel)
set_option maxRecDepth 20000 in
theorem gX5_joy_X5_isTour : GoodIn wsX5_joy (wsV RX5 94 RX5 yX5_isTour wsX5_isTour) := goodIn_app (goodIn_of _ (by decide +kernel)) ggX5_joy_X5_isTour
set_option maxRecDepth 20000 in
theorem ggX5_joy_X5_no : GoodIn wsX5_joy wsX5_no := goodIn_r _ [14, 1, 56, 57, 58, 59, 60, 61, 62, 63, 64, 65, 66, 67, 68] (by decide +kernel) (by decide +kernel)
set_option maxRecDepth 20000 in
theorem gX5_joy_X5_no : GoodIn wsX5_joy (wsV RX5 51 RX5 yX5_no wsX5_no) := goodIn_app (goodIn_of _ (by decide +kernel)) ggX5_joy_X5_no
set_option maxRecDepth 20000 in
theorem ggX5_joy_X5_joyOf : GoodIn wsX5_joy wsX5_joyOf := goodIn_r _ [18, 19, 20, 21, 22, 23, 24, 25, 26, 5, 27, 28, 29, 30, 31, 32, 33, 34, 35, 36, 37, 8, 9, 10, 38, 39, 40, 41, 42, 43, 44, 45, 46, 47, 48, 49, 50, 7, 51, 52, 53, 54, 55, 56, 57, 58, 59, 60, 61, 62, 63, 64, 65, 66, 67, 68] (by decide +kernel) (by decide +kernel)
set_option maxRecDepth 20000 in
theorem gX5_joy_X5_joyOf : GoodIn wsX5_joy (wsV RX5 97 RX5 yX5_joyOf wsX5_joyOf) := goodIn_app (goodIn_of _ (by decide +kernel)) ggX5_joy_X5_joyOf
theorem dX5_joy_0 : decode cX5_joy 0 = .ok (.aload_n 0, 1) := by decide +kernel
theorem dX5_joy_1 : decode cX5_joy 1 = .ok (.iconst 0, 1) := by decide +kernel
theorem dX5_joy_2 : decode cX5_joy 2 = .ok (.putfield 37, 3) := by decide +kernel
theorem dX5_joy_5 : decode cX5_joy 5 = .ok (.aload_n 0, 1) := by decide +kernel
theorem dX5_joy_6 : decode cX5_joy 6 = .ok (.iload_n 1, 1) := by decide +kernel
theorem dX5_joy_7 : decode cX5_joy 7 = .ok (.invokevirtual 94, 3) := by decide +kernel
theorem dX5_joy_10 : decode cX5_joy 10 = .ok (.ifCond .ne 9, 3) := by decide +kernel
theorem dX5_joy_13 : decode cX5_joy 13 = .ok (.aload_n 0, 1) := by decide +kernel
theorem dX5_joy_14 : decode cX5_joy 14 = .ok (.iconst 1, 1) := by decide +kernel
theorem dX5_joy_15 : decode cX5_joy 15 = .ok (.invokevirtual 51, 3) := by decide +kernel
theorem dX5_joy_18 : decode cX5_joy 18 = .ok (.ireturn, 1) := by decide +kernel
theorem dX5_joy_19 : decode cX5_joy 19 = .ok (.iload_n 2, 1) := by decide +kernel
theorem dX5_joy_20 : decode cX5_joy 20 = .ok (.ifCond .ge 11, 3) := by decide +kernel
theorem dX5_joy_23 : decode cX5_joy 23 = .ok (.aload_n 0, 1) := by decide +kernel
theorem dX5_joy_24 : decode cX5_joy 24 = .ok (.iconst 2, 1) := by decide +kernel
theorem dX5_joy_25 : decode cX5_joy 25 = .ok (.invokevirtual 51, 3) := by decide +kernel
theorem dX5_joy_28 : decode cX5_joy 28 = .ok (.goto 9, 3) := by decide +kernel
theorem dX5_joy_31 : decode cX5_joy 31 = .ok (.aload_n 0, 1) := by decide +kernel
theorem dX5_joy_32 : decode cX5_joy 32 = .ok (.iload_n 1, 1) := by decide +kernel
theorem dX5_joy_33 : decode cX5_joy 33 = .ok (.iload_n 2, 1) := by decide +kernel
theorem dX5_joy_34 : decode cX5_joy 34 = .ok (.invokevirtual 97, 3) := by decide +kernel
theorem dX5_joy_37 : decode cX5_joy 37 = .ok (.ireturn, 1) := by decide +kernel
set_option maxRecDepth 20000 in
theorem ggX5_best_X5_isTour : GoodIn wsX5_best wsX5_isTour := goodIn_r _ [7, 8, 9, 10, 6, 11, 57, 58, 59, 60, 61, 62, 63, 64, 65, 66, 67, 68, 69] (by decide +kernel) (by decide +kernel)
set_option maxRecDepth 20000 in
theorem gX5_best_X5_isTour : GoodIn wsX5_best (wsV RX5 94 RX5 yX5_isTour wsX5_isTour) := goodIn_app (goodIn_of _ (by decide +kernel)) ggX5_best_X5_isTour
set_option maxRecDepth 20000 in
theorem ggX5_best_X5_no : GoodIn wsX5_best wsX5_no := goodIn_r _ [15, 1, 57, 58, 59, 60, 61, 62, 63, 64, 65, 66, 67, 68, 69] (by decide +kernel) (by decide +kernel)
set_option maxRecDepth 20000 in
theorem gX5_best_X5_no : GoodIn wsX5_best (wsV RX5 51 RX5 yX5_no wsX5_no) := goodIn_app (goodIn_of _ (by decide +kernel)) ggX5_best_X5_no
set_option maxRecDepth 20000 in
theorem ggX5_best_X5_joyOf : GoodIn wsX5_best wsX5_joyOf := goodIn_r _ [19, 20, 21, 22, 23, 24, 25, 26, 27, 6, 28, 29, 30, 31, 32, 33, 34, 35, 36, 37, 38, 9, 10, 11, 39, 40, 41, 42, 43, 44, 45, 46, 47, 48, 49, 50, 51, 8, 52, 53, 54, 55, 56, 57, 58, 59, 60, 61, 62, 63, 64, 65, 66, 67, 68, 69] (by decide +kernel) (by decide +kernel)
set_option maxRecDepth 20000 in
theorem gX5_best_X5_joyOf : GoodIn wsX5_best (wsV RX5 97 RX5 yX5_joyOf wsX5_joyOf) := goodIn_app (goodIn_of _ (by decide +kernel)) ggX5_best_X5_joyOf
theorem dX5_best_0 : decode cX5_best 0 = .ok (.aload_n 0, 1) := by decide +kernel
theorem dX5_best_1 : decode cX5_best 1 = .ok (.iconst 0, 1) := by decide +kernel
theorem dX5_best_2 : decode cX5_best 2 = .ok (.putfield 37, 3) := by decide +kernel
theorem dX5_best_5 : decode cX5_best 5 = .ok (.aload_n 0, 1) := by decide +kernel
theorem dX5_best_6 : decode cX5_best 6 = .ok (.iload_n 1, 1) := by decide +kernel
theorem dX5_best_7 : decode cX5_best 7 = .ok (.invokevirtual 94, 3) := by decide +kernel
theorem dX5_best_10 : decode cX5_best 10 = .ok (.ifCond .ne 9, 3) := by decide +kernel
theorem dX5_best_13 : decode cX5_best 13 = .ok (.aload_n 0, 1) := by decide +kernel
theorem dX5_best_14 : decode cX5_best 14 = .ok (.iconst 1, 1) := by decide +kernel
theorem dX5_best_15 : decode cX5_best 15 = .ok (.invokevirtual 51, 3) := by decide +kernel
theorem dX5_best_18 : decode cX5_best 18 = .ok (.ireturn, 1) := by decide +kernel
theorem dX5_best_19 : decode cX5_best 19 = .ok (.iconst (-1), 1) := by decide +kernel
theorem dX5_best_20 : decode cX5_best 20 = .ok (.istore_n 2, 1) := by decide +kernel
theorem dX5_best_21 : decode cX5_best 21 = .ok (.iconst 0, 1) := by decide +kernel
theorem dX5_best_22 : decode cX5_best 22 = .ok (.istore_n 3, 1) := by decide +kernel
theorem dX5_best_23 : decode cX5_best 23 = .ok (.aload_n 0, 1) := by decide +kernel
theorem dX5_best_24 : decode cX5_best 24 = .ok (.getfield 34, 3) := by decide +kernel
theorem dX5_best_27 : decode cX5_best 27 = .ok (.iconst 0, 1) := by decide +kernel
theorem dX5_best_28 : decode cX5_best 28 = .ok (.iaload, 1) := by decide +kernel
theorem dX5_best_29 : decode cX5_best 29 = .ok (.istore 4, 2) := by decide +kernel
theorem dX5_best_31 : decode cX5_best 31 = .ok (.iload 4, 2) := by decide +kernel
theorem dX5_best_33 : decode cX5_best 33 = .ok (.aload_n 0, 1) := by decide +kernel
theorem dX5_best_34 : decode cX5_best 34 = .ok (.getfield 34, 3) := by decide +kernel
theorem dX5_best_37 : decode cX5_best 37 = .ok (.iconst 0, 1) := by decide +kernel
theorem dX5_best_38 : decode cX5_best 38 = .ok (.iaload, 1) := by decide +kernel
theorem dX5_best_39 : decode cX5_best 39 = .ok (.bipush 120, 2) := by decide +kernel
theorem dX5_best_41 : decode cX5_best 41 = .ok (.iadd, 1) := by decide +kernel
theorem dX5_best_42 : decode cX5_best 42 = .ok (.if_icmp .ge 33, 3) := by decide +kernel
theorem dX5_best_45 : decode cX5_best 45 = .ok (.aload_n 0, 1) := by decide +kernel
theorem dX5_best_46 : decode cX5_best 46 = .ok (.iload_n 1, 1) := by decide +kernel
theorem dX5_best_47 : decode cX5_best 47 = .ok (.iload 4, 2) := by decide +kernel
theorem dX5_best_49 : decode cX5_best 49 = .ok (.invokevirtual 97, 3) := by decide +kernel
theorem dX5_best_52 : decode cX5_best 52 = .ok (.istore 5, 2) := by decide +kernel
theorem dX5_best_54 : decode cX5_best 54 = .ok (.iload 5, 2) := by decide +kernel
theorem dX5_best_56 : decode cX5_best 56 = .ok (.iload_n 3, 1) := by decide +kernel
theorem dX5_best_57 : decode cX5_best 57 = .ok (.if_icmp .gt 6, 3) := by decide +kernel
theorem dX5_best_60 : decode cX5_best 60 = .ok (.goto 9, 3) := by decide +kernel
theorem dX5_best_63 : decode cX5_best 63 = .ok (.iload 5, 2) := by decide +kernel
theorem dX5_best_65 : decode cX5_best 65 = .ok (.istore_n 3, 1) := by decide +kernel
theorem dX5_best_66 : decode cX5_best 66 = .ok (.iload 4, 2) := by decide +kernel
theorem dX5_best_68 : decode cX5_best 68 = .ok (.istore_n 2, 1) := by decide +kernel
end
section
theorem dX5_best_69 : decode cX5_best 69 = .ok (.iinc 4 1, 3) := by decide +kernel
theorem dX5_best_72 : decode cX5_best 72 = .ok (.goto (-41), 3) := by decide +kernel
theorem dX5_best_75 : decode cX5_best 75 = .ok (.iload_n 2, 1) := by decide +kernel
theorem dX5_best_76 : decode cX5_best 76 = .ok (.ireturn, 1) := by decide +kernel
set_option maxRecDepth 20000 in
theorem ggX5_advise_X5_isTour : GoodIn wsX5_advise wsX5_isTour := goodIn_r _ [10, 11, 12, 13, 9, 14, 58, 59, 60, 61, 62, 63, 64, 65, 66, 67, 68, 69, 70] (by decide +kernel) (by decide +kernel)
set_option maxRecDepth 20000 in
theorem gX5_advise_X5_isTour : GoodIn wsX5_advise (wsV RX5 94 RX5 yX5_isTour wsX5_isTour) := goodIn_app (goodIn_of _ (by decide +kernel)) ggX5_advise_X5_isTour
set_option maxRecDepth 20000 in
theorem ggX5_advise_X5_no : GoodIn wsX5_advise wsX5_no := goodIn_r _ [18, 1, 58, 59, 60, 61, 62, 63, 64, 65, 66, 67, 68, 69, 70] (by decide +kernel) (by decide +kernel)
set_option maxRecDepth 20000 in
theorem gX5_advise_X5_no : GoodIn wsX5_advise (wsV RX5 51 RX5 yX5_no wsX5_no) := goodIn_app (goodIn_of _ (by decide +kernel)) ggX5_advise_X5_no
set_option maxRecDepth 20000 in
theorem ggX5_advise_X5_joyOf : GoodIn wsX5_advise wsX5_joyOf := goodIn_r _ [22, 2, 23, 24, 25, 26, 27, 28, 29, 9, 30, 31, 32, 33, 34, 35, 36, 37, 38, 39, 5, 12, 13, 14, 40, 41, 42, 43, 44, 45, 46, 47, 48, 49, 50, 51, 52, 11, 53, 54, 55, 56, 57, 58, 59, 60, 61, 62, 63, 64, 65, 66, 67, 68, 69, 70] (by decide +kernel) (by decide +kernel)
set_option maxRecDepth 20000 in
theorem gX5_advise_X5_joyOf : GoodIn wsX5_advise (wsV RX5 97 RX5 yX5_joyOf wsX5_joyOf) := goodIn_app (goodIn_of _ (by decide +kernel)) ggX5_advise_X5_joyOf
set_option maxRecDepth 20000 in
theorem ggX5_advise_X5_has : GoodIn wsX5_advise wsX5_has := goodIn_r _ [57, 2, 36, 37, 38, 9, 39, 5, 58, 59, 60, 61, 62, 63, 64, 65, 66, 67, 68, 69, 70] (by decide +kernel) (by decide +kernel)
set_option maxRecDepth 20000 in
theorem gX5_advise_X5_has : GoodIn wsX5_advise (wsV RX5 81 RX5 yX5_has wsX5_has) := goodIn_app (goodIn_of _ (by decide +kernel)) ggX5_advise_X5_has
theorem dX5_advise_0 : decode cX5_advise 0 = .ok (.aload_n 0, 1) := by decide +kernel
theorem dX5_advise_1 : decode cX5_advise 1 = .ok (.iconst 0, 1) := by decide +kernel
theorem dX5_advise_2 : decode cX5_advise 2 = .ok (.putfield 37, 3) := by decide +kernel
theorem dX5_advise_5 : decode cX5_advise 5 = .ok (.aload_n 0, 1) := by decide +kernel
theorem dX5_advise_6 : decode cX5_advise 6 = .ok (.iload_n 1, 1) := by decide +kernel
theorem dX5_advise_7 : decode cX5_advise 7 = .ok (.invokevirtual 94, 3) := by decide +kernel
theorem dX5_advise_10 : decode cX5_advise 10 = .ok (.ifCond .ne 9, 3) := by decide +kernel
theorem dX5_advise_13 : decode cX5_advise 13 = .ok (.aload_n 0, 1) := by decide +kernel
theorem dX5_advise_14 : decode cX5_advise 14 = .ok (.iconst 1, 1) := by decide +kernel
theorem dX5_advise_15 : decode cX5_advise 15 = .ok (.invokevirtual 51, 3) := by decide +kernel
theorem dX5_advise_18 : decode cX5_advise 18 = .ok (.ireturn, 1) := by decide +kernel
theorem dX5_advise_19 : decode cX5_advise 19 = .ok (.aload_n 0, 1) := by decide +kernel
theorem dX5_advise_20 : decode cX5_advise 20 = .ok (.getfield 28, 3) := by decide +kernel
theorem dX5_advise_23 : decode cX5_advise 23 = .ok (.iload_n 1, 1) := by decide +kernel
theorem dX5_advise_24 : decode cX5_advise 24 = .ok (.iaload, 1) := by decide +kernel
theorem dX5_advise_25 : decode cX5_advise 25 = .ok (.iconst 5, 1) := by decide +kernel
theorem dX5_advise_26 : decode cX5_advise 26 = .ok (.if_icmp .ne 5, 3) := by decide +kernel
theorem dX5_advise_29 : decode cX5_advise 29 = .ok (.iconst (-1), 1) := by decide +kernel
theorem dX5_advise_30 : decode cX5_advise 30 = .ok (.ireturn, 1) := by decide +kernel
theorem dX5_advise_31 : decode cX5_advise 31 = .ok (.iconst (-1), 1) := by decide +kernel
theorem dX5_advise_32 : decode cX5_advise 32 = .ok (.istore_n 2, 1) := by decide +kernel
theorem dX5_advise_33 : decode cX5_advise 33 = .ok (.aload_n 0, 1) := by decide +kernel
theorem dX5_advise_34 : decode cX5_advise 34 = .ok (.iload_n 1, 1) := by decide +kernel
theorem dX5_advise_35 : decode cX5_advise 35 = .ok (.aload_n 0, 1) := by decide +kernel
theorem dX5_advise_36 : decode cX5_advise 36 = .ok (.getfield 34, 3) := by decide +kernel
theorem dX5_advise_39 : decode cX5_advise 39 = .ok (.iconst 0, 1) := by decide +kernel
theorem dX5_advise_40 : decode cX5_advise 40 = .ok (.iaload, 1) := by decide +kernel
theorem dX5_advise_41 : decode cX5_advise 41 = .ok (.invokevirtual 97, 3) := by decide +kernel
theorem dX5_advise_44 : decode cX5_advise 44 = .ok (.istore_n 3, 1) := by decide +kernel
theorem dX5_advise_45 : decode cX5_advise 45 = .ok (.iconst 0, 1) := by decide +kernel
theorem dX5_advise_46 : decode cX5_advise 46 = .ok (.istore 4, 2) := by decide +kernel
theorem dX5_advise_48 : decode cX5_advise 48 = .ok (.iload 4, 2) := by decide +kernel
theorem dX5_advise_50 : decode cX5_advise 50 = .ok (.aload_n 0, 1) := by decide +kernel
theorem dX5_advise_51 : decode cX5_advise 51 = .ok (.getfield 41, 3) := by decide +kernel
theorem dX5_advise_54 : decode cX5_advise 54 = .ok (.if_icmp .ge 87, 3) := by decide +kernel
theorem dX5_advise_57 : decode cX5_advise 57 = .ok (.aload_n 0, 1) := by decide +kernel
theorem dX5_advise_58 : decode cX5_advise 58 = .ok (.iload_n 1, 1) := by decide +kernel
theorem dX5_advise_59 : decode cX5_advise 59 = .ok (.iload 4, 2) := by decide +kernel
theorem dX5_advise_61 : decode cX5_advise 61 = .ok (.invokevirtual 81, 3) := by decide +kernel
theorem dX5_advise_64 : decode cX5_advise 64 = .ok (.ifCond .eq 6, 3) := by decide +kernel
theorem dX5_advise_67 : decode cX5_advise 67 = .ok (.goto 68, 3) := by decide +kernel
theorem dX5_advise_70 : decode cX5_advise 70 = .ok (.aload_n 0, 1) := by decide +kernel
theorem dX5_advise_71 : decode cX5_advise 71 = .ok (.getfield 31, 3) := by decide +kernel
theorem dX5_advise_74 : decode cX5_advise 74 = .ok (.iconst 5, 1) := by decide +kernel
theorem dX5_advise_75 : decode cX5_advise 75 = .ok (.iload_n 1, 1) := by decide +kernel
theorem dX5_advise_76 : decode cX5_advise 76 = .ok (.imul, 1) := by decide +kernel
theorem dX5_advise_77 : decode cX5_advise 77 = .ok (.aload_n 0, 1) := by decide +kernel
theorem dX5_advise_78 : decode cX5_advise 78 = .ok (.getfield 28, 3) := by decide +kernel
theorem dX5_advise_81 : decode cX5_advise 81 = .ok (.iload_n 1, 1) := by decide +kernel
theorem dX5_advise_82 : decode cX5_advise 82 = .ok (.iaload, 1) := by decide +kernel
theorem dX5_advise_83 : decode cX5_advise 83 = .ok (.iadd, 1) := by decide +kernel
theorem dX5_advise_84 : decode cX5_advise 84 = .ok (.iload 4, 2) := by decide +kernel
theorem dX5_advise_86 : decode cX5_advise 86 = .ok (.iastore, 1) := by decide +kernel
theorem dX5_advise_87 : decode cX5_advise 87 = .ok (.aload_n 0, 1) := by decide +kernel
theorem dX5_advise_88 : decode cX5_advise 88 = .ok (.getfield 28, 3) := by decide +kernel
theorem dX5_advise_91 : decode cX5_advise 91 = .ok (.iload_n 1, 1) := by decide +kernel
theorem dX5_advise_92 : decode cX5_advise 92 = .ok (.dup2, 1) := by decide +kernel
theorem dX5_advise_93 : decode cX5_advise 93 = .ok (.iaload, 1) := by decide +kernel
theorem dX5_advise_94 : decode cX5_advise 94 = .ok (.iconst 1, 1) := by decide +kernel
theorem dX5_advise_95 : decode cX5_advise 95 = .ok (.iadd, 1) := by decide +kernel
theorem dX5_advise_96 : decode cX5_advise 96 = .ok (.iastore, 1) := by decide +kernel
theorem dX5_advise_97 : decode cX5_advise 97 = .ok (.aload_n 0, 1) := by decide +kernel
theorem dX5_advise_98 : decode cX5_advise 98 = .ok (.iload_n 1, 1) := by decide +kernel
theorem dX5_advise_99 : decode cX5_advise 99 = .ok (.aload_n 0, 1) := by decide +kernel
theorem dX5_advise_100 : decode cX5_advise 100 = .ok (.getfield 34, 3) := by decide +kernel
theorem dX5_advise_103 : decode cX5_advise 103 = .ok (.iconst 0, 1) := by decide +kernel
theorem dX5_advise_104 : decode cX5_advise 104 = .ok (.iaload, 1) := by decide +kernel
theorem dX5_advise_105 : decode cX5_advise 105 = .ok (.invokevirtual 97, 3) := by decide +kernel
theorem dX5_advise_108 : decode cX5_advise 108 = .ok (.istore 5, 2) := by decide +kernel
theorem dX5_advise_110 : decode cX5_advise 110 = .ok (.aload_n 0, 1) := by decide +kernel
theorem dX5_advise_111 : decode cX5_advise 111 = .ok (.getfield 28, 3) := by decide +kernel
theorem dX5_advise_114 : decode cX5_advise 114 = .ok (.iload_n 1, 1) := by decide +kernel
theorem dX5_advise_115 : decode cX5_advise 115 = .ok (.dup2, 1) := by decide +kernel
theorem dX5_advise_116 : decode cX5_advise 116 = .ok (.iaload, 1) := by decide +kernel
theorem dX5_advise_117 : decode cX5_advise 117 = .ok (.iconst 1, 1) := by decide +kernel
theorem dX5_advise_118 : decode cX5_advise 118 = .ok (.isub, 1) := by decide +kernel
theorem dX5_advise_119 : decode cX5_advise 119 = .ok (.iastore, 1) := by decide +kernel
theorem dX5_advise_120 : decode cX5_advise 120 = .ok (.iload 5, 2) := by decide +kernel
theorem dX5_advise_122 : decode cX5_advise 122 = .ok (.iload_n 3, 1) := by decide +kernel
theorem dX5_advise_123 : decode cX5_advise 123 = .ok (.if_icmp .gt 6, 3) := by decide +kernel
theorem dX5_advise_126 : decode cX5_advise 126 = .ok (.goto 9, 3) := by decide +kernel
theorem dX5_advise_129 : decode cX5_advise 129 = .ok (.iload 5, 2) := by decide +kernel
theorem dX5_advise_131 : decode cX5_advise 131 = .ok (.istore_n 3, 1) := by decide +kernel
theorem dX5_advise_132 : decode cX5_advise 132 = .ok (.iload 4, 2) := by decide +kernel
theorem dX5_advise_134 : decode cX5_advise 134 = .ok (.istore_n 2, 1) := by decide +kernel
theorem dX5_advise_135 : decode cX5_advise 135 = .ok (.iinc 4 1, 3) := by decide +kernel
theorem dX5_advise_138 : decode cX5_advise 138 = .ok (.goto (-90), 3) := by decide +kernel
theorem dX5_advise_141 : decode cX5_advise 141 = .ok (.iload_n 2, 1) := by decide +kernel
theorem dX5_advise_142 : decode cX5_advise 142 = .ok (.ireturn, 1) := by decide +kernel
set_option maxRecDepth 20000 in
theorem ggX5_foresee_X5_isIn : GoodIn wsX5_foresee wsX5_isIn := goodIn_r _ [12] (by decide +kernel) (by decide +kernel)
set_option maxRecDepth 20000 in
theorem gX5_foresee_X5_isIn : GoodIn wsX5_foresee (va_wsS RX5 44 yX5_isIn wsX5_isIn) := goodIn_app (goodIn_of _ (by decide +kernel)) ggX5_foresee_X5_isIn
set_option maxRecDepth 20000 in
theorem ggX5_foresee_X5_no : GoodIn wsX5_foresee wsX5_no := goodIn_r _ [16, 1, 76, 77, 78, 79, 80, 81, 82, 83, 84, 85, 86, 87, 88] (by decide +kernel) (by decide +kernel)
set_option maxRecDepth 20000 in
theorem gX5_foresee_X5_no : GoodIn wsX5_foresee (wsV RX5 51 RX5 yX5_no wsX5_no) := goodIn_app (goodIn_of _ (by decide +kernel)) ggX5_foresee_X5_no
set_option maxRecDepth 20000 in
theorem ggX5_foresee_X5_pass : GoodIn wsX5_foresee wsX5_pass := goodIn_r _ [20, 21, 22, 23, 24, 25, 26, 11, 27, 28, 29, 30, 31, 32, 33, 34, 35, 36, 37, 38, 9, 10, 12, 39, 40, 41, 42, 43, 44, 45, 46, 47, 48, 49, 50, 51, 52, 53, 54, 55, 56, 57, 58, 59, 60, 61, 62, 63, 64, 65, 66, 67, 68, 76, 77, 78, 79, 80, 81, 82, 83, 84, 85, 86, 87, 88] (by decide +kernel) (by decide +kernel)
set_option maxRecDepth 20000 in
theorem gX5_foresee_X5_pass : GoodIn wsX5_foresee (wsV RX5 113 RX5 yX5_pass wsX5_pass) := goodIn_app (goodIn_of _ (by decide +kernel)) ggX5_foresee_X5_pass
set_option maxRecDepth 20000 in
theorem ggX5_foresee_X5_counted : GoodIn wsX5_foresee wsX5_counted := goodIn_r _ [72, 73, 21, 74, 75, 47, 48, 49, 11, 50, 51, 52, 53, 54, 45, 55, 9, 10, 12, 24, 25, 26, 27, 28, 29, 30, 31, 32, 33, 34, 35, 36, 37, 38, 76, 77, 78, 79, 80, 81, 82, 83, 84, 85, 86, 87, 88] (by decide +kernel) (by decide +kernel)
set_option maxRecDepth 20000 in
theorem gX5_foresee_X5_counted : GoodIn wsX5_foresee (wsV RX5 109 RX5 yX5_counted wsX5_counted) := goodIn_app (goodIn_of _ (by decide +kernel)) ggX5_foresee_X5_counted
theorem dX5_foresee_0 : decode cX5_foresee 0 = .ok (.aload_n 0, 1) := by decide +kernel
theorem dX5_foresee_1 : decode cX5_foresee 1 = .ok (.iconst 0, 1) := by decide +kernel
theorem dX5_foresee_2 : decode cX5_foresee 2 = .ok (.putfield 37, 3) := by decide +kernel
theorem dX5_foresee_5 : decode cX5_foresee 5 = .ok (.iload_n 1, 1) := by decide +kernel
theorem dX5_foresee_6 : decode cX5_foresee 6 = .ok (.iconst 1, 1) := by decide +kernel
theorem dX5_foresee_7 : decode cX5_foresee 7 = .ok (.bipush 60, 2) := by decide +kernel
theorem dX5_foresee_9 : decode cX5_foresee 9 = .ok (.invokestatic 44, 3) := by decide +kernel
theorem dX5_foresee_12 : decode cX5_foresee 12 = .ok (.ifCond .ne 9, 3) := by decide +kernel
theorem dX5_foresee_15 : decode cX5_foresee 15 = .ok (.aload_n 0, 1) := by decide +kernel
theorem dX5_foresee_16 : decode cX5_foresee 16 = .ok (.iconst 1, 1) := by decide +kernel
theorem dX5_foresee_17 : decode cX5_foresee 17 = .ok (.invokevirtual 51, 3) := by decide +kernel
theorem dX5_foresee_20 : decode cX5_foresee 20 = .ok (.ireturn, 1) := by decide +kernel
theorem dX5_foresee_21 : decode cX5_foresee 21 = .ok (.iload_n 2, 1) := by decide +kernel
theorem dX5_foresee_22 : decode cX5_foresee 22 = .ok (.iconst 5, 1) := by decide +kernel
theorem dX5_foresee_23 : decode cX5_foresee 23 = .ok (.bipush 8, 2) := by decide +kernel
theorem dX5_foresee_25 : decode cX5_foresee 25 = .ok (.invokestatic 44, 3) := by decide +kernel
theorem dX5_foresee_28 : decode cX5_foresee 28 = .ok (.ifCond .ne 9, 3) := by decide +kernel
theorem dX5_foresee_31 : decode cX5_foresee 31 = .ok (.aload_n 0, 1) := by decide +kernel
theorem dX5_foresee_32 : decode cX5_foresee 32 = .ok (.iconst 2, 1) := by decide +kernel
theorem dX5_foresee_33 : decode cX5_foresee 33 = .ok (.invokevirtual 51, 3) := by decide +kernel
theorem dX5_foresee_36 : decode cX5_foresee 36 = .ok (.ireturn, 1) := by decide +kernel
theorem dX5_foresee_37 : decode cX5_foresee 37 = .ok (.aload_n 0, 1) := by decide +kernel
theorem dX5_foresee_38 : decode cX5_foresee 38 = .ok (.getfield 34, 3) := by decide +kernel
theorem dX5_foresee_41 : decode cX5_foresee 41 = .ok (.invokevirtual 117, 3) := by decide +kernel
theorem dX5_foresee_44 : decode cX5_foresee 44 = .ok (.checkcast 118, 3) := by decide +kernel
theorem dX5_foresee_47 : decode cX5_foresee 47 = .ok (.astore_n 3, 1) := by decide +kernel
theorem dX5_foresee_48 : decode cX5_foresee 48 = .ok (.iconst 0, 1) := by decide +kernel
theorem dX5_foresee_49 : decode cX5_foresee 49 = .ok (.istore 4, 2) := by decide +kernel
theorem dX5_foresee_51 : decode cX5_foresee 51 = .ok (.iload 4, 2) := by decide +kernel
theorem dX5_foresee_53 : decode cX5_foresee 53 = .ok (.iload_n 1, 1) := by decide +kernel
theorem dX5_foresee_54 : decode cX5_foresee 54 = .ok (.if_icmp .ge 14, 3) := by decide +kernel
theorem dX5_foresee_57 : decode cX5_foresee 57 = .ok (.aload_n 0, 1) := by decide +kernel
theorem dX5_foresee_58 : decode cX5_foresee 58 = .ok (.aload_n 3, 1) := by decide +kernel
theorem dX5_foresee_59 : decode cX5_foresee 59 = .ok (.invokevirtual 113, 3) := by decide +kernel
theorem dX5_foresee_62 : decode cX5_foresee 62 = .ok (.iinc 4 1, 3) := by decide +kernel
theorem dX5_foresee_65 : decode cX5_foresee 65 = .ok (.goto (-14), 3) := by decide +kernel
theorem dX5_foresee_68 : decode cX5_foresee 68 = .ok (.aload_n 0, 1) := by decide +kernel
theorem dX5_foresee_69 : decode cX5_foresee 69 = .ok (.aload_n 3, 1) := by decide +kernel
theorem dX5_foresee_70 : decode cX5_foresee 70 = .ok (.iload_n 2, 1) := by decide +kernel
theorem dX5_foresee_71 : decode cX5_foresee 71 = .ok (.invokevirtual 109, 3) := by decide +kernel
theorem dX5_foresee_74 : decode cX5_foresee 74 = .ok (.ireturn, 1) := by decide +kernel
set_option maxRecDepth 20000 in
theorem ggX5_mean_X5_blooms : GoodIn wsX5_mean wsX5_blooms := goodIn_r _ [8, 9, 10, 11, 12, 13, 14, 15, 16, 7, 17, 18, 19, 20, 21, 22, 23, 24, 25, 26, 27, 28, 29, 30] (by decide +kernel) (by decide +kernel)
set_option maxRecDepth 20000 in
theorem gX5_mean_X5_blooms : GoodIn wsX5_mean (wsV RX5 72 RX5 yX5_blooms wsX5_blooms) := goodIn_app (goodIn_of _ (by decide +kernel)) ggX5_mean_X5_blooms
theorem dX5_mean_0 : decode cX5_mean 0 = .ok (.aload_n 0, 1) := by decide +kernel
theorem dX5_mean_1 : decode cX5_mean 1 = .ok (.iconst 0, 1) := by decide +kernel
theorem dX5_mean_2 : decode cX5_mean 2 = .ok (.putfield 37, 3) := by decide +kernel
theorem dX5_mean_5 : decode cX5_mean 5 = .ok (.iconst 0, 1) := by decide +kernel
theorem dX5_mean_6 : decode cX5_mean 6 = .ok (.istore_n 1, 1) := by decide +kernel
theorem dX5_mean_7 : decode cX5_mean 7 = .ok (.iconst 0, 1) := by decide +kernel
theorem dX5_mean_8 : decode cX5_mean 8 = .ok (.istore_n 2, 1) := by decide +kernel
theorem dX5_mean_9 : decode cX5_mean 9 = .ok (.iload_n 2, 1) := by decide +kernel
theorem dX5_mean_10 : decode cX5_mean 10 = .ok (.aload_n 0, 1) := by decide +kernel
theorem dX5_mean_11 : decode cX5_mean 11 = .ok (.getfield 41, 3) := by decide +kernel
theorem dX5_mean_14 : decode cX5_mean 14 = .ok (.if_icmp .ge 23, 3) := by decide +kernel
theorem dX5_mean_17 : decode cX5_mean 17 = .ok (.iload_n 1, 1) := by decide +kernel
theorem dX5_mean_18 : decode cX5_mean 18 = .ok (.aload_n 0, 1) := by decide +kernel
theorem dX5_mean_19 : decode cX5_mean 19 = .ok (.iload_n 2, 1) := by decide +kernel
theorem dX5_mean_20 : decode cX5_mean 20 = .ok (.aload_n 0, 1) := by decide +kernel
theorem dX5_mean_21 : decode cX5_mean 21 = .ok (.getfield 34, 3) := by decide +kernel
theorem dX5_mean_24 : decode cX5_mean 24 = .ok (.iconst 0, 1) := by decide +kernel
theorem dX5_mean_25 : decode cX5_mean 25 = .ok (.iaload, 1) := by decide +kernel
theorem dX5_mean_26 : decode cX5_mean 26 = .ok (.invokevirtual 72, 3) := by decide +kernel
theorem dX5_mean_29 : decode cX5_mean 29 = .ok (.iadd, 1) := by decide +kernel
theorem dX5_mean_30 : decode cX5_mean 30 = .ok (.istore_n 1, 1) := by decide +kernel
theorem dX5_mean_31 : decode cX5_mean 31 = .ok (.iinc 2 1, 3) := by decide +kernel
theorem dX5_mean_34 : decode cX5_mean 34 = .ok (.goto (-25), 3) := by decide +kernel
theorem dX5_mean_37 : decode cX5_mean 37 = .ok (.aload_n 0, 1) := by decide +kernel
theorem dX5_mean_38 : decode cX5_mean 38 = .ok (.getfield 41, 3) := by decide +kernel
theorem dX5_mean_41 : decode cX5_mean 41 = .ok (.ifCond .ne 7, 3) := by decide +kernel
theorem dX5_mean_44 : decode cX5_mean 44 = .ok (.dconst 0, 1) := by decide +kernel
theorem dX5_mean_45 : decode cX5_mean 45 = .ok (.goto 11, 3) := by decide +kernel
theorem dX5_mean_48 : decode cX5_mean 48 = .ok (.iload_n 1, 1) := by decide +kernel
theorem dX5_mean_49 : decode cX5_mean 49 = .ok (.i2d, 1) := by decide +kernel
theorem dX5_mean_50 : decode cX5_mean 50 = .ok (.aload_n 0, 1) := by decide +kernel
theorem dX5_mean_51 : decode cX5_mean 51 = .ok (.getfield 41, 3) := by decide +kernel
theorem dX5_mean_54 : decode cX5_mean 54 = .ok (.i2d, 1) := by decide +kernel
theorem dX5_mean_55 : decode cX5_mean 55 = .ok (.ddiv, 1) := by decide +kernel
theorem dX5_mean_56 : decode cX5_mean 56 = .ok (.dreturn, 1) := by decide +kernel
set_option maxRecDepth 20000 in
theorem ggX5_digest_X5_counted : GoodIn wsX5_digest wsX5_counted := goodIn_r _ [14, 6, 8, 15, 16, 17, 18, 19, 13, 20, 21, 22, 23, 24, 25, 26, 27, 28, 29, 30, 31, 32, 33, 34, 35, 36, 37, 9, 7, 38, 39, 40, 41, 42, 72, 73, 74, 75, 76, 77, 78, 79, 80, 81, 82, 83, 84] (by decide +kernel) (by decide +kernel)
set_option maxRecDepth 20000 in
theorem gX5_digest_X5_counted : GoodIn wsX5_digest (wsV RX5 109 RX5 yX5_counted wsX5_counted) := goodIn_app (goodIn_of _ (by decide +kernel)) ggX5_digest_X5_counted
set_option maxRecDepth 20000 in
theorem ggX5_digest_X5_valleyTold : GoodIn wsX5_digest wsX5_valleyTold := goodIn_r _ [46, 8, 21, 22, 47, 4, 48, 49, 50, 13, 51, 9, 38, 39, 40, 41, 42, 30, 31, 32, 33, 34, 35, 36, 37, 7, 27, 28, 29, 17, 18, 19, 20, 23, 24, 25, 26, 52, 53, 54, 55, 56, 72, 73, 74, 75, 76, 77, 78, 79, 80, 81, 82, 83, 84] (by decide +kernel) (by decide +kernel)
set_option maxRecDepth 20000 in
theorem gX5_digest_X5_valleyTold : GoodIn wsX5_digest (wsV RX5 106 RX5 yX5_valleyTold wsX5_valleyTold) := goodIn_app (goodIn_of _ (by decide +kernel)) ggX5_digest_X5_valleyTold
set_option maxRecDepth 20000 in
theorem ggX5_digest_X5_tourTold : GoodIn wsX5_digest wsX5_tourTold := goodIn_r _ [60, 56, 9, 4, 34, 35, 36, 13, 37, 7, 38, 39, 40, 41, 42, 30, 31, 32, 33, 27, 28, 29, 61, 62, 63, 64, 65, 66, 25, 67, 17, 18, 19, 20, 21, 22, 23, 24, 26, 52, 53, 54, 55, 8, 48, 49, 50, 51, 68, 69, 70, 71, 47, 72, 73, 74, 75, 76, 77, 78, 79, 80, 81, 82, 83, 84] (by decide +kernel) (by decide +kernel)
set_option maxRecDepth 20000 in
theorem gX5_digest_X5_tourTold : GoodIn wsX5_digest (wsV RX5 103 RX5 yX5_tourTold wsX5_tourTold) := goodIn_app (goodIn_of _ (by decide +kernel)) ggX5_digest_X5_tourTold
set_option maxRecDepth 20000 in
theorem ggX5_digest_X5_at : GoodIn wsX5_digest wsX5_at := goodIn_r _ [41, 42, 72, 73, 74, 75, 76, 77, 78, 79, 80, 81, 82, 83, 84] (by decide +kernel) (by decide +kernel)
set_option maxRecDepth 20000 in
theorem gX5_digest_X5_at : GoodIn wsX5_digest (wsV RX5 75 RX5 yX5_at wsX5_at) := goodIn_app (goodIn_of _ (by decide +kernel)) ggX5_digest_X5_at
theorem dX5_digest_0 : decode cX5_digest 0 = .ok (.aload_n 0, 1) := by decide +kernel
theorem dX5_digest_1 : decode cX5_digest 1 = .ok (.iconst 0, 1) := by decide +kernel
theorem dX5_digest_2 : decode cX5_digest 2 = .ok (.putfield 37, 3) := by decide +kernel
theorem dX5_digest_5 : decode cX5_digest 5 = .ok (.ldc2_w 122, 3) := by decide +kernel
theorem dX5_digest_8 : decode cX5_digest 8 = .ok (.lstore_n 1, 1) := by decide +kernel
theorem dX5_digest_9 : decode cX5_digest 9 = .ok (.iconst 0, 1) := by decide +kernel
theorem dX5_digest_10 : decode cX5_digest 10 = .ok (.istore_n 3, 1) := by decide +kernel
theorem dX5_digest_11 : decode cX5_digest 11 = .ok (.iload_n 3, 1) := by decide +kernel
theorem dX5_digest_12 : decode cX5_digest 12 = .ok (.bipush 8, 2) := by decide +kernel
theorem dX5_digest_14 : decode cX5_digest 14 = .ok (.if_icmp .gt 26, 3) := by decide +kernel
theorem dX5_digest_17 : decode cX5_digest 17 = .ok (.lload_n 1, 1) := by decide +kernel
theorem dX5_digest_18 : decode cX5_digest 18 = .ok (.ldc2_w 124, 3) := by decide +kernel
theorem dX5_digest_21 : decode cX5_digest 21 = .ok (.lmul, 1) := by decide +kernel
theorem dX5_digest_22 : decode cX5_digest 22 = .ok (.aload_n 0, 1) := by decide +kernel
theorem dX5_digest_23 : decode cX5_digest 23 = .ok (.aload_n 0, 1) := by decide +kernel
theorem dX5_digest_24 : decode cX5_digest 24 = .ok (.getfield 34, 3) := by decide +kernel
theorem dX5_digest_27 : decode cX5_digest 27 = .ok (.iload_n 3, 1) := by decide +kernel
theorem dX5_digest_28 : decode cX5_digest 28 = .ok (.invokevirtual 109, 3) := by decide +kernel
theorem dX5_digest_31 : decode cX5_digest 31 = .ok (.i2l, 1) := by decide +kernel
theorem dX5_digest_32 : decode cX5_digest 32 = .ok (.ladd, 1) := by decide +kernel
theorem dX5_digest_33 : decode cX5_digest 33 = .ok (.lstore_n 1, 1) := by decide +kernel
theorem dX5_digest_34 : decode cX5_digest 34 = .ok (.iinc 3 1, 3) := by decide +kernel
theorem dX5_digest_37 : decode cX5_digest 37 = .ok (.goto (-26), 3) := by decide +kernel
theorem dX5_digest_40 : decode cX5_digest 40 = .ok (.aload_n 0, 1) := by decide +kernel
theorem dX5_digest_41 : decode cX5_digest 41 = .ok (.getfield 22, 3) := by decide +kernel
theorem dX5_digest_44 : decode cX5_digest 44 = .ok (.astore_n 3, 1) := by decide +kernel
theorem dX5_digest_45 : decode cX5_digest 45 = .ok (.aload_n 3, 1) := by decide +kernel
theorem dX5_digest_46 : decode cX5_digest 46 = .ok (.arraylength, 1) := by decide +kernel
theorem dX5_digest_47 : decode cX5_digest 47 = .ok (.istore 4, 2) := by decide +kernel
theorem dX5_digest_49 : decode cX5_digest 49 = .ok (.iconst 0, 1) := by decide +kernel
theorem dX5_digest_50 : decode cX5_digest 50 = .ok (.istore 5, 2) := by decide +kernel
theorem dX5_digest_52 : decode cX5_digest 52 = .ok (.iload 5, 2) := by decide +kernel
theorem dX5_digest_54 : decode cX5_digest 54 = .ok (.iload 4, 2) := by decide +kernel
theorem dX5_digest_56 : decode cX5_digest 56 = .ok (.if_icmp .ge 25, 3) := by decide +kernel
theorem dX5_digest_59 : decode cX5_digest 59 = .ok (.aload_n 3, 1) := by decide +kernel
theorem dX5_digest_60 : decode cX5_digest 60 = .ok (.iload 5, 2) := by decide +kernel
theorem dX5_digest_62 : decode cX5_digest 62 = .ok (.iaload, 1) := by decide +kernel
theorem dX5_digest_63 : decode cX5_digest 63 = .ok (.istore 6, 2) := by decide +kernel
theorem dX5_digest_65 : decode cX5_digest 65 = .ok (.lload_n 1, 1) := by decide +kernel
theorem dX5_digest_66 : decode cX5_digest 66 = .ok (.ldc2_w 124, 3) := by decide +kernel
theorem dX5_digest_69 : decode cX5_digest 69 = .ok (.lmul, 1) := by decide +kernel
theorem dX5_digest_70 : decode cX5_digest 70 = .ok (.iload 6, 2) := by decide +kernel
theorem dX5_digest_72 : decode cX5_digest 72 = .ok (.i2l, 1) := by decide +kernel
theorem dX5_digest_73 : decode cX5_digest 73 = .ok (.ladd, 1) := by decide +kernel
theorem dX5_digest_74 : decode cX5_digest 74 = .ok (.lstore_n 1, 1) := by decide +kernel
theorem dX5_digest_75 : decode cX5_digest 75 = .ok (.iinc 5 1, 3) := by decide +kernel
theorem dX5_digest_78 : decode cX5_digest 78 = .ok (.goto (-26), 3) := by decide +kernel
theorem dX5_digest_81 : decode cX5_digest 81 = .ok (.iconst 0, 1) := by decide +kernel
theorem dX5_digest_82 : decode cX5_digest 82 = .ok (.istore_n 3, 1) := by decide +kernel
theorem dX5_digest_83 : decode cX5_digest 83 = .ok (.iload_n 3, 1) := by decide +kernel
theorem dX5_digest_84 : decode cX5_digest 84 = .ok (.aload_n 0, 1) := by decide +kernel
theorem dX5_digest_85 : decode cX5_digest 85 = .ok (.getfield 41, 3) := by decide +kernel
theorem dX5_digest_88 : decode cX5_digest 88 = .ok (.if_icmp .ge 77, 3) := by decide +kernel
theorem dX5_digest_91 : decode cX5_digest 91 = .ok (.iconst 0, 1) := by decide +kernel
theorem dX5_digest_92 : decode cX5_digest 92 = .ok (.istore 4, 2) := by decide +kernel
theorem dX5_digest_94 : decode cX5_digest 94 = .ok (.iload 4, 2) := by decide +kernel
theorem dX5_digest_96 : decode cX5_digest 96 = .ok (.iconst 5, 1) := by decide +kernel
theorem dX5_digest_97 : decode cX5_digest 97 = .ok (.if_icmp .gt 24, 3) := by decide +kernel
theorem dX5_digest_100 : decode cX5_digest 100 = .ok (.lload_n 1, 1) := by decide +kernel
theorem dX5_digest_101 : decode cX5_digest 101 = .ok (.ldc2_w 124, 3) := by decide +kernel
theorem dX5_digest_104 : decode cX5_digest 104 = .ok (.lmul, 1) := by decide +kernel
theorem dX5_digest_105 : decode cX5_digest 105 = .ok (.aload_n 0, 1) := by decide +kernel
theorem dX5_digest_106 : decode cX5_digest 106 = .ok (.iload_n 3, 1) := by decide +kernel
theorem dX5_digest_107 : decode cX5_digest 107 = .ok (.iload 4, 2) := by decide +kernel
theorem dX5_digest_109 : decode cX5_digest 109 = .ok (.invokevirtual 106, 3) := by decide +kernel
theorem dX5_digest_112 : decode cX5_digest 112 = .ok (.i2l, 1) := by decide +kernel
theorem dX5_digest_113 : decode cX5_digest 113 = .ok (.ladd, 1) := by decide +kernel
theorem dX5_digest_114 : decode cX5_digest 114 = .ok (.lstore_n 1, 1) := by decide +kernel
theorem dX5_digest_115 : decode cX5_digest 115 = .ok (.iinc 4 1, 3) := by decide +kernel
theorem dX5_digest_118 : decode cX5_digest 118 = .ok (.goto (-24), 3) := by decide +kernel
theorem dX5_digest_121 : decode cX5_digest 121 = .ok (.iconst 0, 1) := by decide +kernel
theorem dX5_digest_122 : decode cX5_digest 122 = .ok (.istore 4, 2) := by decide +kernel
theorem dX5_digest_124 : decode cX5_digest 124 = .ok (.iload 4, 2) := by decide +kernel
theorem dX5_digest_126 : decode cX5_digest 126 = .ok (.aload_n 0, 1) := by decide +kernel
theorem dX5_digest_127 : decode cX5_digest 127 = .ok (.getfield 41, 3) := by decide +kernel
theorem dX5_digest_130 : decode cX5_digest 130 = .ok (.if_icmp .ge 29, 3) := by decide +kernel
theorem dX5_digest_133 : decode cX5_digest 133 = .ok (.lload_n 1, 1) := by decide +kernel
theorem dX5_digest_134 : decode cX5_digest 134 = .ok (.ldc2_w 124, 3) := by decide +kernel
theorem dX5_digest_137 : decode cX5_digest 137 = .ok (.lmul, 1) := by decide +kernel
theorem dX5_digest_138 : decode cX5_digest 138 = .ok (.aload_n 0, 1) := by decide +kernel
theorem dX5_digest_139 : decode cX5_digest 139 = .ok (.getfield 19, 3) := by decide +kernel
theorem dX5_digest_142 : decode cX5_digest 142 = .ok (.bipush 8, 2) := by decide +kernel
theorem dX5_digest_144 : decode cX5_digest 144 = .ok (.iload_n 3, 1) := by decide +kernel
theorem dX5_digest_145 : decode cX5_digest 145 = .ok (.imul, 1) := by decide +kernel
theorem dX5_digest_146 : decode cX5_digest 146 = .ok (.iload 4, 2) := by decide +kernel
theorem dX5_digest_148 : decode cX5_digest 148 = .ok (.iadd, 1) := by decide +kernel
theorem dX5_digest_149 : decode cX5_digest 149 = .ok (.iaload, 1) := by decide +kernel
theorem dX5_digest_150 : decode cX5_digest 150 = .ok (.i2l, 1) := by decide +kernel
theorem dX5_digest_151 : decode cX5_digest 151 = .ok (.ladd, 1) := by decide +kernel
theorem dX5_digest_152 : decode cX5_digest 152 = .ok (.lstore_n 1, 1) := by decide +kernel
theorem dX5_digest_153 : decode cX5_digest 153 = .ok (.iinc 4 1, 3) := by decide +kernel
theorem dX5_digest_156 : decode cX5_digest 156 = .ok (.goto (-32), 3) := by decide +kernel
theorem dX5_digest_159 : decode cX5_digest 159 = .ok (.iinc 3 1, 3) := by decide +kernel
theorem dX5_digest_162 : decode cX5_digest 162 = .ok (.goto (-79), 3) := by decide +kernel
theorem dX5_digest_165 : decode cX5_digest 165 = .ok (.iconst 0, 1) := by decide +kernel
theorem dX5_digest_166 : decode cX5_digest 166 = .ok (.istore_n 3, 1) := by decide +kernel
theorem dX5_digest_167 : decode cX5_digest 167 = .ok (.iload_n 3, 1) := by decide +kernel
theorem dX5_digest_168 : decode cX5_digest 168 = .ok (.aload_n 0, 1) := by decide +kernel
theorem dX5_digest_169 : decode cX5_digest 169 = .ok (.getfield 48, 3) := by decide +kernel
theorem dX5_digest_172 : decode cX5_digest 172 = .ok (.if_icmp .ge 74, 3) := by decide +kernel
theorem dX5_digest_175 : decode cX5_digest 175 = .ok (.iconst 0, 1) := by decide +kernel
theorem dX5_digest_176 : decode cX5_digest 176 = .ok (.istore 4, 2) := by decide +kernel
theorem dX5_digest_178 : decode cX5_digest 178 = .ok (.iload 4, 2) := by decide +kernel
theorem dX5_digest_180 : decode cX5_digest 180 = .ok (.iconst 5, 1) := by decide +kernel
theorem dX5_digest_181 : decode cX5_digest 181 = .ok (.if_icmp .gt 24, 3) := by decide +kernel
theorem dX5_digest_184 : decode cX5_digest 184 = .ok (.lload_n 1, 1) := by decide +kernel
theorem dX5_digest_185 : decode cX5_digest 185 = .ok (.ldc2_w 124, 3) := by decide +kernel
theorem dX5_digest_188 : decode cX5_digest 188 = .ok (.lmul, 1) := by decide +kernel
theorem dX5_digest_189 : decode cX5_digest 189 = .ok (.aload_n 0, 1) := by decide +kernel
theorem dX5_digest_190 : decode cX5_digest 190 = .ok (.iload_n 3, 1) := by decide +kernel
theorem dX5_digest_191 : decode cX5_digest 191 = .ok (.iload 4, 2) := by decide +kernel
theorem dX5_digest_193 : decode cX5_digest 193 = .ok (.invokevirtual 103, 3) := by decide +kernel
theorem dX5_digest_196 : decode cX5_digest 196 = .ok (.i2l, 1) := by decide +kernel
theorem dX5_digest_197 : decode cX5_digest 197 = .ok (.ladd, 1) := by decide +kernel
theorem dX5_digest_198 : decode cX5_digest 198 = .ok (.lstore_n 1, 1) := by decide +kernel
theorem dX5_digest_199 : decode cX5_digest 199 = .ok (.iinc 4 1, 3) := by decide +kernel
theorem dX5_digest_202 : decode cX5_digest 202 = .ok (.goto (-24), 3) := by decide +kernel
theorem dX5_digest_205 : decode cX5_digest 205 = .ok (.iconst 0, 1) := by decide +kernel
theorem dX5_digest_206 : decode cX5_digest 206 = .ok (.istore 4, 2) := by decide +kernel
theorem dX5_digest_208 : decode cX5_digest 208 = .ok (.iload 4, 2) := by decide +kernel
theorem dX5_digest_210 : decode cX5_digest 210 = .ok (.aload_n 0, 1) := by decide +kernel
theorem dX5_digest_211 : decode cX5_digest 211 = .ok (.getfield 28, 3) := by decide +kernel
theorem dX5_digest_214 : decode cX5_digest 214 = .ok (.iload_n 3, 1) := by decide +kernel
theorem dX5_digest_215 : decode cX5_digest 215 = .ok (.iaload, 1) := by decide +kernel
theorem dX5_digest_216 : decode cX5_digest 216 = .ok (.if_icmp .ge 24, 3) := by decide +kernel
theorem dX5_digest_219 : decode cX5_digest 219 = .ok (.lload_n 1, 1) := by decide +kernel
theorem dX5_digest_220 : decode cX5_digest 220 = .ok (.ldc2_w 124, 3) := by decide +kernel
theorem dX5_digest_223 : decode cX5_digest 223 = .ok (.lmul, 1) := by decide +kernel
theorem dX5_digest_224 : decode cX5_digest 224 = .ok (.aload_n 0, 1) := by decide +kernel
theorem dX5_digest_225 : decode cX5_digest 225 = .ok (.iload_n 3, 1) := by decide +kernel
theorem dX5_digest_226 : decode cX5_digest 226 = .ok (.iload 4, 2) := by decide +kernel
theorem dX5_digest_228 : decode cX5_digest 228 = .ok (.invokevirtual 75, 3) := by decide +kernel
theorem dX5_digest_231 : decode cX5_digest 231 = .ok (.i2l, 1) := by decide +kernel
theorem dX5_digest_232 : decode cX5_digest 232 = .ok (.ladd, 1) := by decide +kernel
theorem dX5_digest_233 : decode cX5_digest 233 = .ok (.lstore_n 1, 1) := by decide +kernel
theorem dX5_digest_234 : decode cX5_digest 234 = .ok (.iinc 4 1, 3) := by decide +kernel
theorem dX5_digest_237 : decode cX5_digest 237 = .ok (.goto (-29), 3) := by decide +kernel
theorem dX5_digest_240 : decode cX5_digest 240 = .ok (.iinc 3 1, 3) := by decide +kernel
theorem dX5_digest_243 : decode cX5_digest 243 = .ok (.goto (-76), 3) := by decide +kernel
theorem dX5_digest_246 : decode cX5_digest 246 = .ok (.lload_n 1, 1) := by decide +kernel
theorem dX5_digest_247 : decode cX5_digest 247 = .ok (.lreturn, 1) := by decide +kernel
theorem dJ9_floorMod_7cf53_0 : decode cJ9_floorMod_7cf53 0 = .ok (.iload_n 0, 1) := by decide +kernel
theorem dJ9_floorMod_7cf53_1 : decode cJ9_floorMod_7cf53 1 = .ok (.iload_n 1, 1) := by decide +kernel
theorem dJ9_floorMod_7cf53_2 : decode cJ9_floorMod_7cf53 2 = .ok (.irem, 1) := by decide +kernel
theorem dJ9_floorMod_7cf53_3 : decode cJ9_floorMod_7cf53 3 = .ok (.istore_n 2, 1) := by decide +kernel
theorem dJ9_floorMod_7cf53_4 : decode cJ9_floorMod_7cf53 4 = .ok (.iload_n 0, 1) := by decide +kernel
theorem dJ9_floorMod_7cf53_5 : decode cJ9_floorMod_7cf53 5 = .ok (.iload_n 1, 1) := by decide +kernel
theorem dJ9_floorMod_7cf53_6 : decode cJ9_floorMod_7cf53 6 = .ok (.ixor, 1) := by decide +kernel
theorem dJ9_floorMod_7cf53_7 : decode cJ9_floorMod_7cf53 7 = .ok (.ifCond .ge 11, 3) := by decide +kernel
theorem dJ9_floorMod_7cf53_10 : decode cJ9_floorMod_7cf53 10 = .ok (.iload_n 2, 1) := by decide +kernel
theorem dJ9_floorMod_7cf53_11 : decode cJ9_floorMod_7cf53 11 = .ok (.ifCond .eq 7, 3) := by decide +kernel
theorem dJ9_floorMod_7cf53_14 : decode cJ9_floorMod_7cf53 14 = .ok (.iload_n 2, 1) := by decide +kernel
theorem dJ9_floorMod_7cf53_15 : decode cJ9_floorMod_7cf53 15 = .ok (.iload_n 1, 1) := by decide +kernel
theorem dJ9_floorMod_7cf53_16 : decode cJ9_floorMod_7cf53 16 = .ok (.iadd, 1) := by decide +kernel
theorem dJ9_floorMod_7cf53_17 : decode cJ9_floorMod_7cf53 17 = .ok (.ireturn, 1) := by decide +kernel
theorem dJ9_floorMod_7cf53_18 : decode cJ9_floorMod_7cf53 18 = .ok (.iload_n 2, 1) := by decide +kernel
theorem dJ9_floorMod_7cf53_19 : decode cJ9_floorMod_7cf53 19 = .ok (.ireturn, 1) := by decide +kernel
theorem dJ9_max_7cf53_0 : decode cJ9_max_7cf53 0 = .ok (.iload_n 0, 1) := by decide +kernel
theorem dJ9_max_7cf53_1 : decode cJ9_max_7cf53 1 = .ok (.iload_n 1, 1) := by decide +kernel
theorem dJ9_max_7cf53_2 : decode cJ9_max_7cf53 2 = .ok (.if_icmp .lt 7, 3) := by decide +kernel
theorem dJ9_max_7cf53_5 : decode cJ9_max_7cf53 5 = .ok (.iload_n 0, 1) := by decide +kernel
theorem dJ9_max_7cf53_6 : decode cJ9_max_7cf53 6 = .ok (.goto 4, 3) := by decide +kernel
theorem dJ9_max_7cf53_9 : decode cJ9_max_7cf53 9 = .ok (.iload_n 1, 1) := by decide +kernel
theorem dJ9_max_7cf53_10 : decode cJ9_max_7cf53 10 = .ok (.ireturn, 1) := by decide +kernel
theorem dJ9_min_7cf53_0 : decode cJ9_min_7cf53 0 = .ok (.iload_n 0, 1) := by decide +kernel
theorem dJ9_min_7cf53_1 : decode cJ9_min_7cf53 1 = .ok (.iload_n 1, 1) := by decide +kernel
theorem dJ9_min_7cf53_2 : decode cJ9_min_7cf53 2 = .ok (.if_icmp .gt 7, 3) := by decide +kernel
theorem dJ9_min_7cf53_5 : decode cJ9_min_7cf53 5 = .ok (.iload_n 0, 1) := by decide +kernel
theorem dJ9_min_7cf53_6 : decode cJ9_min_7cf53 6 = .ok (.goto 4, 3) := by decide +kernel
theorem dJ9_min_7cf53_9 : decode cJ9_min_7cf53 9 = .ok (.iload_n 1, 1) := by decide +kernel
theorem dJ9_min_7cf53_10 : decode cJ9_min_7cf53 10 = .ok (.ireturn, 1) := by decide +kernel
set_option maxRecDepth 20000 in
theorem ggL_valley_X4_valley : GoodIn wsL_valley wsX4_valley := goodIn_ca (goodIn_ca (goodIn_r _ [7, 8, 9, 10, 11, 12, 13, 14, 15, 6, 16, 17, 18, 19, 20, 21, 22, 23, 24, 25, 26, 27, 28, 29, 30] (by decide +kernel) (by decide +kernel)) (goodIn_sub (fun _ h => List.mem_cons_of_mem _ (List.mem_append_left _ (List.mem_append_right _ h))) (by decide +kernel))) (goodIn_sub (fun _ h => List.mem_cons_of_mem _ (List.mem_append_right _ h)) (by decide +kernel))
set_option maxRecDepth 20000 in
theorem gL_valley_X4_valley : GoodIn wsL_valley (wsV RL 7 RX4 yX4_valley wsX4_valley) := goodIn_app (goodIn_of _ (by decide +kernel)) ggL_valley_X4_valley
theorem dL_valley_0 : decode cL_valley 0 = .ok (.aload 4, 2) := by decide +kernel
theorem dL_valley_2 : decode cL_valley 2 = .ok (.iconst 0, 1) := by decide +kernel
theorem dL_valley_3 : decode cL_valley 3 = .ok (.aload_n 0, 1) := by decide +kernel
theorem dL_valley_4 : decode cL_valley 4 = .ok (.iload_n 1, 1) := by decide +kernel
theorem dL_valley_5 : decode cL_valley 5 = .ok (.iload_n 2, 1) := by decide +kernel
theorem dL_valley_6 : decode cL_valley 6 = .ok (.iload_n 3, 1) := by decide +kernel
theorem dL_valley_7 : decode cL_valley 7 = .ok (.invokevirtual 7, 3) := by decide +kernel
theorem dL_valley_10 : decode cL_valley 10 = .ok (.i2l, 1) := by decide +kernel
theorem dL_valley_11 : decode cL_valley 11 = .ok (.lastore, 1) := by decide +kernel
theorem dL_valley_12 : decode cL_valley 12 = .ok (.goto 11, 3) := by decide +kernel
theorem dL_valley_15 : decode cL_valley 15 = .ok (.astore 5, 2) := by decide +kernel
theorem dL_valley_17 : decode cL_valley 17 = .ok (.iconst 1, 1) := by decide +kernel
theorem dL_valley_18 : decode cL_valley 18 = .ok (.ireturn, 1) := by decide +kernel
theorem dL_valley_19 : decode cL_valley 19 = .ok (.astore 5, 2) := by decide +kernel
theorem dL_valley_21 : decode cL_valley 21 = .ok (.iconst 2, 1) := by decide +kernel
theorem dL_valley_22 : decode cL_valley 22 = .ok (.ireturn, 1) := by decide +kernel
theorem dL_valley_23 : decode cL_valley 23 = .ok (.iconst 0, 1) := by decide +kernel
theorem dL_valley_24 : decode cL_valley 24 = .ok (.ireturn, 1) := by decide +kernel
set_option maxRecDepth 20000 in
theorem ggL_road_X4_road : GoodIn wsL_road wsX4_road := goodIn_ca (goodIn_ca (goodIn_ca (goodIn_r _ [8, 9, 10, 11, 12, 13, 14, 15, 16, 7, 17, 18, 19, 20, 21, 22, 23, 24, 25, 26, 27, 28, 29, 30, 31, 32, 33, 34, 35, 36, 37, 38, 39, 40, 41, 42, 43, 44, 45, 46, 47, 48, 49, 50, 51, 52, 53, 54, 55, 56, 57, 58, 59, 60, 61, 62, 63, 64, 65, 66, 67, 68, 69, 70, 71, 72, 73, 74, 75, 76, 77, 78, 79, 80, 81, 82, 83, 84] (by decide +kernel) (by decide +kernel)) (goodIn_sub (fun _ h => List.mem_cons_of_mem _ (List.mem_append_left _ (List.mem_append_left _ (List.mem_append_right _ h)))) (by decide +kernel))) (goodIn_sub (fun _ h => List.mem_cons_of_mem _ (List.mem_append_left _ (List.mem_append_right _ h))) (by decide +kernel))) (goodIn_sub (fun _ h => List.mem_cons_of_mem _ (List.mem_append_right _ h)) (by decide +kernel))
set_option maxRecDepth 20000 in
theorem gL_road_X4_road : GoodIn wsL_road (wsV RL 17 RX4 yX4_road wsX4_road) := goodIn_app (goodIn_of _ (by decide +kernel)) ggL_road_X4_road
theorem dL_road_0 : decode cL_road 0 = .ok (.aload 4, 2) := by decide +kernel
theorem dL_road_2 : decode cL_road 2 = .ok (.iconst 0, 1) := by decide +kernel
theorem dL_road_3 : decode cL_road 3 = .ok (.aload_n 0, 1) := by decide +kernel
theorem dL_road_4 : decode cL_road 4 = .ok (.iload_n 1, 1) := by decide +kernel
theorem dL_road_5 : decode cL_road 5 = .ok (.iload_n 2, 1) := by decide +kernel
theorem dL_road_6 : decode cL_road 6 = .ok (.iload_n 3, 1) := by decide +kernel
theorem dL_road_7 : decode cL_road 7 = .ok (.invokevirtual 17, 3) := by decide +kernel
theorem dL_road_10 : decode cL_road 10 = .ok (.i2l, 1) := by decide +kernel
theorem dL_road_11 : decode cL_road 11 = .ok (.lastore, 1) := by decide +kernel
theorem dL_road_12 : decode cL_road 12 = .ok (.goto 15, 3) := by decide +kernel
theorem dL_road_15 : decode cL_road 15 = .ok (.astore 5, 2) := by decide +kernel
theorem dL_road_17 : decode cL_road 17 = .ok (.iconst 1, 1) := by decide +kernel
theorem dL_road_18 : decode cL_road 18 = .ok (.ireturn, 1) := by decide +kernel
theorem dL_road_19 : decode cL_road 19 = .ok (.astore 5, 2) := by decide +kernel
theorem dL_road_21 : decode cL_road 21 = .ok (.iconst 2, 1) := by decide +kernel
theorem dL_road_22 : decode cL_road 22 = .ok (.ireturn, 1) := by decide +kernel
theorem dL_road_23 : decode cL_road 23 = .ok (.astore 5, 2) := by decide +kernel
theorem dL_road_25 : decode cL_road 25 = .ok (.iconst 3, 1) := by decide +kernel
theorem dL_road_26 : decode cL_road 26 = .ok (.ireturn, 1) := by decide +kernel
theorem dL_road_27 : decode cL_road 27 = .ok (.iconst 0, 1) := by decide +kernel
theorem dL_road_28 : decode cL_road 28 = .ok (.ireturn, 1) := by decide +kernel
set_option maxRecDepth 20000 in
theorem ggL_setHeat_X4_setHeat : GoodIn wsL_setHeat wsX4_setHeat := goodIn_ca (goodIn_ca (goodIn_r _ [7, 8, 9, 10, 11, 12, 13, 14, 6, 15, 16, 17, 18, 19, 20, 21, 22, 23, 24] (by decide +kernel) (by decide +kernel)) (goodIn_sub (fun _ h => List.mem_cons_of_mem _ (List.mem_append_left _ (List.mem_append_right _ h))) (by decide +kernel))) (goodIn_sub (fun _ h => List.mem_cons_of_mem _ (List.mem_append_right _ h)) (by decide +kernel))
set_option maxRecDepth 20000 in
theorem gL_setHeat_X4_setHeat : GoodIn wsL_setHeat (wsV RL 22 RX4 yX4_setHeat wsX4_setHeat) := goodIn_app (goodIn_of _ (by decide +kernel)) ggL_setHeat_X4_setHeat
theorem dL_setHeat_0 : decode cL_setHeat 0 = .ok (.aload_n 3, 1) := by decide +kernel
theorem dL_setHeat_1 : decode cL_setHeat 1 = .ok (.iconst 0, 1) := by decide +kernel
theorem dL_setHeat_2 : decode cL_setHeat 2 = .ok (.aload_n 0, 1) := by decide +kernel
theorem dL_setHeat_3 : decode cL_setHeat 3 = .ok (.iload_n 1, 1) := by decide +kernel
theorem dL_setHeat_4 : decode cL_setHeat 4 = .ok (.iload_n 2, 1) := by decide +kernel
theorem dL_setHeat_5 : decode cL_setHeat 5 = .ok (.invokevirtual 22, 3) := by decide +kernel
theorem dL_setHeat_8 : decode cL_setHeat 8 = .ok (.i2l, 1) := by decide +kernel
theorem dL_setHeat_9 : decode cL_setHeat 9 = .ok (.lastore, 1) := by decide +kernel
theorem dL_setHeat_10 : decode cL_setHeat 10 = .ok (.goto 11, 3) := by decide +kernel
theorem dL_setHeat_13 : decode cL_setHeat 13 = .ok (.astore 4, 2) := by decide +kernel
theorem dL_setHeat_15 : decode cL_setHeat 15 = .ok (.iconst 1, 1) := by decide +kernel
theorem dL_setHeat_16 : decode cL_setHeat 16 = .ok (.ireturn, 1) := by decide +kernel
theorem dL_setHeat_17 : decode cL_setHeat 17 = .ok (.astore 4, 2) := by decide +kernel
theorem dL_setHeat_19 : decode cL_setHeat 19 = .ok (.iconst 2, 1) := by decide +kernel
theorem dL_setHeat_20 : decode cL_setHeat 20 = .ok (.ireturn, 1) := by decide +kernel
theorem dL_setHeat_21 : decode cL_setHeat 21 = .ok (.iconst 0, 1) := by decide +kernel
theorem dL_setHeat_22 : decode cL_setHeat 22 = .ok (.ireturn, 1) := by decide +kernel
set_option maxRecDepth 20000 in
theorem ggL_bloom_X4_bloom : GoodIn wsL_bloom wsX4_bloom := goodIn_ca (goodIn_ca (goodIn_r _ [7, 8, 9, 10, 11, 6, 12, 13, 14, 15, 16, 17, 18, 19, 20, 21, 22, 23, 24, 25, 26, 27, 28, 29, 30, 31, 32, 33, 34, 35, 36, 37, 38, 39, 40, 41, 42, 43, 44] (by decide +kernel) (by decide +kernel)) (goodIn_sub (fun _ h => List.mem_cons_of_mem _ (List.mem_append_left _ (List.mem_append_right _ h))) (by decide +kernel))) (goodIn_sub (fun _ h => List.mem_cons_of_mem _ (List.mem_append_right _ h)) (by decide +kernel))
set_option maxRecDepth 20000 in
theorem gL_bloom_X4_bloom : GoodIn wsL_bloom (wsV RL 26 RX4 yX4_bloom wsX4_bloom) := goodIn_app (goodIn_of _ (by decide +kernel)) ggL_bloom_X4_bloom
theorem dL_bloom_0 : decode cL_bloom 0 = .ok (.aload_n 3, 1) := by decide +kernel
theorem dL_bloom_1 : decode cL_bloom 1 = .ok (.iconst 0, 1) := by decide +kernel
theorem dL_bloom_2 : decode cL_bloom 2 = .ok (.aload_n 0, 1) := by decide +kernel
theorem dL_bloom_3 : decode cL_bloom 3 = .ok (.iload_n 1, 1) := by decide +kernel
theorem dL_bloom_4 : decode cL_bloom 4 = .ok (.iload_n 2, 1) := by decide +kernel
theorem dL_bloom_5 : decode cL_bloom 5 = .ok (.invokevirtual 26, 3) := by decide +kernel
theorem dL_bloom_8 : decode cL_bloom 8 = .ok (.i2l, 1) := by decide +kernel
theorem dL_bloom_9 : decode cL_bloom 9 = .ok (.lastore, 1) := by decide +kernel
theorem dL_bloom_10 : decode cL_bloom 10 = .ok (.goto 11, 3) := by decide +kernel
theorem dL_bloom_13 : decode cL_bloom 13 = .ok (.astore 4, 2) := by decide +kernel
theorem dL_bloom_15 : decode cL_bloom 15 = .ok (.iconst 1, 1) := by decide +kernel
theorem dL_bloom_16 : decode cL_bloom 16 = .ok (.ireturn, 1) := by decide +kernel
theorem dL_bloom_17 : decode cL_bloom 17 = .ok (.astore 4, 2) := by decide +kernel
theorem dL_bloom_19 : decode cL_bloom 19 = .ok (.iconst 2, 1) := by decide +kernel
theorem dL_bloom_20 : decode cL_bloom 20 = .ok (.ireturn, 1) := by decide +kernel
theorem dL_bloom_21 : decode cL_bloom 21 = .ok (.iconst 0, 1) := by decide +kernel
theorem dL_bloom_22 : decode cL_bloom 22 = .ok (.ireturn, 1) := by decide +kernel
set_option maxRecDepth 20000 in
theorem ggL_way_X4_way : GoodIn wsL_way wsX4_way := goodIn_ca (goodIn_r _ [6, 7, 8, 9, 10, 5, 11, 12, 13, 14, 15, 16, 17, 18, 19, 20, 21, 22, 23, 24, 25, 26, 27, 28, 29, 30, 31, 32, 33, 34, 35, 36] (by decide +kernel) (by decide +kernel)) (goodIn_sub (fun _ h => List.mem_cons_of_mem _ (List.mem_append_right _ h)) (by decide +kernel))
set_option maxRecDepth 20000 in
theorem gL_way_X4_way : GoodIn wsL_way (wsV RL 29 RX4 yX4_way wsX4_way) := goodIn_app (goodIn_of _ (by decide +kernel)) ggL_way_X4_way
theorem dL_way_0 : decode cL_way 0 = .ok (.aload_n 3, 1) := by decide +kernel
theorem dL_way_1 : decode cL_way 1 = .ok (.iconst 0, 1) := by decide +kernel
theorem dL_way_2 : decode cL_way 2 = .ok (.aload_n 0, 1) := by decide +kernel
theorem dL_way_3 : decode cL_way 3 = .ok (.iload_n 1, 1) := by decide +kernel
theorem dL_way_4 : decode cL_way 4 = .ok (.iload_n 2, 1) := by decide +kernel
theorem dL_way_5 : decode cL_way 5 = .ok (.invokevirtual 29, 3) := by decide +kernel
theorem dL_way_8 : decode cL_way 8 = .ok (.i2l, 1) := by decide +kernel
theorem dL_way_9 : decode cL_way 9 = .ok (.lastore, 1) := by decide +kernel
theorem dL_way_10 : decode cL_way 10 = .ok (.goto 7, 3) := by decide +kernel
theorem dL_way_13 : decode cL_way 13 = .ok (.astore 4, 2) := by decide +kernel
theorem dL_way_15 : decode cL_way 15 = .ok (.iconst 1, 1) := by decide +kernel
theorem dL_way_16 : decode cL_way 16 = .ok (.ireturn, 1) := by decide +kernel
theorem dL_way_17 : decode cL_way 17 = .ok (.iconst 0, 1) := by decide +kernel
theorem dL_way_18 : decode cL_way 18 = .ok (.ireturn, 1) := by decide +kernel
set_option maxRecDepth 20000 in
theorem ggL_tour_X4_tour : GoodIn wsL_tour wsX4_tour := goodIn_ca (goodIn_ca (goodIn_r _ [7, 8, 9, 10, 11, 12, 13, 14, 15, 6, 16, 17, 18, 19, 20, 21, 22, 23, 24, 25, 26, 27, 28, 29] (by decide +kernel) (by decide +kernel)) (goodIn_sub (fun _ h => List.mem_cons_of_mem _ (List.mem_append_left _ (List.mem_append_right _ h))) (by decide +kernel))) (goodIn_sub (fun _ h => List.mem_cons_of_mem _ (List.mem_append_right _ h)) (by decide +kernel))
set_option maxRecDepth 20000 in
theorem gL_tour_X4_tour : GoodIn wsL_tour (wsV RL 32 RX4 yX4_tour wsX4_tour) := goodIn_app (goodIn_of _ (by decide +kernel)) ggL_tour_X4_tour
theorem dL_tour_0 : decode cL_tour 0 = .ok (.aload_n 2, 1) := by decide +kernel
theorem dL_tour_1 : decode cL_tour 1 = .ok (.iconst 0, 1) := by decide +kernel
theorem dL_tour_2 : decode cL_tour 2 = .ok (.aload_n 0, 1) := by decide +kernel
theorem dL_tour_3 : decode cL_tour 3 = .ok (.iload_n 1, 1) := by decide +kernel
theorem dL_tour_4 : decode cL_tour 4 = .ok (.invokevirtual 32, 3) := by decide +kernel
theorem dL_tour_7 : decode cL_tour 7 = .ok (.i2l, 1) := by decide +kernel
theorem dL_tour_8 : decode cL_tour 8 = .ok (.lastore, 1) := by decide +kernel
theorem dL_tour_9 : decode cL_tour 9 = .ok (.goto 9, 3) := by decide +kernel
theorem dL_tour_12 : decode cL_tour 12 = .ok (.astore_n 3, 1) := by decide +kernel
theorem dL_tour_13 : decode cL_tour 13 = .ok (.iconst 1, 1) := by decide +kernel
theorem dL_tour_14 : decode cL_tour 14 = .ok (.ireturn, 1) := by decide +kernel
theorem dL_tour_15 : decode cL_tour 15 = .ok (.astore_n 3, 1) := by decide +kernel
theorem dL_tour_16 : decode cL_tour 16 = .ok (.iconst 2, 1) := by decide +kernel
theorem dL_tour_17 : decode cL_tour 17 = .ok (.ireturn, 1) := by decide +kernel
theorem dL_tour_18 : decode cL_tour 18 = .ok (.iconst 0, 1) := by decide +kernel
theorem dL_tour_19 : decode cL_tour 19 = .ok (.ireturn, 1) := by decide +kernel
set_option maxRecDepth 20000 in
theorem ggL_add_X4_add : GoodIn wsL_add wsX4_add := goodIn_ca (goodIn_ca (goodIn_r _ [7, 8, 9, 10, 11, 12, 13, 6, 14, 15, 16, 17, 18, 19, 20, 21, 22, 23, 24, 25, 26, 27, 28, 29, 30, 31, 32, 33, 34, 35, 36, 37, 38, 39, 40, 41, 42, 43, 44, 45, 46, 47, 48, 49, 50, 51, 52, 53, 54, 55, 56, 57, 58, 59, 60, 61, 62, 63, 64, 65, 66, 67, 68, 69, 70, 71, 72, 73, 74, 75, 76, 77, 78, 79, 80, 81, 82, 83] (by decide +kernel) (by decide +kernel)) (goodIn_sub (fun _ h => List.mem_cons_of_mem _ (List.mem_append_left _ (List.mem_append_right _ h))) (by decide +kernel))) (goodIn_sub (fun _ h => List.mem_cons_of_mem _ (List.mem_append_right _ h)) (by decide +kernel))
set_option maxRecDepth 20000 in
theorem gL_add_X4_add : GoodIn wsL_add (wsV RL 36 RX4 yX4_add wsX4_add) := goodIn_app (goodIn_of _ (by decide +kernel)) ggL_add_X4_add
theorem dL_add_0 : decode cL_add 0 = .ok (.aload_n 3, 1) := by decide +kernel
theorem dL_add_1 : decode cL_add 1 = .ok (.iconst 0, 1) := by decide +kernel
theorem dL_add_2 : decode cL_add 2 = .ok (.aload_n 0, 1) := by decide +kernel
theorem dL_add_3 : decode cL_add 3 = .ok (.iload_n 1, 1) := by decide +kernel
theorem dL_add_4 : decode cL_add 4 = .ok (.iload_n 2, 1) := by decide +kernel
theorem dL_add_5 : decode cL_add 5 = .ok (.invokevirtual 36, 3) := by decide +kernel
theorem dL_add_8 : decode cL_add 8 = .ok (.i2l, 1) := by decide +kernel
theorem dL_add_9 : decode cL_add 9 = .ok (.lastore, 1) := by decide +kernel
theorem dL_add_10 : decode cL_add 10 = .ok (.goto 11, 3) := by decide +kernel
theorem dL_add_13 : decode cL_add 13 = .ok (.astore 4, 2) := by decide +kernel
theorem dL_add_15 : decode cL_add 15 = .ok (.iconst 1, 1) := by decide +kernel
theorem dL_add_16 : decode cL_add 16 = .ok (.ireturn, 1) := by decide +kernel
theorem dL_add_17 : decode cL_add 17 = .ok (.astore 4, 2) := by decide +kernel
theorem dL_add_19 : decode cL_add 19 = .ok (.iconst 2, 1) := by decide +kernel
theorem dL_add_20 : decode cL_add 20 = .ok (.ireturn, 1) := by decide +kernel
theorem dL_add_21 : decode cL_add 21 = .ok (.iconst 0, 1) := by decide +kernel
theorem dL_add_22 : decode cL_add 22 = .ok (.ireturn, 1) := by decide +kernel
set_option maxRecDepth 20000 in
theorem ggL_cut_X4_cut : GoodIn wsL_cut wsX4_cut := goodIn_ca (goodIn_ca (goodIn_r _ [7, 8, 9, 10, 11, 12, 13, 6, 14, 15, 16, 17, 18, 19, 20, 21, 22, 23, 24, 25, 26, 27, 28, 29, 30, 31, 32, 33, 34, 35, 36, 37, 38, 39, 40, 41, 42, 43, 44, 45, 46, 47, 48, 49, 50, 51, 52, 53, 54, 55, 56, 57, 58, 59, 60, 61, 62, 63, 64, 65, 66, 67, 68, 69, 70, 71, 72, 73, 74, 75] (by decide +kernel) (by decide +kernel)) (goodIn_sub (fun _ h => List.mem_cons_of_mem _ (List.mem_append_left _ (List.mem_append_right _ h))) (by decide +kernel))) (goodIn_sub (fun _ h => List.mem_cons_of_mem _ (List.mem_append_right _ h)) (by decide +kernel))
set_option maxRecDepth 20000 in
theorem gL_cut_X4_cut : GoodIn wsL_cut (wsV RL 39 RX4 yX4_cut wsX4_cut) := goodIn_app (goodIn_of _ (by decide +kernel)) ggL_cut_X4_cut
theorem dL_cut_0 : decode cL_cut 0 = .ok (.aload_n 2, 1) := by decide +kernel
theorem dL_cut_1 : decode cL_cut 1 = .ok (.iconst 0, 1) := by decide +kernel
theorem dL_cut_2 : decode cL_cut 2 = .ok (.aload_n 0, 1) := by decide +kernel
theorem dL_cut_3 : decode cL_cut 3 = .ok (.iload_n 1, 1) := by decide +kernel
theorem dL_cut_4 : decode cL_cut 4 = .ok (.invokevirtual 39, 3) := by decide +kernel
theorem dL_cut_7 : decode cL_cut 7 = .ok (.i2l, 1) := by decide +kernel
theorem dL_cut_8 : decode cL_cut 8 = .ok (.lastore, 1) := by decide +kernel
theorem dL_cut_9 : decode cL_cut 9 = .ok (.goto 9, 3) := by decide +kernel
theorem dL_cut_12 : decode cL_cut 12 = .ok (.astore_n 3, 1) := by decide +kernel
theorem dL_cut_13 : decode cL_cut 13 = .ok (.iconst 1, 1) := by decide +kernel
theorem dL_cut_14 : decode cL_cut 14 = .ok (.ireturn, 1) := by decide +kernel
theorem dL_cut_15 : decode cL_cut 15 = .ok (.astore_n 3, 1) := by decide +kernel
theorem dL_cut_16 : decode cL_cut 16 = .ok (.iconst 2, 1) := by decide +kernel
theorem dL_cut_17 : decode cL_cut 17 = .ok (.ireturn, 1) := by decide +kernel
theorem dL_cut_18 : decode cL_cut 18 = .ok (.iconst 0, 1) := by decide +kernel
theorem dL_cut_19 : decode cL_cut 19 = .ok (.ireturn, 1) := by decide +kernel
set_option maxRecDepth 20000 in
theorem ggL_told_X4_told : GoodIn wsL_told wsX4_told := goodIn_ca (goodIn_r _ [6, 7, 8, 9, 10, 11, 12, 13, 5, 14, 15, 16, 17, 18, 19, 20, 21, 22, 23, 24, 25, 26, 27, 28, 29, 30, 31, 32, 33, 34, 35, 36, 37, 38, 39, 40, 41, 42, 43, 44, 45, 46, 47, 48, 49, 50, 51, 52, 53, 54, 55, 56, 57, 58, 59, 60, 61, 62, 63, 64, 65, 66, 67, 68] (by decide +kernel) (by decide +kernel)) (goodIn_sub (fun _ h => List.mem_cons_of_mem _ (List.mem_append_right _ h)) (by decide +kernel))
set_option maxRecDepth 20000 in
theorem gL_told_X4_told : GoodIn wsL_told (wsV RL 42 RX4 yX4_told wsX4_told) := goodIn_app (goodIn_of _ (by decide +kernel)) ggL_told_X4_told
theorem dL_told_0 : decode cL_told 0 = .ok (.aload_n 3, 1) := by decide +kernel
theorem dL_told_1 : decode cL_told 1 = .ok (.iconst 0, 1) := by decide +kernel
theorem dL_told_2 : decode cL_told 2 = .ok (.aload_n 0, 1) := by decide +kernel
theorem dL_told_3 : decode cL_told 3 = .ok (.iload_n 1, 1) := by decide +kernel
theorem dL_told_4 : decode cL_told 4 = .ok (.iload_n 2, 1) := by decide +kernel
theorem dL_told_5 : decode cL_told 5 = .ok (.invokevirtual 42, 3) := by decide +kernel
theorem dL_told_8 : decode cL_told 8 = .ok (.i2l, 1) := by decide +kernel
theorem dL_told_9 : decode cL_told 9 = .ok (.lastore, 1) := by decide +kernel
theorem dL_told_10 : decode cL_told 10 = .ok (.goto 7, 3) := by decide +kernel
theorem dL_told_13 : decode cL_told 13 = .ok (.astore 4, 2) := by decide +kernel
theorem dL_told_15 : decode cL_told 15 = .ok (.iconst 1, 1) := by decide +kernel
theorem dL_told_16 : decode cL_told 16 = .ok (.ireturn, 1) := by decide +kernel
theorem dL_told_17 : decode cL_told 17 = .ok (.iconst 0, 1) := by decide +kernel
theorem dL_told_18 : decode cL_told 18 = .ok (.ireturn, 1) := by decide +kernel
set_option maxRecDepth 20000 in
theorem ggL_about_X4_about : GoodIn wsL_about wsX4_about := goodIn_ca (goodIn_r _ [6, 7, 8, 9, 10, 11, 12, 13, 5, 14, 15, 16, 17, 18, 19, 20, 21, 22, 23, 24, 25, 26, 27, 28, 29, 30, 31, 32, 33, 34, 35, 36, 37, 38, 39] (by decide +kernel) (by decide +kernel)) (goodIn_sub (fun _ h => List.mem_cons_of_mem _ (List.mem_append_right _ h)) (by decide +kernel))
set_option maxRecDepth 20000 in
theorem gL_about_X4_about : GoodIn wsL_about (wsV RL 45 RX4 yX4_about wsX4_about) := goodIn_app (goodIn_of _ (by decide +kernel)) ggL_about_X4_about
theorem dL_about_0 : decode cL_about 0 = .ok (.aload_n 3, 1) := by decide +kernel
theorem dL_about_1 : decode cL_about 1 = .ok (.iconst 0, 1) := by decide +kernel
theorem dL_about_2 : decode cL_about 2 = .ok (.aload_n 0, 1) := by decide +kernel
theorem dL_about_3 : decode cL_about 3 = .ok (.iload_n 1, 1) := by decide +kernel
theorem dL_about_4 : decode cL_about 4 = .ok (.iload_n 2, 1) := by decide +kernel
theorem dL_about_5 : decode cL_about 5 = .ok (.invokevirtual 45, 3) := by decide +kernel
theorem dL_about_8 : decode cL_about 8 = .ok (.i2l, 1) := by decide +kernel
theorem dL_about_9 : decode cL_about 9 = .ok (.lastore, 1) := by decide +kernel
theorem dL_about_10 : decode cL_about 10 = .ok (.goto 7, 3) := by decide +kernel
theorem dL_about_13 : decode cL_about 13 = .ok (.astore 4, 2) := by decide +kernel
theorem dL_about_15 : decode cL_about 15 = .ok (.iconst 1, 1) := by decide +kernel
theorem dL_about_16 : decode cL_about 16 = .ok (.ireturn, 1) := by decide +kernel
theorem dL_about_17 : decode cL_about 17 = .ok (.iconst 0, 1) := by decide +kernel
theorem dL_about_18 : decode cL_about 18 = .ok (.ireturn, 1) := by decide +kernel
set_option maxRecDepth 20000 in
theorem ggL_count_X4_count : GoodIn wsL_count wsX4_count := goodIn_ca (goodIn_r _ [6, 7, 8, 9, 10, 11, 12, 13, 14, 15, 16, 5, 17, 18, 19, 20, 21, 22, 23, 24, 25, 26, 27, 28, 29, 30, 31, 32, 33, 34, 35, 36, 37, 38, 39, 40, 41, 42, 43, 44, 45, 46, 47, 48, 49, 50, 51, 52, 53, 54, 55, 56, 57, 58, 59, 60, 61, 62, 63, 64] (by decide +kernel) (by decide +kernel)) (goodIn_sub (fun _ h => List.mem_cons_of_mem _ (List.mem_append_right _ h)) (by decide +kernel))
set_option maxRecDepth 20000 in
theorem gL_count_X4_count : GoodIn wsL_count (wsV RL 48 RX4 yX4_count wsX4_count) := goodIn_app (goodIn_of _ (by decide +kernel)) ggL_count_X4_count
theorem dL_count_0 : decode cL_count 0 = .ok (.aload_n 2, 1) := by decide +kernel
theorem dL_count_1 : decode cL_count 1 = .ok (.iconst 0, 1) := by decide +kernel
theorem dL_count_2 : decode cL_count 2 = .ok (.aload_n 0, 1) := by decide +kernel
theorem dL_count_3 : decode cL_count 3 = .ok (.iload_n 1, 1) := by decide +kernel
theorem dL_count_4 : decode cL_count 4 = .ok (.invokevirtual 48, 3) := by decide +kernel
theorem dL_count_7 : decode cL_count 7 = .ok (.i2l, 1) := by decide +kernel
theorem dL_count_8 : decode cL_count 8 = .ok (.lastore, 1) := by decide +kernel
theorem dL_count_9 : decode cL_count 9 = .ok (.goto 6, 3) := by decide +kernel
theorem dL_count_12 : decode cL_count 12 = .ok (.astore_n 3, 1) := by decide +kernel
theorem dL_count_13 : decode cL_count 13 = .ok (.iconst 1, 1) := by decide +kernel
theorem dL_count_14 : decode cL_count 14 = .ok (.ireturn, 1) := by decide +kernel
theorem dL_count_15 : decode cL_count 15 = .ok (.iconst 0, 1) := by decide +kernel
theorem dL_count_16 : decode cL_count 16 = .ok (.ireturn, 1) := by decide +kernel
set_option maxRecDepth 20000 in
theorem ggL_pass_X4_pass : GoodIn wsL_pass wsX4_pass := goodIn_ca (goodIn_r _ [6, 7, 8, 9, 10, 5, 11, 12, 13, 14, 15, 16, 17, 18, 19, 20, 21, 22, 23, 24, 25, 26, 27, 28, 29, 30, 31, 32, 33, 34, 35, 36, 37, 38, 39, 40, 41, 42, 43, 44, 45, 46, 47, 48, 49, 50, 51, 52, 53, 54, 55, 56, 57, 58, 59, 60, 61, 62, 63, 64, 65, 66, 67, 68, 69, 70, 71, 72, 73, 74, 75, 76, 77, 78, 79, 80, 81, 82, 83, 84, 85] (by decide +kernel) (by decide +kernel)) (goodIn_sub (fun _ h => List.mem_cons_of_mem _ (List.mem_append_right _ h)) (by decide +kernel))
set_option maxRecDepth 20000 in
theorem gL_pass_X4_pass : GoodIn wsL_pass (wsV RL 51 RX4 yX4_pass wsX4_pass) := goodIn_app (goodIn_of _ (by decide +kernel)) ggL_pass_X4_pass
theorem dL_pass_0 : decode cL_pass 0 = .ok (.aload_n 2, 1) := by decide +kernel
theorem dL_pass_1 : decode cL_pass 1 = .ok (.iconst 0, 1) := by decide +kernel
theorem dL_pass_2 : decode cL_pass 2 = .ok (.aload_n 0, 1) := by decide +kernel
theorem dL_pass_3 : decode cL_pass 3 = .ok (.iload_n 1, 1) := by decide +kernel
theorem dL_pass_4 : decode cL_pass 4 = .ok (.invokevirtual 51, 3) := by decide +kernel
theorem dL_pass_7 : decode cL_pass 7 = .ok (.i2l, 1) := by decide +kernel
theorem dL_pass_8 : decode cL_pass 8 = .ok (.lastore, 1) := by decide +kernel
theorem dL_pass_9 : decode cL_pass 9 = .ok (.goto 6, 3) := by decide +kernel
theorem dL_pass_12 : decode cL_pass 12 = .ok (.astore_n 3, 1) := by decide +kernel
theorem dL_pass_13 : decode cL_pass 13 = .ok (.iconst 1, 1) := by decide +kernel
theorem dL_pass_14 : decode cL_pass 14 = .ok (.ireturn, 1) := by decide +kernel
theorem dL_pass_15 : decode cL_pass 15 = .ok (.iconst 0, 1) := by decide +kernel
theorem dL_pass_16 : decode cL_pass 16 = .ok (.ireturn, 1) := by decide +kernel
set_option maxRecDepth 20000 in
theorem ggL_joy_X4_joy : GoodIn wsL_joy wsX4_joy := goodIn_ca (goodIn_ca (goodIn_r _ [7, 8, 9, 10, 11, 6, 12, 13, 14, 15, 16, 17, 18, 19, 20, 21, 22, 23, 24, 25, 26, 27, 28, 29, 30, 31, 32, 33, 34, 35, 36, 37, 38, 39, 40, 41, 42, 43, 44, 45, 46, 47, 48, 49, 50, 51, 52, 53, 54, 55, 56, 57, 58, 59, 60, 61, 62, 63, 64, 65, 66, 67, 68, 69] (by decide +kernel) (by decide +kernel)) (goodIn_sub (fun _ h => List.mem_cons_of_mem _ (List.mem_append_left _ (List.mem_append_right _ h))) (by decide +kernel))) (goodIn_sub (fun _ h => List.mem_cons_of_mem _ (List.mem_append_right _ h)) (by decide +kernel))
set_option maxRecDepth 20000 in
theorem gL_joy_X4_joy : GoodIn wsL_joy (wsV RL 54 RX4 yX4_joy wsX4_joy) := goodIn_app (goodIn_of _ (by decide +kernel)) ggL_joy_X4_joy
theorem dL_joy_0 : decode cL_joy 0 = .ok (.aload_n 3, 1) := by decide +kernel
theorem dL_joy_1 : decode cL_joy 1 = .ok (.iconst 0, 1) := by decide +kernel
theorem dL_joy_2 : decode cL_joy 2 = .ok (.aload_n 0, 1) := by decide +kernel
theorem dL_joy_3 : decode cL_joy 3 = .ok (.iload_n 1, 1) := by decide +kernel
theorem dL_joy_4 : decode cL_joy 4 = .ok (.iload_n 2, 1) := by decide +kernel
theorem dL_joy_5 : decode cL_joy 5 = .ok (.invokevirtual 54, 3) := by decide +kernel
theorem dL_joy_8 : decode cL_joy 8 = .ok (.i2l, 1) := by decide +kernel
theorem dL_joy_9 : decode cL_joy 9 = .ok (.lastore, 1) := by decide +kernel
theorem dL_joy_10 : decode cL_joy 10 = .ok (.goto 11, 3) := by decide +kernel
theorem dL_joy_13 : decode cL_joy 13 = .ok (.astore 4, 2) := by decide +kernel
theorem dL_joy_15 : decode cL_joy 15 = .ok (.iconst 1, 1) := by decide +kernel
theorem dL_joy_16 : decode cL_joy 16 = .ok (.ireturn, 1) := by decide +kernel
theorem dL_joy_17 : decode cL_joy 17 = .ok (.astore 4, 2) := by decide +kernel
theorem dL_joy_19 : decode cL_joy 19 = .ok (.iconst 2, 1) := by decide +kernel
theorem dL_joy_20 : decode cL_joy 20 = .ok (.ireturn, 1) := by decide +kernel
theorem dL_joy_21 : decode cL_joy 21 = .ok (.iconst 0, 1) := by decide +kernel
theorem dL_joy_22 : decode cL_joy 22 = .ok (.ireturn, 1) := by decide +kernel
set_option maxRecDepth 20000 in
theorem ggL_best_X4_best : GoodIn wsL_best wsX4_best := goodIn_ca (goodIn_r _ [6, 7, 8, 9, 10, 11, 5, 12, 13, 14, 15, 16, 17, 18, 19, 20, 21, 22, 23, 24, 25, 26, 27, 28, 29, 30, 31, 32, 33, 34, 35, 36, 37, 38, 39, 40, 41, 42, 43, 44, 45, 46, 47, 48, 49, 50, 51, 52, 53, 54, 55, 56, 57, 58, 59, 60, 61, 62, 63, 64] (by decide +kernel) (by decide +kernel)) (goodIn_sub (fun _ h => List.mem_cons_of_mem _ (List.mem_append_right _ h)) (by decide +kernel))
set_option maxRecDepth 20000 in
theorem gL_best_X4_best : GoodIn wsL_best (wsV RL 57 RX4 yX4_best wsX4_best) := goodIn_app (goodIn_of _ (by decide +kernel)) ggL_best_X4_best
theorem dL_best_0 : decode cL_best 0 = .ok (.aload_n 2, 1) := by decide +kernel
theorem dL_best_1 : decode cL_best 1 = .ok (.iconst 0, 1) := by decide +kernel
theorem dL_best_2 : decode cL_best 2 = .ok (.aload_n 0, 1) := by decide +kernel
theorem dL_best_3 : decode cL_best 3 = .ok (.iload_n 1, 1) := by decide +kernel
theorem dL_best_4 : decode cL_best 4 = .ok (.invokevirtual 57, 3) := by decide +kernel
theorem dL_best_7 : decode cL_best 7 = .ok (.i2l, 1) := by decide +kernel
theorem dL_best_8 : decode cL_best 8 = .ok (.lastore, 1) := by decide +kernel
theorem dL_best_9 : decode cL_best 9 = .ok (.goto 6, 3) := by decide +kernel
theorem dL_best_12 : decode cL_best 12 = .ok (.astore_n 3, 1) := by decide +kernel
theorem dL_best_13 : decode cL_best 13 = .ok (.iconst 1, 1) := by decide +kernel
theorem dL_best_14 : decode cL_best 14 = .ok (.ireturn, 1) := by decide +kernel
theorem dL_best_15 : decode cL_best 15 = .ok (.iconst 0, 1) := by decide +kernel
theorem dL_best_16 : decode cL_best 16 = .ok (.ireturn, 1) := by decide +kernel
set_option maxRecDepth 20000 in
theorem ggL_advise_X4_advise : GoodIn wsL_advise wsX4_advise := goodIn_ca (goodIn_r _ [6, 7, 8, 9, 10, 11, 12, 5, 13, 14, 15, 16, 17, 18, 19, 20, 21, 22, 23, 24, 25, 26, 27, 28, 29, 30, 31, 32, 33, 34, 35, 36, 37, 38, 39, 40, 41, 42, 43, 44, 45, 46, 47, 48, 49, 50, 51, 52, 53, 54, 55, 56, 57, 58, 59, 60, 61, 62, 63, 64, 65, 66, 67, 68, 69, 70, 71, 72, 73, 74, 75, 76, 77, 78, 79, 80, 81, 82, 83, 84, 85, 86, 87, 88, 89, 90, 91, 92, 93, 94, 95, 96, 97, 98, 99, 100, 101] (by decide +kernel) (by decide +kernel)) (goodIn_sub (fun _ h => List.mem_cons_of_mem _ (List.mem_append_right _ h)) (by decide +kernel))
set_option maxRecDepth 20000 in
theorem gL_advise_X4_advise : GoodIn wsL_advise (wsV RL 60 RX4 yX4_advise wsX4_advise) := goodIn_app (goodIn_of _ (by decide +kernel)) ggL_advise_X4_advise
theorem dL_advise_0 : decode cL_advise 0 = .ok (.aload_n 2, 1) := by decide +kernel
theorem dL_advise_1 : decode cL_advise 1 = .ok (.iconst 0, 1) := by decide +kernel
theorem dL_advise_2 : decode cL_advise 2 = .ok (.aload_n 0, 1) := by decide +kernel
theorem dL_advise_3 : decode cL_advise 3 = .ok (.iload_n 1, 1) := by decide +kernel
theorem dL_advise_4 : decode cL_advise 4 = .ok (.invokevirtual 60, 3) := by decide +kernel
theorem dL_advise_7 : decode cL_advise 7 = .ok (.i2l, 1) := by decide +kernel
theorem dL_advise_8 : decode cL_advise 8 = .ok (.lastore, 1) := by decide +kernel
theorem dL_advise_9 : decode cL_advise 9 = .ok (.goto 6, 3) := by decide +kernel
theorem dL_advise_12 : decode cL_advise 12 = .ok (.astore_n 3, 1) := by decide +kernel
theorem dL_advise_13 : decode cL_advise 13 = .ok (.iconst 1, 1) := by decide +kernel
theorem dL_advise_14 : decode cL_advise 14 = .ok (.ireturn, 1) := by decide +kernel
theorem dL_advise_15 : decode cL_advise 15 = .ok (.iconst 0, 1) := by decide +kernel
theorem dL_advise_16 : decode cL_advise 16 = .ok (.ireturn, 1) := by decide +kernel
set_option maxRecDepth 20000 in
theorem ggL_foresee_X4_foresee : GoodIn wsL_foresee wsX4_foresee := goodIn_ca (goodIn_ca (goodIn_r _ [7, 8, 9, 10, 11, 12, 13, 14, 6, 15, 16, 17, 18, 19, 20, 21, 22, 23, 24, 25, 26, 27, 28, 29, 30, 31, 32, 33, 34, 35, 36, 37, 38, 39, 40, 41, 42, 43, 44, 45, 46, 47, 48, 49, 50, 51, 52, 53, 54, 55, 56, 57, 58, 59, 60, 61, 62, 63, 64, 65, 66, 67, 68, 69, 70, 71, 72, 73, 74, 75, 76, 77, 78, 79, 80, 81, 82, 83, 84, 85, 86, 87, 88, 89, 90, 91, 92, 93, 94, 95, 96, 97, 98, 99, 100] (by decide +kernel) (by decide +kernel)) (goodIn_sub (fun _ h => List.mem_cons_of_mem _ (List.mem_append_left _ (List.mem_append_right _ h))) (by decide +kernel))) (goodIn_sub (fun _ h => List.mem_cons_of_mem _ (List.mem_append_right _ h)) (by decide +kernel))
set_option maxRecDepth 20000 in
theorem gL_foresee_X4_foresee : GoodIn wsL_foresee (wsV RL 63 RX4 yX4_foresee wsX4_foresee) := goodIn_app (goodIn_of _ (by decide +kernel)) ggL_foresee_X4_foresee
theorem dL_foresee_0 : decode cL_foresee 0 = .ok (.aload_n 3, 1) := by decide +kernel
theorem dL_foresee_1 : decode cL_foresee 1 = .ok (.iconst 0, 1) := by decide +kernel
theorem dL_foresee_2 : decode cL_foresee 2 = .ok (.aload_n 0, 1) := by decide +kernel
theorem dL_foresee_3 : decode cL_foresee 3 = .ok (.iload_n 1, 1) := by decide +kernel
theorem dL_foresee_4 : decode cL_foresee 4 = .ok (.iload_n 2, 1) := by decide +kernel
theorem dL_foresee_5 : decode cL_foresee 5 = .ok (.invokevirtual 63, 3) := by decide +kernel
theorem dL_foresee_8 : decode cL_foresee 8 = .ok (.i2l, 1) := by decide +kernel
theorem dL_foresee_9 : decode cL_foresee 9 = .ok (.lastore, 1) := by decide +kernel
theorem dL_foresee_10 : decode cL_foresee 10 = .ok (.goto 11, 3) := by decide +kernel
theorem dL_foresee_13 : decode cL_foresee 13 = .ok (.astore 4, 2) := by decide +kernel
theorem dL_foresee_15 : decode cL_foresee 15 = .ok (.iconst 1, 1) := by decide +kernel
theorem dL_foresee_16 : decode cL_foresee 16 = .ok (.ireturn, 1) := by decide +kernel
theorem dL_foresee_17 : decode cL_foresee 17 = .ok (.astore 4, 2) := by decide +kernel
theorem dL_foresee_19 : decode cL_foresee 19 = .ok (.iconst 2, 1) := by decide +kernel
theorem dL_foresee_20 : decode cL_foresee 20 = .ok (.ireturn, 1) := by decide +kernel
theorem dL_foresee_21 : decode cL_foresee 21 = .ok (.iconst 0, 1) := by decide +kernel
theorem dL_foresee_22 : decode cL_foresee 22 = .ok (.ireturn, 1) := by decide +kernel
set_option maxRecDepth 20000 in
theorem ggL_law_X4_init : GoodIn wsL_law wsX4_init := goodIn_r _ [9, 10, 11, 12, 13, 14, 15, 16, 17, 18, 19, 20, 21, 22, 23, 24, 25, 26, 27, 28, 29, 30, 31, 32, 33, 34, 35, 36, 37, 38, 39, 40, 41, 42, 43, 44, 45, 46, 47, 474, 475, 476, 477, 478, 479, 480, 481, 482, 496, 497, 498, 499, 500, 501, 502, 503, 504, 505, 506, 507, 508, 509] (by decide +kernel) (by decide +kernel)
set_option maxRecDepth 20000 in
theorem gL_law_X4_init : GoodIn wsL_law (wsX4_init) := ggL_law_X4_init
set_option maxRecDepth 20000 in
theorem ggL_law_X5_init : GoodIn wsL_law wsX5_init := goodIn_r _ [50, 51, 11, 12, 17, 52, 53, 54, 55, 56, 57, 58, 59, 60, 483, 484, 485, 486, 487, 488, 489, 490, 491, 492, 493, 494, 495] (by decide +kernel) (by decide +kernel)
set_option maxRecDepth 20000 in
theorem gL_law_X5_init : GoodIn wsL_law (wsX5_init) := ggL_law_X5_init
set_option maxRecDepth 20000 in
theorem ggL_law_L_valley : GoodIn wsL_law wsL_valley := goodIn_ca (goodIn_ca (goodIn_r _ [64, 65, 66, 67, 68, 69, 2, 70, 71, 72, 73, 74, 75, 14, 76, 77, 78, 474, 475, 476, 477, 478, 479, 480, 481, 482, 501, 502, 503, 504, 505] (by decide +kernel) (by decide +kernel)) (goodIn_sub (fun _ h => List.mem_append_left _ (List.mem_append_left _ (List.mem_append_right _ h))) (by decide +kernel))) (goodIn_sub (fun _ h => List.mem_append_left _ (List.mem_append_right _ h)) (by decide +kernel))
set_option maxRecDepth 20000 in
theorem gL_law_L_valley : GoodIn wsL_law (va_wsS RL 70 yL_valley wsL_valley) := goodIn_app (goodIn_of _ (by decide +kernel)) ggL_law_L_valley
set_option maxRecDepth 20000 in
theorem ggL_law_X5_valley : GoodIn wsL_law wsX5_valley := goodIn_r _ [82, 83, 84, 52, 53, 54, 85, 86, 5, 87, 88, 89, 90, 91, 483, 484, 485, 486, 487, 488, 489, 490, 491, 492, 493, 494, 495] (by decide +kernel) (by decide +kernel)
set_option maxRecDepth 20000 in
theorem gL_law_X5_valley : GoodIn wsL_law (wsV RL 75 RX5 yX5_valley wsX5_valley) := goodIn_app (goodIn_of _ (by decide +kernel)) ggL_law_X5_valley
set_option maxRecDepth 20000 in
theorem ggL_law_X5_thrown : GoodIn wsL_law wsX5_thrown := goodIn_r _ [95, 83, 483, 484, 485, 486, 487, 488, 489, 490, 491, 492, 493, 494, 495] (by decide +kernel) (by decide +kernel)
set_option maxRecDepth 20000 in
theorem gL_law_X5_thrown : GoodIn wsL_law (wsV RL 76 RX5 yX5_thrown wsX5_thrown) := goodIn_app (goodIn_of _ (by decide +kernel)) ggL_law_X5_thrown
set_option maxRecDepth 20000 in
theorem ggL_law_L_road : GoodIn wsL_law wsL_road := goodIn_ca (goodIn_ca (goodIn_ca (goodIn_r _ [98, 99, 65, 66, 100, 101, 102, 2, 103, 71, 72, 73, 74, 22, 104, 105, 106, 107, 108, 109, 75, 76, 77, 78, 110, 21, 111, 112, 36, 113, 114, 115, 116, 117, 118, 119, 120, 121, 122, 123, 124, 14, 125, 16, 126, 31, 127, 128, 129, 47, 130, 131, 132, 133, 37, 134, 135, 136, 137, 138, 139, 140, 141, 142, 143, 474, 475, 476, 477, 478, 479, 480, 481, 482, 496, 497, 501, 502, 503, 504, 505, 506, 507, 508, 509] (by decide +kernel) (by decide +kernel)) (goodIn_sub (fun _ h => List.mem_append_left _ (List.mem_append_left _ (List.mem_append_right _ h))) (by decide +kernel))) (goodIn_sub (fun _ h => List.mem_append_left _ (List.mem_append_right _ h)) (by decide +kernel))) (goodIn_sub (fun _ h => List.mem_append_right _ h) (by decide +kernel))
set_option maxRecDepth 20000 in
theorem gL_law_L_road : GoodIn wsL_law (va_wsS RL 80 yL_road wsL_road) := goodIn_app (goodIn_of _ (by decide +kernel)) ggL_law_L_road
set_option maxRecDepth 20000 in
theorem ggL_law_X5_road : GoodIn wsL_law wsX5_road := goodIn_r _ [147, 83, 148, 149, 150, 151, 5, 152, 84, 85, 86, 87, 88, 89, 90, 91, 153, 154, 155, 156, 55, 483, 484, 485, 486, 487, 488, 489, 490, 491, 492, 493, 494, 495] (by decide +kernel) (by decide +kernel)
set_option maxRecDepth 20000 in
theorem gL_law_X5_road : GoodIn wsL_law (wsV RL 82 RX5 yX5_road wsX5_road) := goodIn_app (goodIn_of _ (by decide +kernel)) ggL_law_X5_road
set_option maxRecDepth 20000 in
theorem ggL_law_L_setHeat : GoodIn wsL_law wsL_setHeat := goodIn_ca (goodIn_ca (goodIn_r _ [159, 99, 65, 160, 161, 162, 2, 163, 108, 109, 71, 72, 18, 76, 77, 78, 474, 475, 476, 477, 478, 479, 480, 481, 482] (by decide +kernel) (by decide +kernel)) (goodIn_sub (fun _ h => List.mem_append_right _ h) (by decide +kernel))) (goodIn_sub (fun _ h => List.mem_append_left _ (List.mem_append_left _ (List.mem_append_right _ h))) (by decide +kernel))
set_option maxRecDepth 20000 in
theorem gL_law_L_setHeat : GoodIn wsL_law (va_wsS RL 83 yL_setHeat wsL_setHeat) := goodIn_app (goodIn_of _ (by decide +kernel)) ggL_law_L_setHeat
set_option maxRecDepth 20000 in
theorem ggL_law_X5_setHeat : GoodIn wsL_law wsX5_setHeat := goodIn_r _ [167, 83, 56, 85, 86, 5, 87, 88, 89, 90, 91, 483, 484, 485, 486, 487, 488, 489, 490, 491, 492, 493, 494, 495] (by decide +kernel) (by decide +kernel)
set_option maxRecDepth 20000 in
theorem gL_law_X5_setHeat : GoodIn wsL_law (wsV RL 86 RX5 yX5_setHeat wsX5_setHeat) := goodIn_app (goodIn_of _ (by decide +kernel)) ggL_law_X5_setHeat
set_option maxRecDepth 20000 in
theorem ggL_law_L_bloom : GoodIn wsL_law wsL_bloom := goodIn_ca (goodIn_ca (goodIn_r _ [170, 99, 65, 171, 172, 173, 2, 174, 14, 104, 105, 106, 107, 108, 109, 75, 175, 176, 177, 71, 72, 178, 29, 179, 180, 181, 182, 183, 114, 115, 116, 474, 475, 476, 477, 478, 479, 480, 481, 482, 501, 502, 503, 504, 505] (by decide +kernel) (by decide +kernel)) (goodIn_sub (fun _ h => List.mem_append_right _ h) (by decide +kernel))) (goodIn_sub (fun _ h => List.mem_append_left _ (List.mem_append_left _ (List.mem_append_right _ h))) (by decide +kernel))
set_option maxRecDepth 20000 in
theorem gL_law_L_bloom : GoodIn wsL_law (va_wsS RL 87 yL_bloom wsL_bloom) := goodIn_app (goodIn_of _ (by decide +kernel)) ggL_law_L_bloom
set_option maxRecDepth 20000 in
theorem ggL_law_X5_bloom : GoodIn wsL_law wsX5_bloom := goodIn_r _ [187, 83, 149, 150, 151, 5, 152, 84, 85, 86, 87, 88, 89, 90, 91, 188, 189, 190, 191, 52, 53, 192, 114, 115, 116, 483, 484, 485, 486, 487, 488, 489, 490, 491, 492, 493, 494, 495] (by decide +kernel) (by decide +kernel)
set_option maxRecDepth 20000 in
theorem gL_law_X5_bloom : GoodIn wsL_law (wsV RL 89 RX5 yX5_bloom wsX5_bloom) := goodIn_app (goodIn_of _ (by decide +kernel)) ggL_law_X5_bloom
set_option maxRecDepth 20000 in
theorem ggL_law_L_way : GoodIn wsL_law wsL_way := goodIn_ca (goodIn_r _ [195, 99, 196, 197, 198, 2, 199, 22, 104, 105, 106, 107, 108, 109, 75, 131, 21, 132, 133, 36, 37, 118, 119, 120, 77, 78, 474, 475, 476, 477, 478, 479, 480, 481, 482, 496, 497] (by decide +kernel) (by decide +kernel)) (goodIn_sub (fun _ h => List.mem_append_right _ h) (by decide +kernel))
set_option maxRecDepth 20000 in
theorem gL_law_L_way : GoodIn wsL_law (va_wsS RL 90 yL_way wsL_way) := goodIn_app (goodIn_of _ (by decide +kernel)) ggL_law_L_way
set_option maxRecDepth 20000 in
theorem ggL_law_X5_way : GoodIn wsL_law wsX5_way := goodIn_r _ [203, 83, 55, 149, 150, 151, 5, 152, 84, 85, 86, 87, 88, 89, 90, 91, 483, 484, 485, 486, 487, 488, 489, 490, 491, 492, 493, 494, 495] (by decide +kernel) (by decide +kernel)
set_option maxRecDepth 20000 in
theorem gL_law_X5_way : GoodIn wsL_law (wsV RL 92 RX5 yX5_way wsX5_way) := goodIn_app (goodIn_of _ (by decide +kernel)) ggL_law_X5_way
set_option maxRecDepth 20000 in
theorem ggL_law_L_tour : GoodIn wsL_law wsL_tour := goodIn_ca (goodIn_ca (goodIn_r _ [206, 65, 66, 207, 208, 209, 2, 210, 71, 72, 73, 74, 125, 16, 76, 77, 78, 474, 475, 476, 477, 478, 479, 480, 481, 482, 506, 507, 508, 509] (by decide +kernel) (by decide +kernel)) (goodIn_sub (fun _ h => List.mem_append_left _ (List.mem_append_left _ (List.mem_append_right _ h))) (by decide +kernel))) (goodIn_sub (fun _ h => List.mem_append_left _ (List.mem_append_right _ h)) (by decide +kernel))
set_option maxRecDepth 20000 in
theorem gL_law_L_tour : GoodIn wsL_law (va_wsS RL 93 yL_tour wsL_tour) := goodIn_app (goodIn_of _ (by decide +kernel)) ggL_law_L_tour
set_option maxRecDepth 20000 in
theorem ggL_law_X5_tour : GoodIn wsL_law wsX5_tour := goodIn_r _ [214, 83, 215, 57, 85, 86, 5, 87, 88, 89, 90, 91, 483, 484, 485, 486, 487, 488, 489, 490, 491, 492, 493, 494, 495] (by decide +kernel) (by decide +kernel)
set_option maxRecDepth 20000 in
theorem gL_law_X5_tour : GoodIn wsL_law (wsV RL 96 RX5 yX5_tour wsX5_tour) := goodIn_app (goodIn_of _ (by decide +kernel)) ggL_law_X5_tour
set_option maxRecDepth 20000 in
theorem ggL_law_L_add : GoodIn wsL_law wsL_add := goodIn_ca (goodIn_ca (goodIn_r _ [218, 99, 66, 219, 220, 221, 2, 222, 73, 74, 16, 223, 224, 225, 226, 108, 109, 125, 104, 105, 106, 107, 75, 227, 31, 228, 229, 129, 47, 141, 142, 143, 230, 231, 232, 233, 121, 122, 123, 124, 14, 22, 126, 127, 128, 130, 131, 21, 132, 133, 36, 37, 118, 119, 120, 77, 78, 134, 135, 136, 137, 138, 139, 140, 474, 475, 476, 477, 478, 479, 480, 481, 482, 506, 507, 508, 509, 501, 502, 503, 504, 505, 496, 497] (by decide +kernel) (by decide +kernel)) (goodIn_sub (fun _ h => List.mem_append_left _ (List.mem_append_right _ h)) (by decide +kernel))) (goodIn_sub (fun _ h => List.mem_append_right _ h) (by decide +kernel))
set_option maxRecDepth 20000 in
theorem gL_law_L_add : GoodIn wsL_law (va_wsS RL 97 yL_add wsL_add) := goodIn_app (goodIn_of _ (by decide +kernel)) ggL_law_L_add
set_option maxRecDepth 20000 in
theorem ggL_law_X5_add : GoodIn wsL_law wsX5_add := goodIn_r _ [237, 83, 58, 59, 238, 239, 240, 5, 241, 215, 85, 86, 87, 149, 150, 151, 152, 84, 88, 89, 90, 91, 242, 243, 244, 245, 246, 247, 248, 249, 483, 484, 485, 486, 487, 488, 489, 490, 491, 492, 493, 494, 495] (by decide +kernel) (by decide +kernel)
set_option maxRecDepth 20000 in
theorem gL_law_X5_add : GoodIn wsL_law (wsV RL 99 RX5 yX5_add wsX5_add) := goodIn_app (goodIn_of _ (by decide +kernel)) ggL_law_X5_add
set_option maxRecDepth 20000 in
theorem ggL_law_L_cut : GoodIn wsL_law wsL_cut := goodIn_ca (goodIn_ca (goodIn_r _ [252, 99, 66, 253, 254, 255, 2, 256, 73, 74, 16, 223, 224, 225, 226, 108, 109, 125, 257, 31, 258, 259, 129, 47, 121, 122, 123, 124, 75, 14, 22, 126, 127, 128, 130, 131, 21, 132, 133, 36, 37, 118, 119, 120, 77, 78, 134, 135, 136, 137, 138, 139, 140, 141, 142, 143, 474, 475, 476, 477, 478, 479, 480, 481, 482, 506, 507, 508, 509, 501, 502, 503, 504, 505, 496, 497] (by decide +kernel) (by decide +kernel)) (goodIn_sub (fun _ h => List.mem_append_left _ (List.mem_append_right _ h)) (by decide +kernel))) (goodIn_sub (fun _ h => List.mem_append_right _ h) (by decide +kernel))
set_option maxRecDepth 20000 in
theorem gL_law_L_cut : GoodIn wsL_law (va_wsS RL 100 yL_cut wsL_cut) := goodIn_app (goodIn_of _ (by decide +kernel)) ggL_law_L_cut
set_option maxRecDepth 20000 in
theorem ggL_law_X5_cut : GoodIn wsL_law wsX5_cut := goodIn_r _ [263, 83, 58, 238, 239, 240, 5, 241, 215, 85, 86, 87, 88, 89, 90, 91, 246, 247, 248, 249, 59, 483, 484, 485, 486, 487, 488, 489, 490, 491, 492, 493, 494, 495] (by decide +kernel) (by decide +kernel)
set_option maxRecDepth 20000 in
theorem gL_law_X5_cut : GoodIn wsL_law (wsV RL 102 RX5 yX5_cut wsX5_cut) := goodIn_app (goodIn_of _ (by decide +kernel)) ggL_law_X5_cut
set_option maxRecDepth 20000 in
theorem ggL_law_L_told : GoodIn wsL_law wsL_told := goodIn_ca (goodIn_r _ [266, 99, 267, 268, 269, 2, 270, 108, 109, 16, 271, 223, 224, 225, 226, 125, 134, 31, 135, 136, 129, 130, 77, 78, 272, 273, 274, 275, 75, 14, 276, 277, 115, 278, 141, 142, 143, 47, 178, 29, 179, 180, 181, 182, 183, 114, 116, 279, 280, 281, 282, 474, 475, 476, 477, 478, 479, 480, 481, 482, 506, 507, 508, 509, 501, 502, 503, 504, 505] (by decide +kernel) (by decide +kernel)) (goodIn_sub (fun _ h => List.mem_append_right _ h) (by decide +kernel))
set_option maxRecDepth 20000 in
theorem gL_law_L_told : GoodIn wsL_law (va_wsS RL 103 yL_told wsL_told) := goodIn_app (goodIn_of _ (by decide +kernel)) ggL_law_L_told
set_option maxRecDepth 20000 in
theorem ggL_law_X5_told : GoodIn wsL_law wsX5_told := goodIn_r _ [286, 83, 238, 239, 240, 5, 241, 215, 85, 86, 87, 287, 288, 289, 290, 57, 58, 60, 291, 292, 293, 294, 55, 246, 247, 248, 249, 59, 295, 296, 297, 298, 299, 300, 301, 302, 303, 277, 115, 278, 188, 189, 190, 191, 52, 53, 192, 114, 116, 304, 305, 306, 307, 242, 243, 244, 245, 308, 309, 310, 311, 54, 88, 89, 90, 91, 483, 484, 485, 486, 487, 488, 489, 490, 491, 492, 493, 494, 495] (by decide +kernel) (by decide +kernel)
set_option maxRecDepth 20000 in
theorem gL_law_X5_told : GoodIn wsL_law (wsV RL 105 RX5 yX5_told wsX5_told) := goodIn_app (goodIn_of _ (by decide +kernel)) ggL_law_X5_told
set_option maxRecDepth 20000 in
theorem ggL_law_L_about : GoodIn wsL_law wsL_about := goodIn_ca (goodIn_r _ [314, 99, 315, 316, 317, 2, 318, 108, 109, 14, 271, 104, 105, 106, 107, 75, 178, 29, 179, 180, 181, 182, 183, 114, 115, 116, 474, 475, 476, 477, 478, 479, 480, 481, 482, 501, 502, 503, 504, 505] (by decide +kernel) (by decide +kernel)) (goodIn_sub (fun _ h => List.mem_append_right _ h) (by decide +kernel))
set_option maxRecDepth 20000 in
theorem gL_law_L_about : GoodIn wsL_law (va_wsS RL 106 yL_about wsL_about) := goodIn_app (goodIn_of _ (by decide +kernel)) ggL_law_L_about
set_option maxRecDepth 20000 in
theorem ggL_law_X5_about : GoodIn wsL_law wsX5_about := goodIn_r _ [322, 83, 149, 150, 151, 5, 152, 84, 85, 86, 87, 323, 324, 325, 326, 215, 52, 53, 54, 60, 242, 243, 244, 245, 58, 246, 247, 248, 249, 59, 295, 296, 297, 298, 291, 292, 293, 294, 55, 188, 189, 190, 191, 192, 114, 115, 116, 304, 305, 306, 307, 57, 88, 89, 90, 91, 483, 484, 485, 486, 487, 488, 489, 490, 491, 492, 493, 494, 495] (by decide +kernel) (by decide +kernel)
set_option maxRecDepth 20000 in
theorem gL_law_X5_about : GoodIn wsL_law (wsV RL 108 RX5 yX5_about wsX5_about) := goodIn_app (goodIn_of _ (by decide +kernel)) ggL_law_X5_about
set_option maxRecDepth 20000 in
theorem ggL_law_L_count : GoodIn wsL_law wsL_count := goodIn_ca (goodIn_r _ [329, 99, 330, 331, 332, 2, 333, 108, 109, 271, 75, 22, 125, 26, 334, 335, 336, 337, 16, 134, 31, 135, 136, 129, 130, 77, 78, 338, 339, 340, 341, 14, 178, 29, 179, 180, 181, 182, 183, 114, 115, 116, 474, 475, 476, 477, 478, 479, 480, 481, 482, 496, 497, 498, 499, 500, 506, 507, 508, 509, 501, 502, 503, 504, 505] (by decide +kernel) (by decide +kernel)) (goodIn_sub (fun _ h => List.mem_append_right _ h) (by decide +kernel))
set_option maxRecDepth 20000 in
theorem gL_law_L_count : GoodIn wsL_law (va_wsS RL 109 yL_count wsL_count) := goodIn_app (goodIn_of _ (by decide +kernel)) ggL_law_L_count
set_option maxRecDepth 20000 in
theorem ggL_law_X5_count : GoodIn wsL_law wsX5_count := goodIn_r _ [345, 83, 60, 85, 86, 5, 87, 346, 347, 348, 349, 84, 215, 17, 148, 188, 189, 190, 191, 52, 53, 192, 114, 115, 116, 295, 296, 297, 298, 291, 292, 293, 294, 58, 55, 246, 247, 248, 249, 59, 88, 89, 90, 91, 483, 484, 485, 486, 487, 488, 489, 490, 491, 492, 493, 494, 495] (by decide +kernel) (by decide +kernel)
set_option maxRecDepth 20000 in
theorem gL_law_X5_count : GoodIn wsL_law (wsV RL 111 RX5 yX5_count wsX5_count) := goodIn_app (goodIn_of _ (by decide +kernel)) ggL_law_X5_count
set_option maxRecDepth 20000 in
theorem ggL_law_L_pass : GoodIn wsL_law wsL_pass := goodIn_ca (goodIn_r _ [352, 65, 353, 354, 355, 2, 356, 26, 271, 357, 358, 359, 71, 72, 76, 77, 78, 360, 361, 362, 363, 364, 365, 366, 367, 18, 125, 16, 368, 369, 370, 371, 134, 31, 135, 136, 129, 130, 272, 273, 274, 275, 75, 14, 276, 277, 115, 278, 141, 142, 143, 47, 178, 29, 179, 180, 181, 182, 183, 114, 116, 279, 280, 281, 282, 474, 475, 476, 477, 478, 479, 480, 481, 482, 498, 499, 500, 506, 507, 508, 509, 501, 502, 503, 504, 505] (by decide +kernel) (by decide +kernel)) (goodIn_sub (fun _ h => List.mem_append_left _ (List.mem_append_left _ (List.mem_append_right _ h))) (by decide +kernel))
set_option maxRecDepth 20000 in
theorem gL_law_L_pass : GoodIn wsL_law (va_wsS RL 112 yL_pass wsL_pass) := goodIn_app (goodIn_of _ (by decide +kernel)) ggL_law_L_pass
set_option maxRecDepth 20000 in
theorem ggL_law_X5_pass_ : GoodIn wsL_law wsX5_pass_ := goodIn_r _ [375, 83, 60, 85, 86, 5, 87, 88, 89, 90, 91, 376, 377, 378, 379, 215, 57, 56, 295, 296, 297, 298, 291, 292, 293, 294, 58, 55, 246, 247, 248, 249, 59, 299, 300, 301, 302, 303, 277, 115, 278, 188, 189, 190, 191, 52, 53, 192, 114, 116, 304, 305, 306, 307, 242, 243, 244, 245, 308, 309, 310, 311, 54, 483, 484, 485, 486, 487, 488, 489, 490, 491, 492, 493, 494, 495] (by decide +kernel) (by decide +kernel)
set_option maxRecDepth 20000 in
theorem gL_law_X5_pass_ : GoodIn wsL_law (wsV RL 114 RX5 yX5_pass_ wsX5_pass_) := goodIn_app (goodIn_of _ (by decide +kernel)) ggL_law_X5_pass_
set_option maxRecDepth 20000 in
theorem ggL_law_L_joy : GoodIn wsL_law wsL_joy := goodIn_ca (goodIn_ca (goodIn_r _ [382, 99, 65, 383, 384, 385, 2, 386, 16, 223, 224, 225, 226, 108, 109, 125, 175, 176, 177, 71, 72, 272, 273, 274, 275, 75, 14, 276, 277, 115, 278, 134, 31, 135, 136, 129, 130, 77, 78, 141, 142, 143, 47, 178, 29, 179, 180, 181, 182, 183, 114, 116, 474, 475, 476, 477, 478, 479, 480, 481, 482, 501, 502, 503, 504, 505, 506, 507, 508, 509] (by decide +kernel) (by decide +kernel)) (goodIn_sub (fun _ h => List.mem_append_right _ h) (by decide +kernel))) (goodIn_sub (fun _ h => List.mem_append_left _ (List.mem_append_left _ (List.mem_append_right _ h))) (by decide +kernel))
set_option maxRecDepth 20000 in
theorem gL_law_L_joy : GoodIn wsL_law (va_wsS RL 115 yL_joy wsL_joy) := goodIn_app (goodIn_of _ (by decide +kernel)) ggL_law_L_joy
set_option maxRecDepth 20000 in
theorem ggL_law_X5_joy : GoodIn wsL_law wsX5_joy := goodIn_r _ [390, 83, 238, 239, 240, 5, 241, 215, 85, 86, 87, 88, 89, 90, 91, 299, 300, 301, 302, 58, 303, 277, 115, 278, 295, 296, 297, 298, 291, 292, 293, 294, 55, 246, 247, 248, 249, 59, 188, 189, 190, 191, 52, 53, 192, 114, 116, 304, 305, 306, 307, 57, 242, 243, 244, 245, 483, 484, 485, 486, 487, 488, 489, 490, 491, 492, 493, 494, 495] (by decide +kernel) (by decide +kernel)
set_option maxRecDepth 20000 in
theorem gL_law_X5_joy : GoodIn wsL_law (wsV RL 117 RX5 yX5_joy wsX5_joy) := goodIn_app (goodIn_of _ (by decide +kernel)) ggL_law_X5_joy
set_option maxRecDepth 20000 in
theorem ggL_law_L_best : GoodIn wsL_law wsL_best := goodIn_ca (goodIn_r _ [393, 99, 394, 395, 396, 2, 397, 16, 271, 223, 224, 225, 226, 108, 109, 125, 272, 273, 274, 275, 75, 14, 276, 277, 115, 278, 134, 31, 135, 136, 129, 130, 77, 78, 141, 142, 143, 47, 178, 29, 179, 180, 181, 182, 183, 114, 116, 474, 475, 476, 477, 478, 479, 480, 481, 482, 501, 502, 503, 504, 505, 506, 507, 508, 509] (by decide +kernel) (by decide +kernel)) (goodIn_sub (fun _ h => List.mem_append_right _ h) (by decide +kernel))
set_option maxRecDepth 20000 in
theorem gL_law_L_best : GoodIn wsL_law (va_wsS RL 118 yL_best wsL_best) := goodIn_app (goodIn_of _ (by decide +kernel)) ggL_law_L_best
set_option maxRecDepth 20000 in
theorem ggL_law_X5_best : GoodIn wsL_law wsX5_best := goodIn_r _ [401, 83, 60, 238, 239, 240, 5, 241, 215, 85, 86, 87, 88, 89, 90, 91, 299, 300, 301, 302, 58, 303, 277, 115, 278, 295, 296, 297, 298, 291, 292, 293, 294, 55, 246, 247, 248, 249, 59, 188, 189, 190, 191, 52, 53, 192, 114, 116, 304, 305, 306, 307, 57, 242, 243, 244, 245, 483, 484, 485, 486, 487, 488, 489, 490, 491, 492, 493, 494, 495] (by decide +kernel) (by decide +kernel)
set_option maxRecDepth 20000 in
theorem gL_law_X5_best : GoodIn wsL_law (wsV RL 120 RX5 yX5_best wsX5_best) := goodIn_app (goodIn_of _ (by decide +kernel)) ggL_law_X5_best
set_option maxRecDepth 20000 in
theorem ggL_law_L_advise : GoodIn wsL_law wsL_advise := goodIn_ca (goodIn_r _ [404, 99, 405, 406, 407, 2, 408, 16, 271, 75, 223, 224, 225, 226, 108, 109, 125, 227, 31, 228, 229, 129, 47, 272, 273, 274, 275, 14, 276, 277, 115, 278, 134, 135, 136, 130, 77, 78, 141, 142, 143, 178, 29, 179, 180, 181, 182, 183, 114, 116, 409, 410, 411, 412, 230, 231, 232, 233, 121, 122, 123, 124, 22, 126, 127, 128, 131, 21, 132, 133, 36, 37, 118, 119, 120, 137, 138, 139, 140, 257, 258, 259, 474, 475, 476, 477, 478, 479, 480, 481, 482, 506, 507, 508, 509, 501, 502, 503, 504, 505, 496, 497] (by decide +kernel) (by decide +kernel)) (goodIn_sub (fun _ h => List.mem_append_right _ h) (by decide +kernel))
set_option maxRecDepth 20000 in
theorem gL_law_L_advise : GoodIn wsL_law (va_wsS RL 121 yL_advise wsL_advise) := goodIn_app (goodIn_of _ (by decide +kernel)) ggL_law_L_advise
set_option maxRecDepth 20000 in
theorem ggL_law_X5_advise : GoodIn wsL_law wsX5_advise := goodIn_r _ [416, 83, 58, 60, 84, 59, 238, 239, 240, 5, 241, 215, 85, 86, 87, 88, 89, 90, 91, 299, 300, 301, 302, 303, 277, 115, 278, 295, 296, 297, 298, 291, 292, 293, 294, 55, 246, 247, 248, 249, 188, 189, 190, 191, 52, 53, 192, 114, 116, 304, 305, 306, 307, 57, 242, 243, 244, 245, 483, 484, 485, 486, 487, 488, 489, 490, 491, 492, 493, 494, 495] (by decide +kernel) (by decide +kernel)
set_option maxRecDepth 20000 in
theorem gL_law_X5_advise : GoodIn wsL_law (wsV RL 123 RX5 yX5_advise wsX5_advise) := goodIn_app (goodIn_of _ (by decide +kernel)) ggL_law_X5_advise
set_option maxRecDepth 20000 in
theorem ggL_law_L_foresee : GoodIn wsL_law wsL_foresee := goodIn_ca (goodIn_ca (goodIn_r _ [419, 65, 99, 420, 421, 422, 2, 423, 108, 109, 27, 26, 271, 357, 358, 359, 71, 72, 76, 77, 78, 424, 25, 425, 426, 427, 428, 429, 360, 361, 362, 363, 364, 365, 366, 367, 18, 125, 16, 368, 369, 370, 371, 134, 31, 135, 136, 129, 130, 272, 273, 274, 275, 75, 14, 276, 277, 115, 278, 141, 142, 143, 47, 178, 29, 179, 180, 181, 182, 183, 114, 116, 279, 280, 281, 282, 338, 339, 340, 341, 474, 475, 476, 477, 478, 479, 480, 481, 482, 498, 499, 500, 506, 507, 508, 509, 501, 502, 503, 504, 505] (by decide +kernel) (by decide +kernel)) (goodIn_sub (fun _ h => List.mem_append_right _ h) (by decide +kernel))) (goodIn_sub (fun _ h => List.mem_append_left _ (List.mem_append_left _ (List.mem_append_right _ h))) (by decide +kernel))
set_option maxRecDepth 20000 in
theorem gL_law_L_foresee : GoodIn wsL_law (va_wsS RL 124 yL_foresee wsL_foresee) := goodIn_app (goodIn_of _ (by decide +kernel)) ggL_law_L_foresee
set_option maxRecDepth 20000 in
theorem ggL_law_X5_foresee : GoodIn wsL_law wsX5_foresee := goodIn_r _ [433, 83, 60, 434, 435, 436, 437, 438, 439, 85, 86, 5, 87, 88, 89, 90, 91, 376, 377, 378, 379, 215, 57, 56, 295, 296, 297, 298, 291, 292, 293, 294, 58, 55, 246, 247, 248, 249, 59, 299, 300, 301, 302, 303, 277, 115, 278, 188, 189, 190, 191, 52, 53, 192, 114, 116, 304, 305, 306, 307, 242, 243, 244, 245, 308, 309, 310, 311, 54, 346, 347, 348, 349, 84, 17, 148, 483, 484, 485, 486, 487, 488, 489, 490, 491, 492, 493, 494, 495] (by decide +kernel) (by decide +kernel)
set_option maxRecDepth 20000 in
theorem gL_law_X5_foresee : GoodIn wsL_law (wsV RL 126 RX5 yX5_foresee wsX5_foresee) := goodIn_app (goodIn_of _ (by decide +kernel)) ggL_law_X5_foresee
set_option maxRecDepth 20000 in
theorem ggL_law_X4_mean : GoodIn wsL_law wsX4_mean := goodIn_r _ [443, 75, 14, 271, 178, 29, 179, 180, 181, 182, 183, 114, 115, 116, 474, 475, 476, 477, 478, 479, 480, 481, 482, 501, 502, 503, 504, 505] (by decide +kernel) (by decide +kernel)
set_option maxRecDepth 20000 in
theorem gL_law_X4_mean : GoodIn wsL_law (wsV RL 127 RX4 yX4_mean wsX4_mean) := goodIn_app (goodIn_of _ (by decide +kernel)) ggL_law_X4_mean
set_option maxRecDepth 20000 in
theorem ggL_law_X5_mean : GoodIn wsL_law wsX5_mean := goodIn_r _ [447, 83, 84, 60, 188, 189, 190, 5, 191, 52, 53, 192, 114, 115, 116, 85, 86, 87, 483, 484, 485, 486, 487, 488, 489, 490, 491, 492, 493, 494, 495] (by decide +kernel) (by decide +kernel)
set_option maxRecDepth 20000 in
theorem gL_law_X5_mean : GoodIn wsL_law (wsV RL 131 RX5 yX5_mean wsX5_mean) := goodIn_app (goodIn_of _ (by decide +kernel)) ggL_law_X5_mean
set_option maxRecDepth 20000 in
theorem ggL_law_X4_digest : GoodIn wsL_law wsX4_digest := goodIn_ca (goodIn_r _ [451, 452, 18, 75, 125, 453, 331, 332, 2, 333, 108, 109, 271, 22, 26, 334, 335, 336, 337, 16, 134, 31, 135, 136, 129, 130, 77, 78, 338, 339, 340, 341, 14, 178, 29, 179, 180, 181, 182, 183, 114, 115, 116, 454, 455, 456, 457, 458, 459, 460, 461, 462, 316, 317, 318, 104, 105, 106, 107, 131, 21, 132, 133, 36, 37, 118, 119, 120, 463, 464, 465, 466, 467, 268, 269, 270, 223, 224, 225, 226, 272, 273, 274, 275, 276, 277, 278, 141, 142, 143, 47, 279, 280, 281, 282, 474, 475, 476, 477, 478, 479, 480, 481, 482, 496, 497, 498, 499, 500, 506, 507, 508, 509, 501, 502, 503, 504, 505] (by decide +kernel) (by decide +kernel)) (goodIn_sub (fun _ h => List.mem_append_right _ h) (by decide +kernel))
set_option maxRecDepth 20000 in
theorem gL_law_X4_digest : GoodIn wsL_law (wsV RL 132 RX4 yX4_digest wsX4_digest) := goodIn_app (goodIn_of _ (by decide +kernel)) ggL_law_X4_digest
set_option maxRecDepth 20000 in
theorem ggL_law_X5_digest : GoodIn wsL_law wsX5_digest := goodIn_r _ [471, 83, 472, 473, 60, 56, 84, 55, 215, 58, 346, 347, 348, 5, 349, 17, 148, 188, 189, 190, 191, 52, 53, 192, 114, 115, 116, 85, 86, 87, 295, 296, 297, 298, 291, 292, 293, 294, 246, 247, 248, 249, 59, 323, 324, 325, 326, 54, 242, 243, 244, 245, 304, 305, 306, 307, 57, 287, 288, 289, 290, 299, 300, 301, 302, 303, 277, 278, 308, 309, 310, 311, 483, 484, 485, 486, 487, 488, 489, 490, 491, 492, 493, 494, 495] (by decide +kernel) (by decide +kernel)
set_option maxRecDepth 20000 in
theorem gL_law_X5_digest : GoodIn wsL_law (wsV RL 136 RX5 yX5_digest wsX5_digest) := goodIn_app (goodIn_of _ (by decide +kernel)) ggL_law_X5_digest
theorem dL_law_0 : decode cL_law 0 = .ok (.new 8, 3) := by decide +kernel
theorem dL_law_3 : decode cL_law 3 = .ok (.dup, 1) := by decide +kernel
theorem dL_law_4 : decode cL_law 4 = .ok (.invokespecial 66, 3) := by decide +kernel
theorem dL_law_7 : decode cL_law 7 = .ok (.astore_n 1, 1) := by decide +kernel
theorem dL_law_8 : decode cL_law 8 = .ok (.new 67, 3) := by decide +kernel
theorem dL_law_11 : decode cL_law 11 = .ok (.dup, 1) := by decide +kernel
theorem dL_law_12 : decode cL_law 12 = .ok (.invokespecial 69, 3) := by decide +kernel
theorem dL_law_15 : decode cL_law 15 = .ok (.astore_n 2, 1) := by decide +kernel
theorem dL_law_16 : decode cL_law 16 = .ok (.iconst 1, 1) := by decide +kernel
theorem dL_law_17 : decode cL_law 17 = .ok (.newarray .long, 2) := by decide +kernel
theorem dL_law_19 : decode cL_law 19 = .ok (.astore_n 3, 1) := by decide +kernel
theorem dL_law_20 : decode cL_law 20 = .ok (.iconst 0, 1) := by decide +kernel
theorem dL_law_21 : decode cL_law 21 = .ok (.istore 4, 2) := by decide +kernel
theorem dL_law_23 : decode cL_law 23 = .ok (.iload 4, 2) := by decide +kernel
theorem dL_law_25 : decode cL_law 25 = .ok (.aload_n 0, 1) := by decide +kernel
theorem dL_law_26 : decode cL_law 26 = .ok (.arraylength, 1) := by decide +kernel
theorem dL_law_27 : decode cL_law 27 = .ok (.iconst 4, 1) := by decide +kernel
theorem dL_law_28 : decode cL_law 28 = .ok (.isub, 1) := by decide +kernel
theorem dL_law_29 : decode cL_law 29 = .ok (.if_icmp .gt 1196, 3) := by decide +kernel
theorem dL_law_32 : decode cL_law 32 = .ok (.aload_n 0, 1) := by decide +kernel
theorem dL_law_33 : decode cL_law 33 = .ok (.iload 4, 2) := by decide +kernel
theorem dL_law_35 : decode cL_law 35 = .ok (.iaload, 1) := by decide +kernel
theorem dL_law_36 : decode cL_law 36 = .ok (.bipush 31, 2) := by decide +kernel
theorem dL_law_38 : decode cL_law 38 = .ok (.iand, 1) := by decide +kernel
theorem dL_law_39 : decode cL_law 39 = .ok (.tableswitch 1180 0 17 #[85, 165, 245, 313, 381, 449, 505, 573, 629, 697, 765, 821, 877, 945, 1001, 1057, 1125, 1166], 85) := by decide +kernel
theorem dL_law_124 : decode cL_law 124 = .ok (.aload_n 1, 1) := by decide +kernel
theorem dL_law_125 : decode cL_law 125 = .ok (.aload_n 0, 1) := by decide +kernel
theorem dL_law_126 : decode cL_law 126 = .ok (.iload 4, 2) := by decide +kernel
theorem dL_law_128 : decode cL_law 128 = .ok (.iconst 1, 1) := by decide +kernel
theorem dL_law_129 : decode cL_law 129 = .ok (.iadd, 1) := by decide +kernel
theorem dL_law_130 : decode cL_law 130 = .ok (.iaload, 1) := by decide +kernel
theorem dL_law_131 : decode cL_law 131 = .ok (.aload_n 0, 1) := by decide +kernel
theorem dL_law_132 : decode cL_law 132 = .ok (.iload 4, 2) := by decide +kernel
theorem dL_law_134 : decode cL_law 134 = .ok (.iconst 2, 1) := by decide +kernel
theorem dL_law_135 : decode cL_law 135 = .ok (.iadd, 1) := by decide +kernel
theorem dL_law_136 : decode cL_law 136 = .ok (.iaload, 1) := by decide +kernel
theorem dL_law_137 : decode cL_law 137 = .ok (.aload_n 0, 1) := by decide +kernel
theorem dL_law_138 : decode cL_law 138 = .ok (.iload 4, 2) := by decide +kernel
theorem dL_law_140 : decode cL_law 140 = .ok (.iconst 3, 1) := by decide +kernel
theorem dL_law_141 : decode cL_law 141 = .ok (.iadd, 1) := by decide +kernel
theorem dL_law_142 : decode cL_law 142 = .ok (.iaload, 1) := by decide +kernel
theorem dL_law_143 : decode cL_law 143 = .ok (.aload_n 3, 1) := by decide +kernel
theorem dL_law_144 : decode cL_law 144 = .ok (.invokestatic 70, 3) := by decide +kernel
theorem dL_law_147 : decode cL_law 147 = .ok (.istore 5, 2) := by decide +kernel
theorem dL_law_149 : decode cL_law 149 = .ok (.aload_n 2, 1) := by decide +kernel
theorem dL_law_150 : decode cL_law 150 = .ok (.aload_n 0, 1) := by decide +kernel
theorem dL_law_151 : decode cL_law 151 = .ok (.iload 4, 2) := by decide +kernel
theorem dL_law_153 : decode cL_law 153 = .ok (.iconst 1, 1) := by decide +kernel
theorem dL_law_154 : decode cL_law 154 = .ok (.iadd, 1) := by decide +kernel
theorem dL_law_155 : decode cL_law 155 = .ok (.iaload, 1) := by decide +kernel
theorem dL_law_156 : decode cL_law 156 = .ok (.aload_n 0, 1) := by decide +kernel
theorem dL_law_157 : decode cL_law 157 = .ok (.iload 4, 2) := by decide +kernel
theorem dL_law_159 : decode cL_law 159 = .ok (.iconst 2, 1) := by decide +kernel
theorem dL_law_160 : decode cL_law 160 = .ok (.iadd, 1) := by decide +kernel
theorem dL_law_161 : decode cL_law 161 = .ok (.iaload, 1) := by decide +kernel
theorem dL_law_162 : decode cL_law 162 = .ok (.aload_n 0, 1) := by decide +kernel
theorem dL_law_163 : decode cL_law 163 = .ok (.iload 4, 2) := by decide +kernel
theorem dL_law_165 : decode cL_law 165 = .ok (.iconst 3, 1) := by decide +kernel
theorem dL_law_166 : decode cL_law 166 = .ok (.iadd, 1) := by decide +kernel
theorem dL_law_167 : decode cL_law 167 = .ok (.iaload, 1) := by decide +kernel
theorem dL_law_168 : decode cL_law 168 = .ok (.invokevirtual 75, 3) := by decide +kernel
theorem dL_law_171 : decode cL_law 171 = .ok (.istore 6, 2) := by decide +kernel
theorem dL_law_173 : decode cL_law 173 = .ok (.aload_n 2, 1) := by decide +kernel
theorem dL_law_174 : decode cL_law 174 = .ok (.invokevirtual 76, 3) := by decide +kernel
theorem dL_law_177 : decode cL_law 177 = .ok (.iload 5, 2) := by decide +kernel
theorem dL_law_179 : decode cL_law 179 = .ok (.if_icmp .eq 5, 3) := by decide +kernel
theorem dL_law_182 : decode cL_law 182 = .ok (.iconst 0, 1) := by decide +kernel
theorem dL_law_183 : decode cL_law 183 = .ok (.ireturn, 1) := by decide +kernel
theorem dL_law_184 : decode cL_law 184 = .ok (.iload 5, 2) := by decide +kernel
theorem dL_law_186 : decode cL_law 186 = .ok (.ifCond .ne 15, 3) := by decide +kernel
theorem dL_law_189 : decode cL_law 189 = .ok (.aload_n 3, 1) := by decide +kernel
theorem dL_law_190 : decode cL_law 190 = .ok (.iconst 0, 1) := by decide +kernel
theorem dL_law_191 : decode cL_law 191 = .ok (.laload, 1) := by decide +kernel
theorem dL_law_192 : decode cL_law 192 = .ok (.iload 6, 2) := by decide +kernel
theorem dL_law_194 : decode cL_law 194 = .ok (.i2l, 1) := by decide +kernel
theorem dL_law_195 : decode cL_law 195 = .ok (.lcmp, 1) := by decide +kernel
theorem dL_law_196 : decode cL_law 196 = .ok (.ifCond .eq 5, 3) := by decide +kernel
theorem dL_law_199 : decode cL_law 199 = .ok (.iconst 0, 1) := by decide +kernel
theorem dL_law_200 : decode cL_law 200 = .ok (.ireturn, 1) := by decide +kernel
theorem dL_law_201 : decode cL_law 201 = .ok (.goto 1018, 3) := by decide +kernel
theorem dL_law_204 : decode cL_law 204 = .ok (.aload_n 1, 1) := by decide +kernel
theorem dL_law_205 : decode cL_law 205 = .ok (.aload_n 0, 1) := by decide +kernel
theorem dL_law_206 : decode cL_law 206 = .ok (.iload 4, 2) := by decide +kernel
theorem dL_law_208 : decode cL_law 208 = .ok (.iconst 1, 1) := by decide +kernel
theorem dL_law_209 : decode cL_law 209 = .ok (.iadd, 1) := by decide +kernel
theorem dL_law_210 : decode cL_law 210 = .ok (.iaload, 1) := by decide +kernel
theorem dL_law_211 : decode cL_law 211 = .ok (.aload_n 0, 1) := by decide +kernel
theorem dL_law_212 : decode cL_law 212 = .ok (.iload 4, 2) := by decide +kernel
theorem dL_law_214 : decode cL_law 214 = .ok (.iconst 2, 1) := by decide +kernel
theorem dL_law_215 : decode cL_law 215 = .ok (.iadd, 1) := by decide +kernel
theorem dL_law_216 : decode cL_law 216 = .ok (.iaload, 1) := by decide +kernel
theorem dL_law_217 : decode cL_law 217 = .ok (.aload_n 0, 1) := by decide +kernel
theorem dL_law_218 : decode cL_law 218 = .ok (.iload 4, 2) := by decide +kernel
theorem dL_law_220 : decode cL_law 220 = .ok (.iconst 3, 1) := by decide +kernel
theorem dL_law_221 : decode cL_law 221 = .ok (.iadd, 1) := by decide +kernel
theorem dL_law_222 : decode cL_law 222 = .ok (.iaload, 1) := by decide +kernel
theorem dL_law_223 : decode cL_law 223 = .ok (.aload_n 3, 1) := by decide +kernel
theorem dL_law_224 : decode cL_law 224 = .ok (.invokestatic 80, 3) := by decide +kernel
theorem dL_law_227 : decode cL_law 227 = .ok (.istore 5, 2) := by decide +kernel
theorem dL_law_229 : decode cL_law 229 = .ok (.aload_n 2, 1) := by decide +kernel
theorem dL_law_230 : decode cL_law 230 = .ok (.aload_n 0, 1) := by decide +kernel
theorem dL_law_231 : decode cL_law 231 = .ok (.iload 4, 2) := by decide +kernel
theorem dL_law_233 : decode cL_law 233 = .ok (.iconst 1, 1) := by decide +kernel
theorem dL_law_234 : decode cL_law 234 = .ok (.iadd, 1) := by decide +kernel
theorem dL_law_235 : decode cL_law 235 = .ok (.iaload, 1) := by decide +kernel
theorem dL_law_236 : decode cL_law 236 = .ok (.aload_n 0, 1) := by decide +kernel
theorem dL_law_237 : decode cL_law 237 = .ok (.iload 4, 2) := by decide +kernel
theorem dL_law_239 : decode cL_law 239 = .ok (.iconst 2, 1) := by decide +kernel
theorem dL_law_240 : decode cL_law 240 = .ok (.iadd, 1) := by decide +kernel
theorem dL_law_241 : decode cL_law 241 = .ok (.iaload, 1) := by decide +kernel
theorem dL_law_242 : decode cL_law 242 = .ok (.aload_n 0, 1) := by decide +kernel
theorem dL_law_243 : decode cL_law 243 = .ok (.iload 4, 2) := by decide +kernel
theorem dL_law_245 : decode cL_law 245 = .ok (.iconst 3, 1) := by decide +kernel
theorem dL_law_246 : decode cL_law 246 = .ok (.iadd, 1) := by decide +kernel
theorem dL_law_247 : decode cL_law 247 = .ok (.iaload, 1) := by decide +kernel
theorem dL_law_248 : decode cL_law 248 = .ok (.invokevirtual 82, 3) := by decide +kernel
theorem dL_law_251 : decode cL_law 251 = .ok (.istore 6, 2) := by decide +kernel
theorem dL_law_253 : decode cL_law 253 = .ok (.aload_n 2, 1) := by decide +kernel
theorem dL_law_254 : decode cL_law 254 = .ok (.invokevirtual 76, 3) := by decide +kernel
theorem dL_law_257 : decode cL_law 257 = .ok (.iload 5, 2) := by decide +kernel
theorem dL_law_259 : decode cL_law 259 = .ok (.if_icmp .eq 5, 3) := by decide +kernel
theorem dL_law_262 : decode cL_law 262 = .ok (.iconst 0, 1) := by decide +kernel
theorem dL_law_263 : decode cL_law 263 = .ok (.ireturn, 1) := by decide +kernel
theorem dL_law_264 : decode cL_law 264 = .ok (.iload 5, 2) := by decide +kernel
theorem dL_law_266 : decode cL_law 266 = .ok (.ifCond .ne 15, 3) := by decide +kernel
theorem dL_law_269 : decode cL_law 269 = .ok (.aload_n 3, 1) := by decide +kernel
theorem dL_law_270 : decode cL_law 270 = .ok (.iconst 0, 1) := by decide +kernel
theorem dL_law_271 : decode cL_law 271 = .ok (.laload, 1) := by decide +kernel
theorem dL_law_272 : decode cL_law 272 = .ok (.iload 6, 2) := by decide +kernel
theorem dL_law_274 : decode cL_law 274 = .ok (.i2l, 1) := by decide +kernel
theorem dL_law_275 : decode cL_law 275 = .ok (.lcmp, 1) := by decide +kernel
theorem dL_law_276 : decode cL_law 276 = .ok (.ifCond .eq 5, 3) := by decide +kernel
theorem dL_law_279 : decode cL_law 279 = .ok (.iconst 0, 1) := by decide +kernel
theorem dL_law_280 : decode cL_law 280 = .ok (.ireturn, 1) := by decide +kernel
theorem dL_law_281 : decode cL_law 281 = .ok (.goto 938, 3) := by decide +kernel
theorem dL_law_284 : decode cL_law 284 = .ok (.aload_n 1, 1) := by decide +kernel
theorem dL_law_285 : decode cL_law 285 = .ok (.aload_n 0, 1) := by decide +kernel
theorem dL_law_286 : decode cL_law 286 = .ok (.iload 4, 2) := by decide +kernel
theorem dL_law_288 : decode cL_law 288 = .ok (.iconst 1, 1) := by decide +kernel
theorem dL_law_289 : decode cL_law 289 = .ok (.iadd, 1) := by decide +kernel
theorem dL_law_290 : decode cL_law 290 = .ok (.iaload, 1) := by decide +kernel
theorem dL_law_291 : decode cL_law 291 = .ok (.aload_n 0, 1) := by decide +kernel
theorem dL_law_292 : decode cL_law 292 = .ok (.iload 4, 2) := by decide +kernel
theorem dL_law_294 : decode cL_law 294 = .ok (.iconst 2, 1) := by decide +kernel
theorem dL_law_295 : decode cL_law 295 = .ok (.iadd, 1) := by decide +kernel
theorem dL_law_296 : decode cL_law 296 = .ok (.iaload, 1) := by decide +kernel
theorem dL_law_297 : decode cL_law 297 = .ok (.aload_n 3, 1) := by decide +kernel
theorem dL_law_298 : decode cL_law 298 = .ok (.invokestatic 83, 3) := by decide +kernel
theorem dL_law_301 : decode cL_law 301 = .ok (.istore 5, 2) := by decide +kernel
theorem dL_law_303 : decode cL_law 303 = .ok (.aload_n 2, 1) := by decide +kernel
theorem dL_law_304 : decode cL_law 304 = .ok (.aload_n 0, 1) := by decide +kernel
theorem dL_law_305 : decode cL_law 305 = .ok (.iload 4, 2) := by decide +kernel
theorem dL_law_307 : decode cL_law 307 = .ok (.iconst 1, 1) := by decide +kernel
theorem dL_law_308 : decode cL_law 308 = .ok (.iadd, 1) := by decide +kernel
theorem dL_law_309 : decode cL_law 309 = .ok (.iaload, 1) := by decide +kernel
theorem dL_law_310 : decode cL_law 310 = .ok (.aload_n 0, 1) := by decide +kernel
theorem dL_law_311 : decode cL_law 311 = .ok (.iload 4, 2) := by decide +kernel
theorem dL_law_313 : decode cL_law 313 = .ok (.iconst 2, 1) := by decide +kernel
theorem dL_law_314 : decode cL_law 314 = .ok (.iadd, 1) := by decide +kernel
theorem dL_law_315 : decode cL_law 315 = .ok (.iaload, 1) := by decide +kernel
theorem dL_law_316 : decode cL_law 316 = .ok (.invokevirtual 86, 3) := by decide +kernel
theorem dL_law_319 : decode cL_law 319 = .ok (.istore 6, 2) := by decide +kernel
theorem dL_law_321 : decode cL_law 321 = .ok (.aload_n 2, 1) := by decide +kernel
theorem dL_law_322 : decode cL_law 322 = .ok (.invokevirtual 76, 3) := by decide +kernel
theorem dL_law_325 : decode cL_law 325 = .ok (.iload 5, 2) := by decide +kernel
theorem dL_law_327 : decode cL_law 327 = .ok (.if_icmp .eq 5, 3) := by decide +kernel
theorem dL_law_330 : decode cL_law 330 = .ok (.iconst 0, 1) := by decide +kernel
theorem dL_law_331 : decode cL_law 331 = .ok (.ireturn, 1) := by decide +kernel
theorem dL_law_332 : decode cL_law 332 = .ok (.iload 5, 2) := by decide +kernel
theorem dL_law_334 : decode cL_law 334 = .ok (.ifCond .ne 15, 3) := by decide +kernel
theorem dL_law_337 : decode cL_law 337 = .ok (.aload_n 3, 1) := by decide +kernel
theorem dL_law_338 : decode cL_law 338 = .ok (.iconst 0, 1) := by decide +kernel
theorem dL_law_339 : decode cL_law 339 = .ok (.laload, 1) := by decide +kernel
theorem dL_law_340 : decode cL_law 340 = .ok (.iload 6, 2) := by decide +kernel
theorem dL_law_342 : decode cL_law 342 = .ok (.i2l, 1) := by decide +kernel
theorem dL_law_343 : decode cL_law 343 = .ok (.lcmp, 1) := by decide +kernel
theorem dL_law_344 : decode cL_law 344 = .ok (.ifCond .eq 5, 3) := by decide +kernel
theorem dL_law_347 : decode cL_law 347 = .ok (.iconst 0, 1) := by decide +kernel
theorem dL_law_348 : decode cL_law 348 = .ok (.ireturn, 1) := by decide +kernel
theorem dL_law_349 : decode cL_law 349 = .ok (.goto 870, 3) := by decide +kernel
theorem dL_law_352 : decode cL_law 352 = .ok (.aload_n 1, 1) := by decide +kernel
theorem dL_law_353 : decode cL_law 353 = .ok (.aload_n 0, 1) := by decide +kernel
theorem dL_law_354 : decode cL_law 354 = .ok (.iload 4, 2) := by decide +kernel
theorem dL_law_356 : decode cL_law 356 = .ok (.iconst 1, 1) := by decide +kernel
theorem dL_law_357 : decode cL_law 357 = .ok (.iadd, 1) := by decide +kernel
theorem dL_law_358 : decode cL_law 358 = .ok (.iaload, 1) := by decide +kernel
theorem dL_law_359 : decode cL_law 359 = .ok (.aload_n 0, 1) := by decide +kernel
theorem dL_law_360 : decode cL_law 360 = .ok (.iload 4, 2) := by decide +kernel
theorem dL_law_362 : decode cL_law 362 = .ok (.iconst 2, 1) := by decide +kernel
theorem dL_law_363 : decode cL_law 363 = .ok (.iadd, 1) := by decide +kernel
theorem dL_law_364 : decode cL_law 364 = .ok (.iaload, 1) := by decide +kernel
theorem dL_law_365 : decode cL_law 365 = .ok (.aload_n 3, 1) := by decide +kernel
theorem dL_law_366 : decode cL_law 366 = .ok (.invokestatic 87, 3) := by decide +kernel
theorem dL_law_369 : decode cL_law 369 = .ok (.istore 5, 2) := by decide +kernel
theorem dL_law_371 : decode cL_law 371 = .ok (.aload_n 2, 1) := by decide +kernel
theorem dL_law_372 : decode cL_law 372 = .ok (.aload_n 0, 1) := by decide +kernel
theorem dL_law_373 : decode cL_law 373 = .ok (.iload 4, 2) := by decide +kernel
theorem dL_law_375 : decode cL_law 375 = .ok (.iconst 1, 1) := by decide +kernel
theorem dL_law_376 : decode cL_law 376 = .ok (.iadd, 1) := by decide +kernel
theorem dL_law_377 : decode cL_law 377 = .ok (.iaload, 1) := by decide +kernel
theorem dL_law_378 : decode cL_law 378 = .ok (.aload_n 0, 1) := by decide +kernel
theorem dL_law_379 : decode cL_law 379 = .ok (.iload 4, 2) := by decide +kernel
theorem dL_law_381 : decode cL_law 381 = .ok (.iconst 2, 1) := by decide +kernel
theorem dL_law_382 : decode cL_law 382 = .ok (.iadd, 1) := by decide +kernel
theorem dL_law_383 : decode cL_law 383 = .ok (.iaload, 1) := by decide +kernel
theorem dL_law_384 : decode cL_law 384 = .ok (.invokevirtual 89, 3) := by decide +kernel
theorem dL_law_387 : decode cL_law 387 = .ok (.istore 6, 2) := by decide +kernel
theorem dL_law_389 : decode cL_law 389 = .ok (.aload_n 2, 1) := by decide +kernel
theorem dL_law_390 : decode cL_law 390 = .ok (.invokevirtual 76, 3) := by decide +kernel
theorem dL_law_393 : decode cL_law 393 = .ok (.iload 5, 2) := by decide +kernel
theorem dL_law_395 : decode cL_law 395 = .ok (.if_icmp .eq 5, 3) := by decide +kernel
theorem dL_law_398 : decode cL_law 398 = .ok (.iconst 0, 1) := by decide +kernel
theorem dL_law_399 : decode cL_law 399 = .ok (.ireturn, 1) := by decide +kernel
theorem dL_law_400 : decode cL_law 400 = .ok (.iload 5, 2) := by decide +kernel
theorem dL_law_402 : decode cL_law 402 = .ok (.ifCond .ne 15, 3) := by decide +kernel
theorem dL_law_405 : decode cL_law 405 = .ok (.aload_n 3, 1) := by decide +kernel
theorem dL_law_406 : decode cL_law 406 = .ok (.iconst 0, 1) := by decide +kernel
theorem dL_law_407 : decode cL_law 407 = .ok (.laload, 1) := by decide +kernel
theorem dL_law_408 : decode cL_law 408 = .ok (.iload 6, 2) := by decide +kernel
theorem dL_law_410 : decode cL_law 410 = .ok (.i2l, 1) := by decide +kernel
theorem dL_law_411 : decode cL_law 411 = .ok (.lcmp, 1) := by decide +kernel
theorem dL_law_412 : decode cL_law 412 = .ok (.ifCond .eq 5, 3) := by decide +kernel
theorem dL_law_415 : decode cL_law 415 = .ok (.iconst 0, 1) := by decide +kernel
theorem dL_law_416 : decode cL_law 416 = .ok (.ireturn, 1) := by decide +kernel
theorem dL_law_417 : decode cL_law 417 = .ok (.goto 802, 3) := by decide +kernel
theorem dL_law_420 : decode cL_law 420 = .ok (.aload_n 1, 1) := by decide +kernel
theorem dL_law_421 : decode cL_law 421 = .ok (.aload_n 0, 1) := by decide +kernel
theorem dL_law_422 : decode cL_law 422 = .ok (.iload 4, 2) := by decide +kernel
theorem dL_law_424 : decode cL_law 424 = .ok (.iconst 1, 1) := by decide +kernel
theorem dL_law_425 : decode cL_law 425 = .ok (.iadd, 1) := by decide +kernel
theorem dL_law_426 : decode cL_law 426 = .ok (.iaload, 1) := by decide +kernel
theorem dL_law_427 : decode cL_law 427 = .ok (.aload_n 0, 1) := by decide +kernel
theorem dL_law_428 : decode cL_law 428 = .ok (.iload 4, 2) := by decide +kernel
theorem dL_law_430 : decode cL_law 430 = .ok (.iconst 2, 1) := by decide +kernel
theorem dL_law_431 : decode cL_law 431 = .ok (.iadd, 1) := by decide +kernel
theorem dL_law_432 : decode cL_law 432 = .ok (.iaload, 1) := by decide +kernel
theorem dL_law_433 : decode cL_law 433 = .ok (.aload_n 3, 1) := by decide +kernel
theorem dL_law_434 : decode cL_law 434 = .ok (.invokestatic 90, 3) := by decide +kernel
end
section
theorem dL_law_437 : decode cL_law 437 = .ok (.istore 5, 2) := by decide +kernel
theorem dL_law_439 : decode cL_law 439 = .ok (.aload_n 2, 1) := by decide +kernel
theorem dL_law_440 : decode cL_law 440 = .ok (.aload_n 0, 1) := by decide +kernel
theorem dL_law_441 : decode cL_law 441 = .ok (.iload 4, 2) := by decide +kernel
theorem dL_law_443 : decode cL_law 443 = .ok (.iconst 1, 1) := by decide +kernel
theorem dL_law_444 : decode cL_law 444 = .ok (.iadd, 1) := by decide +kernel
theorem dL_law_445 : decode cL_law 445 = .ok (.iaload, 1) := by decide +kernel
theorem dL_law_446 : decode cL_law 446 = .ok (.aload_n 0, 1) := by decide +kernel
theorem dL_law_447 : decode cL_law 447 = .ok (.iload 4, 2) := by decide +kernel
theorem dL_law_449 : decode cL_law 449 = .ok (.iconst 2, 1) := by decide +kernel
theorem dL_law_450 : decode cL_law 450 = .ok (.iadd, 1) := by decide +kernel
theorem dL_law_451 : decode cL_law 451 = .ok (.iaload, 1) := by decide +kernel
theorem dL_law_452 : decode cL_law 452 = .ok (.invokevirtual 92, 3) := by decide +kernel
theorem dL_law_455 : decode cL_law 455 = .ok (.istore 6, 2) := by decide +kernel
theorem dL_law_457 : decode cL_law 457 = .ok (.aload_n 2, 1) := by decide +kernel
theorem dL_law_458 : decode cL_law 458 = .ok (.invokevirtual 76, 3) := by decide +kernel
theorem dL_law_461 : decode cL_law 461 = .ok (.iload 5, 2) := by decide +kernel
theorem dL_law_463 : decode cL_law 463 = .ok (.if_icmp .eq 5, 3) := by decide +kernel
theorem dL_law_466 : decode cL_law 466 = .ok (.iconst 0, 1) := by decide +kernel
theorem dL_law_467 : decode cL_law 467 = .ok (.ireturn, 1) := by decide +kernel
theorem dL_law_468 : decode cL_law 468 = .ok (.iload 5, 2) := by decide +kernel
theorem dL_law_470 : decode cL_law 470 = .ok (.ifCond .ne 15, 3) := by decide +kernel
theorem dL_law_473 : decode cL_law 473 = .ok (.aload_n 3, 1) := by decide +kernel
theorem dL_law_474 : decode cL_law 474 = .ok (.iconst 0, 1) := by decide +kernel
theorem dL_law_475 : decode cL_law 475 = .ok (.laload, 1) := by decide +kernel
theorem dL_law_476 : decode cL_law 476 = .ok (.iload 6, 2) := by decide +kernel
theorem dL_law_478 : decode cL_law 478 = .ok (.i2l, 1) := by decide +kernel
theorem dL_law_479 : decode cL_law 479 = .ok (.lcmp, 1) := by decide +kernel
theorem dL_law_480 : decode cL_law 480 = .ok (.ifCond .eq 5, 3) := by decide +kernel
theorem dL_law_483 : decode cL_law 483 = .ok (.iconst 0, 1) := by decide +kernel
theorem dL_law_484 : decode cL_law 484 = .ok (.ireturn, 1) := by decide +kernel
theorem dL_law_485 : decode cL_law 485 = .ok (.goto 734, 3) := by decide +kernel
theorem dL_law_488 : decode cL_law 488 = .ok (.aload_n 1, 1) := by decide +kernel
theorem dL_law_489 : decode cL_law 489 = .ok (.aload_n 0, 1) := by decide +kernel
theorem dL_law_490 : decode cL_law 490 = .ok (.iload 4, 2) := by decide +kernel
theorem dL_law_492 : decode cL_law 492 = .ok (.iconst 1, 1) := by decide +kernel
theorem dL_law_493 : decode cL_law 493 = .ok (.iadd, 1) := by decide +kernel
theorem dL_law_494 : decode cL_law 494 = .ok (.iaload, 1) := by decide +kernel
theorem dL_law_495 : decode cL_law 495 = .ok (.aload_n 3, 1) := by decide +kernel
theorem dL_law_496 : decode cL_law 496 = .ok (.invokestatic 93, 3) := by decide +kernel
theorem dL_law_499 : decode cL_law 499 = .ok (.istore 5, 2) := by decide +kernel
theorem dL_law_501 : decode cL_law 501 = .ok (.aload_n 2, 1) := by decide +kernel
theorem dL_law_502 : decode cL_law 502 = .ok (.aload_n 0, 1) := by decide +kernel
theorem dL_law_503 : decode cL_law 503 = .ok (.iload 4, 2) := by decide +kernel
theorem dL_law_505 : decode cL_law 505 = .ok (.iconst 1, 1) := by decide +kernel
theorem dL_law_506 : decode cL_law 506 = .ok (.iadd, 1) := by decide +kernel
theorem dL_law_507 : decode cL_law 507 = .ok (.iaload, 1) := by decide +kernel
theorem dL_law_508 : decode cL_law 508 = .ok (.invokevirtual 96, 3) := by decide +kernel
theorem dL_law_511 : decode cL_law 511 = .ok (.istore 6, 2) := by decide +kernel
theorem dL_law_513 : decode cL_law 513 = .ok (.aload_n 2, 1) := by decide +kernel
theorem dL_law_514 : decode cL_law 514 = .ok (.invokevirtual 76, 3) := by decide +kernel
theorem dL_law_517 : decode cL_law 517 = .ok (.iload 5, 2) := by decide +kernel
theorem dL_law_519 : decode cL_law 519 = .ok (.if_icmp .eq 5, 3) := by decide +kernel
theorem dL_law_522 : decode cL_law 522 = .ok (.iconst 0, 1) := by decide +kernel
theorem dL_law_523 : decode cL_law 523 = .ok (.ireturn, 1) := by decide +kernel
theorem dL_law_524 : decode cL_law 524 = .ok (.iload 5, 2) := by decide +kernel
theorem dL_law_526 : decode cL_law 526 = .ok (.ifCond .ne 15, 3) := by decide +kernel
theorem dL_law_529 : decode cL_law 529 = .ok (.aload_n 3, 1) := by decide +kernel
theorem dL_law_530 : decode cL_law 530 = .ok (.iconst 0, 1) := by decide +kernel
theorem dL_law_531 : decode cL_law 531 = .ok (.laload, 1) := by decide +kernel
theorem dL_law_532 : decode cL_law 532 = .ok (.iload 6, 2) := by decide +kernel
theorem dL_law_534 : decode cL_law 534 = .ok (.i2l, 1) := by decide +kernel
theorem dL_law_535 : decode cL_law 535 = .ok (.lcmp, 1) := by decide +kernel
theorem dL_law_536 : decode cL_law 536 = .ok (.ifCond .eq 5, 3) := by decide +kernel
theorem dL_law_539 : decode cL_law 539 = .ok (.iconst 0, 1) := by decide +kernel
theorem dL_law_540 : decode cL_law 540 = .ok (.ireturn, 1) := by decide +kernel
theorem dL_law_541 : decode cL_law 541 = .ok (.goto 678, 3) := by decide +kernel
theorem dL_law_544 : decode cL_law 544 = .ok (.aload_n 1, 1) := by decide +kernel
theorem dL_law_545 : decode cL_law 545 = .ok (.aload_n 0, 1) := by decide +kernel
theorem dL_law_546 : decode cL_law 546 = .ok (.iload 4, 2) := by decide +kernel
theorem dL_law_548 : decode cL_law 548 = .ok (.iconst 1, 1) := by decide +kernel
theorem dL_law_549 : decode cL_law 549 = .ok (.iadd, 1) := by decide +kernel
theorem dL_law_550 : decode cL_law 550 = .ok (.iaload, 1) := by decide +kernel
theorem dL_law_551 : decode cL_law 551 = .ok (.aload_n 0, 1) := by decide +kernel
theorem dL_law_552 : decode cL_law 552 = .ok (.iload 4, 2) := by decide +kernel
theorem dL_law_554 : decode cL_law 554 = .ok (.iconst 2, 1) := by decide +kernel
theorem dL_law_555 : decode cL_law 555 = .ok (.iadd, 1) := by decide +kernel
theorem dL_law_556 : decode cL_law 556 = .ok (.iaload, 1) := by decide +kernel
theorem dL_law_557 : decode cL_law 557 = .ok (.aload_n 3, 1) := by decide +kernel
theorem dL_law_558 : decode cL_law 558 = .ok (.invokestatic 97, 3) := by decide +kernel
theorem dL_law_561 : decode cL_law 561 = .ok (.istore 5, 2) := by decide +kernel
theorem dL_law_563 : decode cL_law 563 = .ok (.aload_n 2, 1) := by decide +kernel
theorem dL_law_564 : decode cL_law 564 = .ok (.aload_n 0, 1) := by decide +kernel
theorem dL_law_565 : decode cL_law 565 = .ok (.iload 4, 2) := by decide +kernel
theorem dL_law_567 : decode cL_law 567 = .ok (.iconst 1, 1) := by decide +kernel
theorem dL_law_568 : decode cL_law 568 = .ok (.iadd, 1) := by decide +kernel
theorem dL_law_569 : decode cL_law 569 = .ok (.iaload, 1) := by decide +kernel
theorem dL_law_570 : decode cL_law 570 = .ok (.aload_n 0, 1) := by decide +kernel
theorem dL_law_571 : decode cL_law 571 = .ok (.iload 4, 2) := by decide +kernel
theorem dL_law_573 : decode cL_law 573 = .ok (.iconst 2, 1) := by decide +kernel
theorem dL_law_574 : decode cL_law 574 = .ok (.iadd, 1) := by decide +kernel
theorem dL_law_575 : decode cL_law 575 = .ok (.iaload, 1) := by decide +kernel
theorem dL_law_576 : decode cL_law 576 = .ok (.invokevirtual 99, 3) := by decide +kernel
theorem dL_law_579 : decode cL_law 579 = .ok (.istore 6, 2) := by decide +kernel
theorem dL_law_581 : decode cL_law 581 = .ok (.aload_n 2, 1) := by decide +kernel
theorem dL_law_582 : decode cL_law 582 = .ok (.invokevirtual 76, 3) := by decide +kernel
theorem dL_law_585 : decode cL_law 585 = .ok (.iload 5, 2) := by decide +kernel
theorem dL_law_587 : decode cL_law 587 = .ok (.if_icmp .eq 5, 3) := by decide +kernel
theorem dL_law_590 : decode cL_law 590 = .ok (.iconst 0, 1) := by decide +kernel
theorem dL_law_591 : decode cL_law 591 = .ok (.ireturn, 1) := by decide +kernel
theorem dL_law_592 : decode cL_law 592 = .ok (.iload 5, 2) := by decide +kernel
theorem dL_law_594 : decode cL_law 594 = .ok (.ifCond .ne 15, 3) := by decide +kernel
theorem dL_law_597 : decode cL_law 597 = .ok (.aload_n 3, 1) := by decide +kernel
theorem dL_law_598 : decode cL_law 598 = .ok (.iconst 0, 1) := by decide +kernel
theorem dL_law_599 : decode cL_law 599 = .ok (.laload, 1) := by decide +kernel
theorem dL_law_600 : decode cL_law 600 = .ok (.iload 6, 2) := by decide +kernel
theorem dL_law_602 : decode cL_law 602 = .ok (.i2l, 1) := by decide +kernel
theorem dL_law_603 : decode cL_law 603 = .ok (.lcmp, 1) := by decide +kernel
theorem dL_law_604 : decode cL_law 604 = .ok (.ifCond .eq 5, 3) := by decide +kernel
theorem dL_law_607 : decode cL_law 607 = .ok (.iconst 0, 1) := by decide +kernel
theorem dL_law_608 : decode cL_law 608 = .ok (.ireturn, 1) := by decide +kernel
theorem dL_law_609 : decode cL_law 609 = .ok (.goto 610, 3) := by decide +kernel
theorem dL_law_612 : decode cL_law 612 = .ok (.aload_n 1, 1) := by decide +kernel
theorem dL_law_613 : decode cL_law 613 = .ok (.aload_n 0, 1) := by decide +kernel
theorem dL_law_614 : decode cL_law 614 = .ok (.iload 4, 2) := by decide +kernel
theorem dL_law_616 : decode cL_law 616 = .ok (.iconst 1, 1) := by decide +kernel
theorem dL_law_617 : decode cL_law 617 = .ok (.iadd, 1) := by decide +kernel
theorem dL_law_618 : decode cL_law 618 = .ok (.iaload, 1) := by decide +kernel
theorem dL_law_619 : decode cL_law 619 = .ok (.aload_n 3, 1) := by decide +kernel
theorem dL_law_620 : decode cL_law 620 = .ok (.invokestatic 100, 3) := by decide +kernel
theorem dL_law_623 : decode cL_law 623 = .ok (.istore 5, 2) := by decide +kernel
theorem dL_law_625 : decode cL_law 625 = .ok (.aload_n 2, 1) := by decide +kernel
theorem dL_law_626 : decode cL_law 626 = .ok (.aload_n 0, 1) := by decide +kernel
theorem dL_law_627 : decode cL_law 627 = .ok (.iload 4, 2) := by decide +kernel
theorem dL_law_629 : decode cL_law 629 = .ok (.iconst 1, 1) := by decide +kernel
theorem dL_law_630 : decode cL_law 630 = .ok (.iadd, 1) := by decide +kernel
theorem dL_law_631 : decode cL_law 631 = .ok (.iaload, 1) := by decide +kernel
theorem dL_law_632 : decode cL_law 632 = .ok (.invokevirtual 102, 3) := by decide +kernel
theorem dL_law_635 : decode cL_law 635 = .ok (.istore 6, 2) := by decide +kernel
theorem dL_law_637 : decode cL_law 637 = .ok (.aload_n 2, 1) := by decide +kernel
theorem dL_law_638 : decode cL_law 638 = .ok (.invokevirtual 76, 3) := by decide +kernel
theorem dL_law_641 : decode cL_law 641 = .ok (.iload 5, 2) := by decide +kernel
theorem dL_law_643 : decode cL_law 643 = .ok (.if_icmp .eq 5, 3) := by decide +kernel
theorem dL_law_646 : decode cL_law 646 = .ok (.iconst 0, 1) := by decide +kernel
theorem dL_law_647 : decode cL_law 647 = .ok (.ireturn, 1) := by decide +kernel
theorem dL_law_648 : decode cL_law 648 = .ok (.iload 5, 2) := by decide +kernel
theorem dL_law_650 : decode cL_law 650 = .ok (.ifCond .ne 15, 3) := by decide +kernel
theorem dL_law_653 : decode cL_law 653 = .ok (.aload_n 3, 1) := by decide +kernel
theorem dL_law_654 : decode cL_law 654 = .ok (.iconst 0, 1) := by decide +kernel
theorem dL_law_655 : decode cL_law 655 = .ok (.laload, 1) := by decide +kernel
theorem dL_law_656 : decode cL_law 656 = .ok (.iload 6, 2) := by decide +kernel
theorem dL_law_658 : decode cL_law 658 = .ok (.i2l, 1) := by decide +kernel
theorem dL_law_659 : decode cL_law 659 = .ok (.lcmp, 1) := by decide +kernel
theorem dL_law_660 : decode cL_law 660 = .ok (.ifCond .eq 5, 3) := by decide +kernel
theorem dL_law_663 : decode cL_law 663 = .ok (.iconst 0, 1) := by decide +kernel
theorem dL_law_664 : decode cL_law 664 = .ok (.ireturn, 1) := by decide +kernel
theorem dL_law_665 : decode cL_law 665 = .ok (.goto 554, 3) := by decide +kernel
theorem dL_law_668 : decode cL_law 668 = .ok (.aload_n 1, 1) := by decide +kernel
theorem dL_law_669 : decode cL_law 669 = .ok (.aload_n 0, 1) := by decide +kernel
theorem dL_law_670 : decode cL_law 670 = .ok (.iload 4, 2) := by decide +kernel
theorem dL_law_672 : decode cL_law 672 = .ok (.iconst 1, 1) := by decide +kernel
theorem dL_law_673 : decode cL_law 673 = .ok (.iadd, 1) := by decide +kernel
theorem dL_law_674 : decode cL_law 674 = .ok (.iaload, 1) := by decide +kernel
theorem dL_law_675 : decode cL_law 675 = .ok (.aload_n 0, 1) := by decide +kernel
theorem dL_law_676 : decode cL_law 676 = .ok (.iload 4, 2) := by decide +kernel
theorem dL_law_678 : decode cL_law 678 = .ok (.iconst 2, 1) := by decide +kernel
theorem dL_law_679 : decode cL_law 679 = .ok (.iadd, 1) := by decide +kernel
theorem dL_law_680 : decode cL_law 680 = .ok (.iaload, 1) := by decide +kernel
theorem dL_law_681 : decode cL_law 681 = .ok (.aload_n 3, 1) := by decide +kernel
theorem dL_law_682 : decode cL_law 682 = .ok (.invokestatic 103, 3) := by decide +kernel
theorem dL_law_685 : decode cL_law 685 = .ok (.istore 5, 2) := by decide +kernel
theorem dL_law_687 : decode cL_law 687 = .ok (.aload_n 2, 1) := by decide +kernel
theorem dL_law_688 : decode cL_law 688 = .ok (.aload_n 0, 1) := by decide +kernel
theorem dL_law_689 : decode cL_law 689 = .ok (.iload 4, 2) := by decide +kernel
theorem dL_law_691 : decode cL_law 691 = .ok (.iconst 1, 1) := by decide +kernel
theorem dL_law_692 : decode cL_law 692 = .ok (.iadd, 1) := by decide +kernel
theorem dL_law_693 : decode cL_law 693 = .ok (.iaload, 1) := by decide +kernel
theorem dL_law_694 : decode cL_law 694 = .ok (.aload_n 0, 1) := by decide +kernel
theorem dL_law_695 : decode cL_law 695 = .ok (.iload 4, 2) := by decide +kernel
theorem dL_law_697 : decode cL_law 697 = .ok (.iconst 2, 1) := by decide +kernel
theorem dL_law_698 : decode cL_law 698 = .ok (.iadd, 1) := by decide +kernel
theorem dL_law_699 : decode cL_law 699 = .ok (.iaload, 1) := by decide +kernel
theorem dL_law_700 : decode cL_law 700 = .ok (.invokevirtual 105, 3) := by decide +kernel
theorem dL_law_703 : decode cL_law 703 = .ok (.istore 6, 2) := by decide +kernel
theorem dL_law_705 : decode cL_law 705 = .ok (.aload_n 2, 1) := by decide +kernel
theorem dL_law_706 : decode cL_law 706 = .ok (.invokevirtual 76, 3) := by decide +kernel
theorem dL_law_709 : decode cL_law 709 = .ok (.iload 5, 2) := by decide +kernel
theorem dL_law_711 : decode cL_law 711 = .ok (.if_icmp .eq 5, 3) := by decide +kernel
theorem dL_law_714 : decode cL_law 714 = .ok (.iconst 0, 1) := by decide +kernel
theorem dL_law_715 : decode cL_law 715 = .ok (.ireturn, 1) := by decide +kernel
theorem dL_law_716 : decode cL_law 716 = .ok (.iload 5, 2) := by decide +kernel
theorem dL_law_718 : decode cL_law 718 = .ok (.ifCond .ne 15, 3) := by decide +kernel
theorem dL_law_721 : decode cL_law 721 = .ok (.aload_n 3, 1) := by decide +kernel
theorem dL_law_722 : decode cL_law 722 = .ok (.iconst 0, 1) := by decide +kernel
theorem dL_law_723 : decode cL_law 723 = .ok (.laload, 1) := by decide +kernel
theorem dL_law_724 : decode cL_law 724 = .ok (.iload 6, 2) := by decide +kernel
theorem dL_law_726 : decode cL_law 726 = .ok (.i2l, 1) := by decide +kernel
theorem dL_law_727 : decode cL_law 727 = .ok (.lcmp, 1) := by decide +kernel
theorem dL_law_728 : decode cL_law 728 = .ok (.ifCond .eq 5, 3) := by decide +kernel
theorem dL_law_731 : decode cL_law 731 = .ok (.iconst 0, 1) := by decide +kernel
theorem dL_law_732 : decode cL_law 732 = .ok (.ireturn, 1) := by decide +kernel
theorem dL_law_733 : decode cL_law 733 = .ok (.goto 486, 3) := by decide +kernel
theorem dL_law_736 : decode cL_law 736 = .ok (.aload_n 1, 1) := by decide +kernel
theorem dL_law_737 : decode cL_law 737 = .ok (.aload_n 0, 1) := by decide +kernel
theorem dL_law_738 : decode cL_law 738 = .ok (.iload 4, 2) := by decide +kernel
theorem dL_law_740 : decode cL_law 740 = .ok (.iconst 1, 1) := by decide +kernel
theorem dL_law_741 : decode cL_law 741 = .ok (.iadd, 1) := by decide +kernel
theorem dL_law_742 : decode cL_law 742 = .ok (.iaload, 1) := by decide +kernel
theorem dL_law_743 : decode cL_law 743 = .ok (.aload_n 0, 1) := by decide +kernel
theorem dL_law_744 : decode cL_law 744 = .ok (.iload 4, 2) := by decide +kernel
theorem dL_law_746 : decode cL_law 746 = .ok (.iconst 2, 1) := by decide +kernel
theorem dL_law_747 : decode cL_law 747 = .ok (.iadd, 1) := by decide +kernel
theorem dL_law_748 : decode cL_law 748 = .ok (.iaload, 1) := by decide +kernel
theorem dL_law_749 : decode cL_law 749 = .ok (.aload_n 3, 1) := by decide +kernel
theorem dL_law_750 : decode cL_law 750 = .ok (.invokestatic 106, 3) := by decide +kernel
theorem dL_law_753 : decode cL_law 753 = .ok (.istore 5, 2) := by decide +kernel
theorem dL_law_755 : decode cL_law 755 = .ok (.aload_n 2, 1) := by decide +kernel
theorem dL_law_756 : decode cL_law 756 = .ok (.aload_n 0, 1) := by decide +kernel
theorem dL_law_757 : decode cL_law 757 = .ok (.iload 4, 2) := by decide +kernel
theorem dL_law_759 : decode cL_law 759 = .ok (.iconst 1, 1) := by decide +kernel
theorem dL_law_760 : decode cL_law 760 = .ok (.iadd, 1) := by decide +kernel
theorem dL_law_761 : decode cL_law 761 = .ok (.iaload, 1) := by decide +kernel
theorem dL_law_762 : decode cL_law 762 = .ok (.aload_n 0, 1) := by decide +kernel
theorem dL_law_763 : decode cL_law 763 = .ok (.iload 4, 2) := by decide +kernel
theorem dL_law_765 : decode cL_law 765 = .ok (.iconst 2, 1) := by decide +kernel
theorem dL_law_766 : decode cL_law 766 = .ok (.iadd, 1) := by decide +kernel
theorem dL_law_767 : decode cL_law 767 = .ok (.iaload, 1) := by decide +kernel
theorem dL_law_768 : decode cL_law 768 = .ok (.invokevirtual 108, 3) := by decide +kernel
theorem dL_law_771 : decode cL_law 771 = .ok (.istore 6, 2) := by decide +kernel
theorem dL_law_773 : decode cL_law 773 = .ok (.aload_n 2, 1) := by decide +kernel
theorem dL_law_774 : decode cL_law 774 = .ok (.invokevirtual 76, 3) := by decide +kernel
theorem dL_law_777 : decode cL_law 777 = .ok (.iload 5, 2) := by decide +kernel
theorem dL_law_779 : decode cL_law 779 = .ok (.if_icmp .eq 5, 3) := by decide +kernel
theorem dL_law_782 : decode cL_law 782 = .ok (.iconst 0, 1) := by decide +kernel
theorem dL_law_783 : decode cL_law 783 = .ok (.ireturn, 1) := by decide +kernel
theorem dL_law_784 : decode cL_law 784 = .ok (.iload 5, 2) := by decide +kernel
theorem dL_law_786 : decode cL_law 786 = .ok (.ifCond .ne 15, 3) := by decide +kernel
theorem dL_law_789 : decode cL_law 789 = .ok (.aload_n 3, 1) := by decide +kernel
theorem dL_law_790 : decode cL_law 790 = .ok (.iconst 0, 1) := by decide +kernel
theorem dL_law_791 : decode cL_law 791 = .ok (.laload, 1) := by decide +kernel
theorem dL_law_792 : decode cL_law 792 = .ok (.iload 6, 2) := by decide +kernel
theorem dL_law_794 : decode cL_law 794 = .ok (.i2l, 1) := by decide +kernel
theorem dL_law_795 : decode cL_law 795 = .ok (.lcmp, 1) := by decide +kernel
theorem dL_law_796 : decode cL_law 796 = .ok (.ifCond .eq 5, 3) := by decide +kernel
theorem dL_law_799 : decode cL_law 799 = .ok (.iconst 0, 1) := by decide +kernel
theorem dL_law_800 : decode cL_law 800 = .ok (.ireturn, 1) := by decide +kernel
theorem dL_law_801 : decode cL_law 801 = .ok (.goto 418, 3) := by decide +kernel
theorem dL_law_804 : decode cL_law 804 = .ok (.aload_n 1, 1) := by decide +kernel
theorem dL_law_805 : decode cL_law 805 = .ok (.aload_n 0, 1) := by decide +kernel
theorem dL_law_806 : decode cL_law 806 = .ok (.iload 4, 2) := by decide +kernel
theorem dL_law_808 : decode cL_law 808 = .ok (.iconst 1, 1) := by decide +kernel
theorem dL_law_809 : decode cL_law 809 = .ok (.iadd, 1) := by decide +kernel
theorem dL_law_810 : decode cL_law 810 = .ok (.iaload, 1) := by decide +kernel
theorem dL_law_811 : decode cL_law 811 = .ok (.aload_n 3, 1) := by decide +kernel
theorem dL_law_812 : decode cL_law 812 = .ok (.invokestatic 109, 3) := by decide +kernel
theorem dL_law_815 : decode cL_law 815 = .ok (.istore 5, 2) := by decide +kernel
theorem dL_law_817 : decode cL_law 817 = .ok (.aload_n 2, 1) := by decide +kernel
theorem dL_law_818 : decode cL_law 818 = .ok (.aload_n 0, 1) := by decide +kernel
theorem dL_law_819 : decode cL_law 819 = .ok (.iload 4, 2) := by decide +kernel
theorem dL_law_821 : decode cL_law 821 = .ok (.iconst 1, 1) := by decide +kernel
theorem dL_law_822 : decode cL_law 822 = .ok (.iadd, 1) := by decide +kernel
theorem dL_law_823 : decode cL_law 823 = .ok (.iaload, 1) := by decide +kernel
theorem dL_law_824 : decode cL_law 824 = .ok (.invokevirtual 111, 3) := by decide +kernel
theorem dL_law_827 : decode cL_law 827 = .ok (.istore 6, 2) := by decide +kernel
theorem dL_law_829 : decode cL_law 829 = .ok (.aload_n 2, 1) := by decide +kernel
theorem dL_law_830 : decode cL_law 830 = .ok (.invokevirtual 76, 3) := by decide +kernel
theorem dL_law_833 : decode cL_law 833 = .ok (.iload 5, 2) := by decide +kernel
theorem dL_law_835 : decode cL_law 835 = .ok (.if_icmp .eq 5, 3) := by decide +kernel
theorem dL_law_838 : decode cL_law 838 = .ok (.iconst 0, 1) := by decide +kernel
theorem dL_law_839 : decode cL_law 839 = .ok (.ireturn, 1) := by decide +kernel
theorem dL_law_840 : decode cL_law 840 = .ok (.iload 5, 2) := by decide +kernel
theorem dL_law_842 : decode cL_law 842 = .ok (.ifCond .ne 15, 3) := by decide +kernel
theorem dL_law_845 : decode cL_law 845 = .ok (.aload_n 3, 1) := by decide +kernel
theorem dL_law_846 : decode cL_law 846 = .ok (.iconst 0, 1) := by decide +kernel
theorem dL_law_847 : decode cL_law 847 = .ok (.laload, 1) := by decide +kernel
theorem dL_law_848 : decode cL_law 848 = .ok (.iload 6, 2) := by decide +kernel
theorem dL_law_850 : decode cL_law 850 = .ok (.i2l, 1) := by decide +kernel
theorem dL_law_851 : decode cL_law 851 = .ok (.lcmp, 1) := by decide +kernel
theorem dL_law_852 : decode cL_law 852 = .ok (.ifCond .eq 5, 3) := by decide +kernel
theorem dL_law_855 : decode cL_law 855 = .ok (.iconst 0, 1) := by decide +kernel
theorem dL_law_856 : decode cL_law 856 = .ok (.ireturn, 1) := by decide +kernel
theorem dL_law_857 : decode cL_law 857 = .ok (.goto 362, 3) := by decide +kernel
theorem dL_law_860 : decode cL_law 860 = .ok (.aload_n 1, 1) := by decide +kernel
theorem dL_law_861 : decode cL_law 861 = .ok (.aload_n 0, 1) := by decide +kernel
theorem dL_law_862 : decode cL_law 862 = .ok (.iload 4, 2) := by decide +kernel
theorem dL_law_864 : decode cL_law 864 = .ok (.iconst 1, 1) := by decide +kernel
theorem dL_law_865 : decode cL_law 865 = .ok (.iadd, 1) := by decide +kernel
theorem dL_law_866 : decode cL_law 866 = .ok (.iaload, 1) := by decide +kernel
theorem dL_law_867 : decode cL_law 867 = .ok (.aload_n 3, 1) := by decide +kernel
theorem dL_law_868 : decode cL_law 868 = .ok (.invokestatic 112, 3) := by decide +kernel
theorem dL_law_871 : decode cL_law 871 = .ok (.istore 5, 2) := by decide +kernel
theorem dL_law_873 : decode cL_law 873 = .ok (.aload_n 2, 1) := by decide +kernel
theorem dL_law_874 : decode cL_law 874 = .ok (.aload_n 0, 1) := by decide +kernel
theorem dL_law_875 : decode cL_law 875 = .ok (.iload 4, 2) := by decide +kernel
theorem dL_law_877 : decode cL_law 877 = .ok (.iconst 1, 1) := by decide +kernel
theorem dL_law_878 : decode cL_law 878 = .ok (.iadd, 1) := by decide +kernel
theorem dL_law_879 : decode cL_law 879 = .ok (.iaload, 1) := by decide +kernel
theorem dL_law_880 : decode cL_law 880 = .ok (.invokevirtual 114, 3) := by decide +kernel
theorem dL_law_883 : decode cL_law 883 = .ok (.istore 6, 2) := by decide +kernel
theorem dL_law_885 : decode cL_law 885 = .ok (.aload_n 2, 1) := by decide +kernel
theorem dL_law_886 : decode cL_law 886 = .ok (.invokevirtual 76, 3) := by decide +kernel
theorem dL_law_889 : decode cL_law 889 = .ok (.iload 5, 2) := by decide +kernel
theorem dL_law_891 : decode cL_law 891 = .ok (.if_icmp .eq 5, 3) := by decide +kernel
theorem dL_law_894 : decode cL_law 894 = .ok (.iconst 0, 1) := by decide +kernel
theorem dL_law_895 : decode cL_law 895 = .ok (.ireturn, 1) := by decide +kernel
theorem dL_law_896 : decode cL_law 896 = .ok (.iload 5, 2) := by decide +kernel
theorem dL_law_898 : decode cL_law 898 = .ok (.ifCond .ne 15, 3) := by decide +kernel
theorem dL_law_901 : decode cL_law 901 = .ok (.aload_n 3, 1) := by decide +kernel
theorem dL_law_902 : decode cL_law 902 = .ok (.iconst 0, 1) := by decide +kernel
theorem dL_law_903 : decode cL_law 903 = .ok (.laload, 1) := by decide +kernel
theorem dL_law_904 : decode cL_law 904 = .ok (.iload 6, 2) := by decide +kernel
theorem dL_law_906 : decode cL_law 906 = .ok (.i2l, 1) := by decide +kernel
theorem dL_law_907 : decode cL_law 907 = .ok (.lcmp, 1) := by decide +kernel
theorem dL_law_908 : decode cL_law 908 = .ok (.ifCond .eq 5, 3) := by decide +kernel
theorem dL_law_911 : decode cL_law 911 = .ok (.iconst 0, 1) := by decide +kernel
theorem dL_law_912 : decode cL_law 912 = .ok (.ireturn, 1) := by decide +kernel
theorem dL_law_913 : decode cL_law 913 = .ok (.goto 306, 3) := by decide +kernel
theorem dL_law_916 : decode cL_law 916 = .ok (.aload_n 1, 1) := by decide +kernel
theorem dL_law_917 : decode cL_law 917 = .ok (.aload_n 0, 1) := by decide +kernel
theorem dL_law_918 : decode cL_law 918 = .ok (.iload 4, 2) := by decide +kernel
theorem dL_law_920 : decode cL_law 920 = .ok (.iconst 1, 1) := by decide +kernel
theorem dL_law_921 : decode cL_law 921 = .ok (.iadd, 1) := by decide +kernel
theorem dL_law_922 : decode cL_law 922 = .ok (.iaload, 1) := by decide +kernel
theorem dL_law_923 : decode cL_law 923 = .ok (.aload_n 0, 1) := by decide +kernel
theorem dL_law_924 : decode cL_law 924 = .ok (.iload 4, 2) := by decide +kernel
theorem dL_law_926 : decode cL_law 926 = .ok (.iconst 2, 1) := by decide +kernel
theorem dL_law_927 : decode cL_law 927 = .ok (.iadd, 1) := by decide +kernel
theorem dL_law_928 : decode cL_law 928 = .ok (.iaload, 1) := by decide +kernel
theorem dL_law_929 : decode cL_law 929 = .ok (.aload_n 3, 1) := by decide +kernel
theorem dL_law_930 : decode cL_law 930 = .ok (.invokestatic 115, 3) := by decide +kernel
theorem dL_law_933 : decode cL_law 933 = .ok (.istore 5, 2) := by decide +kernel
theorem dL_law_935 : decode cL_law 935 = .ok (.aload_n 2, 1) := by decide +kernel
theorem dL_law_936 : decode cL_law 936 = .ok (.aload_n 0, 1) := by decide +kernel
theorem dL_law_937 : decode cL_law 937 = .ok (.iload 4, 2) := by decide +kernel
theorem dL_law_939 : decode cL_law 939 = .ok (.iconst 1, 1) := by decide +kernel
theorem dL_law_940 : decode cL_law 940 = .ok (.iadd, 1) := by decide +kernel
theorem dL_law_941 : decode cL_law 941 = .ok (.iaload, 1) := by decide +kernel
theorem dL_law_942 : decode cL_law 942 = .ok (.aload_n 0, 1) := by decide +kernel
theorem dL_law_943 : decode cL_law 943 = .ok (.iload 4, 2) := by decide +kernel
theorem dL_law_945 : decode cL_law 945 = .ok (.iconst 2, 1) := by decide +kernel
theorem dL_law_946 : decode cL_law 946 = .ok (.iadd, 1) := by decide +kernel
theorem dL_law_947 : decode cL_law 947 = .ok (.iaload, 1) := by decide +kernel
theorem dL_law_948 : decode cL_law 948 = .ok (.invokevirtual 117, 3) := by decide +kernel
theorem dL_law_951 : decode cL_law 951 = .ok (.istore 6, 2) := by decide +kernel
theorem dL_law_953 : decode cL_law 953 = .ok (.aload_n 2, 1) := by decide +kernel
theorem dL_law_954 : decode cL_law 954 = .ok (.invokevirtual 76, 3) := by decide +kernel
theorem dL_law_957 : decode cL_law 957 = .ok (.iload 5, 2) := by decide +kernel
theorem dL_law_959 : decode cL_law 959 = .ok (.if_icmp .eq 5, 3) := by decide +kernel
theorem dL_law_962 : decode cL_law 962 = .ok (.iconst 0, 1) := by decide +kernel
theorem dL_law_963 : decode cL_law 963 = .ok (.ireturn, 1) := by decide +kernel
theorem dL_law_964 : decode cL_law 964 = .ok (.iload 5, 2) := by decide +kernel
theorem dL_law_966 : decode cL_law 966 = .ok (.ifCond .ne 15, 3) := by decide +kernel
theorem dL_law_969 : decode cL_law 969 = .ok (.aload_n 3, 1) := by decide +kernel
theorem dL_law_970 : decode cL_law 970 = .ok (.iconst 0, 1) := by decide +kernel
theorem dL_law_971 : decode cL_law 971 = .ok (.laload, 1) := by decide +kernel
theorem dL_law_972 : decode cL_law 972 = .ok (.iload 6, 2) := by decide +kernel
theorem dL_law_974 : decode cL_law 974 = .ok (.i2l, 1) := by decide +kernel
theorem dL_law_975 : decode cL_law 975 = .ok (.lcmp, 1) := by decide +kernel
theorem dL_law_976 : decode cL_law 976 = .ok (.ifCond .eq 5, 3) := by decide +kernel
theorem dL_law_979 : decode cL_law 979 = .ok (.iconst 0, 1) := by decide +kernel
theorem dL_law_980 : decode cL_law 980 = .ok (.ireturn, 1) := by decide +kernel
theorem dL_law_981 : decode cL_law 981 = .ok (.goto 238, 3) := by decide +kernel
theorem dL_law_984 : decode cL_law 984 = .ok (.aload_n 1, 1) := by decide +kernel
theorem dL_law_985 : decode cL_law 985 = .ok (.aload_n 0, 1) := by decide +kernel
theorem dL_law_986 : decode cL_law 986 = .ok (.iload 4, 2) := by decide +kernel
theorem dL_law_988 : decode cL_law 988 = .ok (.iconst 1, 1) := by decide +kernel
theorem dL_law_989 : decode cL_law 989 = .ok (.iadd, 1) := by decide +kernel
theorem dL_law_990 : decode cL_law 990 = .ok (.iaload, 1) := by decide +kernel
theorem dL_law_991 : decode cL_law 991 = .ok (.aload_n 3, 1) := by decide +kernel
theorem dL_law_992 : decode cL_law 992 = .ok (.invokestatic 118, 3) := by decide +kernel
theorem dL_law_995 : decode cL_law 995 = .ok (.istore 5, 2) := by decide +kernel
theorem dL_law_997 : decode cL_law 997 = .ok (.aload_n 2, 1) := by decide +kernel
theorem dL_law_998 : decode cL_law 998 = .ok (.aload_n 0, 1) := by decide +kernel
theorem dL_law_999 : decode cL_law 999 = .ok (.iload 4, 2) := by decide +kernel
theorem dL_law_1001 : decode cL_law 1001 = .ok (.iconst 1, 1) := by decide +kernel
theorem dL_law_1002 : decode cL_law 1002 = .ok (.iadd, 1) := by decide +kernel
theorem dL_law_1003 : decode cL_law 1003 = .ok (.iaload, 1) := by decide +kernel
theorem dL_law_1004 : decode cL_law 1004 = .ok (.invokevirtual 120, 3) := by decide +kernel
theorem dL_law_1007 : decode cL_law 1007 = .ok (.istore 6, 2) := by decide +kernel
theorem dL_law_1009 : decode cL_law 1009 = .ok (.aload_n 2, 1) := by decide +kernel
theorem dL_law_1010 : decode cL_law 1010 = .ok (.invokevirtual 76, 3) := by decide +kernel
theorem dL_law_1013 : decode cL_law 1013 = .ok (.iload 5, 2) := by decide +kernel
theorem dL_law_1015 : decode cL_law 1015 = .ok (.if_icmp .eq 5, 3) := by decide +kernel
theorem dL_law_1018 : decode cL_law 1018 = .ok (.iconst 0, 1) := by decide +kernel
theorem dL_law_1019 : decode cL_law 1019 = .ok (.ireturn, 1) := by decide +kernel
theorem dL_law_1020 : decode cL_law 1020 = .ok (.iload 5, 2) := by decide +kernel
theorem dL_law_1022 : decode cL_law 1022 = .ok (.ifCond .ne 15, 3) := by decide +kernel
theorem dL_law_1025 : decode cL_law 1025 = .ok (.aload_n 3, 1) := by decide +kernel
theorem dL_law_1026 : decode cL_law 1026 = .ok (.iconst 0, 1) := by decide +kernel
theorem dL_law_1027 : decode cL_law 1027 = .ok (.laload, 1) := by decide +kernel
theorem dL_law_1028 : decode cL_law 1028 = .ok (.iload 6, 2) := by decide +kernel
theorem dL_law_1030 : decode cL_law 1030 = .ok (.i2l, 1) := by decide +kernel
theorem dL_law_1031 : decode cL_law 1031 = .ok (.lcmp, 1) := by decide +kernel
theorem dL_law_1032 : decode cL_law 1032 = .ok (.ifCond .eq 5, 3) := by decide +kernel
theorem dL_law_1035 : decode cL_law 1035 = .ok (.iconst 0, 1) := by decide +kernel
theorem dL_law_1036 : decode cL_law 1036 = .ok (.ireturn, 1) := by decide +kernel
theorem dL_law_1037 : decode cL_law 1037 = .ok (.goto 182, 3) := by decide +kernel
theorem dL_law_1040 : decode cL_law 1040 = .ok (.aload_n 1, 1) := by decide +kernel
theorem dL_law_1041 : decode cL_law 1041 = .ok (.aload_n 0, 1) := by decide +kernel
theorem dL_law_1042 : decode cL_law 1042 = .ok (.iload 4, 2) := by decide +kernel
theorem dL_law_1044 : decode cL_law 1044 = .ok (.iconst 1, 1) := by decide +kernel
theorem dL_law_1045 : decode cL_law 1045 = .ok (.iadd, 1) := by decide +kernel
theorem dL_law_1046 : decode cL_law 1046 = .ok (.iaload, 1) := by decide +kernel
theorem dL_law_1047 : decode cL_law 1047 = .ok (.aload_n 3, 1) := by decide +kernel
theorem dL_law_1048 : decode cL_law 1048 = .ok (.invokestatic 121, 3) := by decide +kernel
theorem dL_law_1051 : decode cL_law 1051 = .ok (.istore 5, 2) := by decide +kernel
theorem dL_law_1053 : decode cL_law 1053 = .ok (.aload_n 2, 1) := by decide +kernel
theorem dL_law_1054 : decode cL_law 1054 = .ok (.aload_n 0, 1) := by decide +kernel
theorem dL_law_1055 : decode cL_law 1055 = .ok (.iload 4, 2) := by decide +kernel
theorem dL_law_1057 : decode cL_law 1057 = .ok (.iconst 1, 1) := by decide +kernel
theorem dL_law_1058 : decode cL_law 1058 = .ok (.iadd, 1) := by decide +kernel
theorem dL_law_1059 : decode cL_law 1059 = .ok (.iaload, 1) := by decide +kernel
theorem dL_law_1060 : decode cL_law 1060 = .ok (.invokevirtual 123, 3) := by decide +kernel
theorem dL_law_1063 : decode cL_law 1063 = .ok (.istore 6, 2) := by decide +kernel
theorem dL_law_1065 : decode cL_law 1065 = .ok (.aload_n 2, 1) := by decide +kernel
theorem dL_law_1066 : decode cL_law 1066 = .ok (.invokevirtual 76, 3) := by decide +kernel
theorem dL_law_1069 : decode cL_law 1069 = .ok (.iload 5, 2) := by decide +kernel
theorem dL_law_1071 : decode cL_law 1071 = .ok (.if_icmp .eq 5, 3) := by decide +kernel
theorem dL_law_1074 : decode cL_law 1074 = .ok (.iconst 0, 1) := by decide +kernel
theorem dL_law_1075 : decode cL_law 1075 = .ok (.ireturn, 1) := by decide +kernel
theorem dL_law_1076 : decode cL_law 1076 = .ok (.iload 5, 2) := by decide +kernel
theorem dL_law_1078 : decode cL_law 1078 = .ok (.ifCond .ne 15, 3) := by decide +kernel
theorem dL_law_1081 : decode cL_law 1081 = .ok (.aload_n 3, 1) := by decide +kernel
theorem dL_law_1082 : decode cL_law 1082 = .ok (.iconst 0, 1) := by decide +kernel
theorem dL_law_1083 : decode cL_law 1083 = .ok (.laload, 1) := by decide +kernel
theorem dL_law_1084 : decode cL_law 1084 = .ok (.iload 6, 2) := by decide +kernel
theorem dL_law_1086 : decode cL_law 1086 = .ok (.i2l, 1) := by decide +kernel
theorem dL_law_1087 : decode cL_law 1087 = .ok (.lcmp, 1) := by decide +kernel
theorem dL_law_1088 : decode cL_law 1088 = .ok (.ifCond .eq 5, 3) := by decide +kernel
theorem dL_law_1091 : decode cL_law 1091 = .ok (.iconst 0, 1) := by decide +kernel
theorem dL_law_1092 : decode cL_law 1092 = .ok (.ireturn, 1) := by decide +kernel
theorem dL_law_1093 : decode cL_law 1093 = .ok (.goto 126, 3) := by decide +kernel
theorem dL_law_1096 : decode cL_law 1096 = .ok (.aload_n 1, 1) := by decide +kernel
theorem dL_law_1097 : decode cL_law 1097 = .ok (.aload_n 0, 1) := by decide +kernel
theorem dL_law_1098 : decode cL_law 1098 = .ok (.iload 4, 2) := by decide +kernel
theorem dL_law_1100 : decode cL_law 1100 = .ok (.iconst 1, 1) := by decide +kernel
theorem dL_law_1101 : decode cL_law 1101 = .ok (.iadd, 1) := by decide +kernel
theorem dL_law_1102 : decode cL_law 1102 = .ok (.iaload, 1) := by decide +kernel
theorem dL_law_1103 : decode cL_law 1103 = .ok (.aload_n 0, 1) := by decide +kernel
theorem dL_law_1104 : decode cL_law 1104 = .ok (.iload 4, 2) := by decide +kernel
theorem dL_law_1106 : decode cL_law 1106 = .ok (.iconst 2, 1) := by decide +kernel
theorem dL_law_1107 : decode cL_law 1107 = .ok (.iadd, 1) := by decide +kernel
theorem dL_law_1108 : decode cL_law 1108 = .ok (.iaload, 1) := by decide +kernel
theorem dL_law_1109 : decode cL_law 1109 = .ok (.aload_n 3, 1) := by decide +kernel
theorem dL_law_1110 : decode cL_law 1110 = .ok (.invokestatic 124, 3) := by decide +kernel
theorem dL_law_1113 : decode cL_law 1113 = .ok (.istore 5, 2) := by decide +kernel
theorem dL_law_1115 : decode cL_law 1115 = .ok (.aload_n 2, 1) := by decide +kernel
theorem dL_law_1116 : decode cL_law 1116 = .ok (.aload_n 0, 1) := by decide +kernel
theorem dL_law_1117 : decode cL_law 1117 = .ok (.iload 4, 2) := by decide +kernel
theorem dL_law_1119 : decode cL_law 1119 = .ok (.iconst 1, 1) := by decide +kernel
theorem dL_law_1120 : decode cL_law 1120 = .ok (.iadd, 1) := by decide +kernel
theorem dL_law_1121 : decode cL_law 1121 = .ok (.iaload, 1) := by decide +kernel
theorem dL_law_1122 : decode cL_law 1122 = .ok (.aload_n 0, 1) := by decide +kernel
theorem dL_law_1123 : decode cL_law 1123 = .ok (.iload 4, 2) := by decide +kernel
theorem dL_law_1125 : decode cL_law 1125 = .ok (.iconst 2, 1) := by decide +kernel
theorem dL_law_1126 : decode cL_law 1126 = .ok (.iadd, 1) := by decide +kernel
theorem dL_law_1127 : decode cL_law 1127 = .ok (.iaload, 1) := by decide +kernel
theorem dL_law_1128 : decode cL_law 1128 = .ok (.invokevirtual 126, 3) := by decide +kernel
theorem dL_law_1131 : decode cL_law 1131 = .ok (.istore 6, 2) := by decide +kernel
theorem dL_law_1133 : decode cL_law 1133 = .ok (.aload_n 2, 1) := by decide +kernel
theorem dL_law_1134 : decode cL_law 1134 = .ok (.invokevirtual 76, 3) := by decide +kernel
theorem dL_law_1137 : decode cL_law 1137 = .ok (.iload 5, 2) := by decide +kernel
theorem dL_law_1139 : decode cL_law 1139 = .ok (.if_icmp .eq 5, 3) := by decide +kernel
theorem dL_law_1142 : decode cL_law 1142 = .ok (.iconst 0, 1) := by decide +kernel
theorem dL_law_1143 : decode cL_law 1143 = .ok (.ireturn, 1) := by decide +kernel
theorem dL_law_1144 : decode cL_law 1144 = .ok (.iload 5, 2) := by decide +kernel
theorem dL_law_1146 : decode cL_law 1146 = .ok (.ifCond .ne 15, 3) := by decide +kernel
theorem dL_law_1149 : decode cL_law 1149 = .ok (.aload_n 3, 1) := by decide +kernel
theorem dL_law_1150 : decode cL_law 1150 = .ok (.iconst 0, 1) := by decide +kernel
theorem dL_law_1151 : decode cL_law 1151 = .ok (.laload, 1) := by decide +kernel
theorem dL_law_1152 : decode cL_law 1152 = .ok (.iload 6, 2) := by decide +kernel
theorem dL_law_1154 : decode cL_law 1154 = .ok (.i2l, 1) := by decide +kernel
theorem dL_law_1155 : decode cL_law 1155 = .ok (.lcmp, 1) := by decide +kernel
theorem dL_law_1156 : decode cL_law 1156 = .ok (.ifCond .eq 5, 3) := by decide +kernel
theorem dL_law_1159 : decode cL_law 1159 = .ok (.iconst 0, 1) := by decide +kernel
theorem dL_law_1160 : decode cL_law 1160 = .ok (.ireturn, 1) := by decide +kernel
theorem dL_law_1161 : decode cL_law 1161 = .ok (.goto 58, 3) := by decide +kernel
theorem dL_law_1164 : decode cL_law 1164 = .ok (.aload_n 1, 1) := by decide +kernel
theorem dL_law_1165 : decode cL_law 1165 = .ok (.invokevirtual 127, 3) := by decide +kernel
theorem dL_law_1168 : decode cL_law 1168 = .ok (.dstore 5, 2) := by decide +kernel
theorem dL_law_1170 : decode cL_law 1170 = .ok (.aload_n 2, 1) := by decide +kernel
theorem dL_law_1171 : decode cL_law 1171 = .ok (.invokevirtual 131, 3) := by decide +kernel
theorem dL_law_1174 : decode cL_law 1174 = .ok (.dstore 7, 2) := by decide +kernel
theorem dL_law_1176 : decode cL_law 1176 = .ok (.dload 5, 2) := by decide +kernel
theorem dL_law_1178 : decode cL_law 1178 = .ok (.dload 7, 2) := by decide +kernel
theorem dL_law_1180 : decode cL_law 1180 = .ok (.dcmp .l, 1) := by decide +kernel
theorem dL_law_1181 : decode cL_law 1181 = .ok (.ifCond .eq 21, 3) := by decide +kernel
theorem dL_law_1184 : decode cL_law 1184 = .ok (.dload 5, 2) := by decide +kernel
theorem dL_law_1186 : decode cL_law 1186 = .ok (.dload 5, 2) := by decide +kernel
theorem dL_law_1188 : decode cL_law 1188 = .ok (.dcmp .l, 1) := by decide +kernel
theorem dL_law_1189 : decode cL_law 1189 = .ok (.ifCond .eq 11, 3) := by decide +kernel
theorem dL_law_1192 : decode cL_law 1192 = .ok (.dload 7, 2) := by decide +kernel
theorem dL_law_1194 : decode cL_law 1194 = .ok (.dload 7, 2) := by decide +kernel
theorem dL_law_1196 : decode cL_law 1196 = .ok (.dcmp .l, 1) := by decide +kernel
theorem dL_law_1197 : decode cL_law 1197 = .ok (.ifCond .ne 5, 3) := by decide +kernel
theorem dL_law_1200 : decode cL_law 1200 = .ok (.iconst 0, 1) := by decide +kernel
theorem dL_law_1201 : decode cL_law 1201 = .ok (.ireturn, 1) := by decide +kernel
theorem dL_law_1202 : decode cL_law 1202 = .ok (.goto 17, 3) := by decide +kernel
theorem dL_law_1205 : decode cL_law 1205 = .ok (.aload_n 1, 1) := by decide +kernel
theorem dL_law_1206 : decode cL_law 1206 = .ok (.invokevirtual 132, 3) := by decide +kernel
theorem dL_law_1209 : decode cL_law 1209 = .ok (.aload_n 2, 1) := by decide +kernel
theorem dL_law_1210 : decode cL_law 1210 = .ok (.invokevirtual 136, 3) := by decide +kernel
theorem dL_law_1213 : decode cL_law 1213 = .ok (.lcmp, 1) := by decide +kernel
theorem dL_law_1214 : decode cL_law 1214 = .ok (.ifCond .eq 5, 3) := by decide +kernel
theorem dL_law_1217 : decode cL_law 1217 = .ok (.iconst 0, 1) := by decide +kernel
theorem dL_law_1218 : decode cL_law 1218 = .ok (.ireturn, 1) := by decide +kernel
theorem dL_law_1219 : decode cL_law 1219 = .ok (.iinc 4 4, 3) := by decide +kernel
theorem dL_law_1222 : decode cL_law 1222 = .ok (.goto (-1199), 3) := by decide +kernel
theorem dL_law_1225 : decode cL_law 1225 = .ok (.iconst 1, 1) := by decide +kernel
theorem dL_law_1226 : decode cL_law 1226 = .ok (.ireturn, 1) := by decide +kernel
abbrev vwCl : List vw_C := [(RX0, TX0, 3), (RX1, TX1, 2), (RX2, TX2, 4), (RX3, TX3, 5), (RX4, TX4, 9), (RX5, TX5, 13)]
end
section
/-! Part 02: what a state of the class (and of the reference) is: two stores (numbers; counts), a table of cells over addresses; what each cell says; what a write to a cell does to the stores. -/
/-- the class numbers of a launch: objects, their slots; arrays of int, Valley, Tour, int[], long -/
abbrev z_GT : Type := (Nat → ClassId) × (Nat → Nat → Nat) × ClassId × ClassId × ClassId × ClassId × ClassId
abbrev z_DD (G : z_GT) : va_G := (G.1, G.2.1)
abbrev z_I (G : z_GT) : ClassId := G.2.2.1
abbrev z_V (G : z_GT) : ClassId := G.2.2.2.1
abbrev z_T (G : z_GT) : ClassId := G.2.2.2.2.1
abbrev z_W (G : z_GT) : ClassId := G.2.2.2.2.2.1
abbrev z_L (G : z_GT) : ClassId := G.2.2.2.2.2.2
abbrev z_ty (G : z_GT) : List (ClassId × FieldType) := [(z_I G, .int), (z_V G, .object RX3), (z_T G, .object RX2), (z_W G, .array .int), (z_L G, .long)]
def z_up {α : Type} (f : Nat → Nat → α) (i j : Nat) (x : α) : Nat → Nat → α := fun a b => if a = i ∧ b = j then x else f a b
theorem z_up_s {α : Type} (f : Nat → Nat → α) (i j : Nat) (x : α) : z_up f i j x i j = x := by simp [z_up]
theorem z_up_1 {α : Type} (f : Nat → Nat → α) {i j a b : Nat} (x : α) (h : a ≠ i) : z_up f i j x a b = f a b := by simp [z_up, h]
theorem z_up_2 {α : Type} (f : Nat → Nat → α) {i j a b : Nat} (x : α) (h : b ≠ j) : z_up f i j x a b = f a b := by simp [z_up, h]
def z_w (n : Nat) (ad : Nat → Nat) (ce : Nat → va_E) : va_W := (List.range n).map (fun k => (ad k, ce k))
theorem z_w_at {n : Nat} {ad : Nat → Nat} {ce : Nat → va_E} {k : Nat} (hk : k < n) : (z_w n ad ce)[k]? = some (ad k, ce k) := by
  simp [z_w, List.getElem?_range hk]
theorem z_w_get {n : Nat} {ad : Nat → Nat} {ce : Nat → va_E} {k : Nat} {e : va_E} (hk : k < n) (he : ce k = e) : (z_w n ad ce)[k]? = some (ad k, e) := by
  subst he
  exact z_w_at hk
theorem z_w_no {n : Nat} {ad : Nat → Nat} {ce : Nat → va_E} {k : Nat} (hk : ¬ k < n) : (z_w n ad ce)[k]? = none := by
  apply List.getElem?_eq_none
  simp [z_w]
  omega
theorem z_w_of {n : Nat} {ad : Nat → Nat} {ce : Nat → va_E} {k : Nat} {q : Nat × va_E} (h : (z_w n ad ce)[k]? = some q) : k < n ∧ q = (ad k, ce k) := by
  by_cases hk : k < n
  · rw [z_w_at hk] at h
    cases h
    exact ⟨hk, rfl⟩
  · rw [z_w_no hk] at h
    cases h
theorem z_w_set {n : Nat} {ad : Nat → Nat} {ce ce' : Nat → va_E} {k : Nat} {e : va_E} (h1 : ce' k = e) (h2 : ∀ j, j ≠ k → ce' j = ce j) : (z_w n ad ce).set k (ad k, e) = z_w n ad ce' := by
  apply List.ext_getElem?
  intro j
  by_cases hj : j = k
  · subst hj
    by_cases hl : j < n
    · rw [List.getElem?_set_self (by simp [z_w, hl]), z_w_get hl h1]
    · rw [z_w_no hl]
      apply List.getElem?_eq_none
      simp [z_w]
      omega
  · rw [List.getElem?_set_ne (Ne.symm hj)]
    by_cases hl : j < n
    · rw [z_w_at hl, z_w_at hl, h2 j hj]
    · rw [z_w_no hl, z_w_no hl]
/-- the addresses of a table of n cells -/
def z_A (n : Nat) (ad : Nat → Nat) : Nat → Prop := fun q => ∃ k : Nat, k < n ∧ q = ad k
theorem z_D {n : Nat} {ad : Nat → Nat} (hi : ∀ i j, i < n → j < n → ad i = ad j → i = j) (ce : Nat → va_E) {A : Nat → Prop} (hA : ∀ k, k < n → A (ad k)) : va_D A (z_w n ad ce) := by
  refine ⟨fun i j p q h1 h2 h3 => ?_, fun k q h => ?_⟩
  · obtain ⟨a1, rfl⟩ := z_w_of h1
    obtain ⟨a2, rfl⟩ := z_w_of h2
    exact hi i j a1 a2 h3
  · obtain ⟨a1, rfl⟩ := z_w_of h
    exact hA k a1
theorem z_Dm {n : Nat} {ad : Nat → Nat} (hi : ∀ i j, i < n → j < n → ad i = ad j → i = j) (ce : Nat → va_E) : va_D (z_A n ad) (z_w n ad ce) := z_D hi ce (fun k hk => ⟨k, hk, rfl⟩)
/-- a table whose cells lie where nothing was written, is as it was -/
theorem z_Pk {n : Nat} {ad : Nat → Nat} {ce : Nat → va_E} {D : va_G} {cl : List vw_C} {H H1 : Heap} (h : va_P D cl (z_w n ad ce) H) {A : Nat → Prop} (hk : ∀ q : Nat, q < H.size → ¬ A q → H1[q]? = H[q]?) (hn : ∀ k, k < n → ¬ A (ad k)) : va_P D cl (z_w n ad ce) H1 := by
  refine h.kept (fun k q hq => ?_)
  have hl := (h k q hq).lt
  obtain ⟨a1, rfl⟩ := z_w_of hq
  exact hk _ hl (hn k a1)
theorem z_Plt {n : Nat} {ad : Nat → Nat} {ce : Nat → va_E} {D : va_G} {cl : List vw_C} {H : Heap} (h : va_P D cl (z_w n ad ce) H) {k : Nat} (hk : k < n) : ad k < H.size := (h k _ (z_w_at hk)).lt
theorem z_Pof {n : Nat} {ad : Nat → Nat} {ce : Nat → va_E} {D : va_G} {cl : List vw_C} {H : Heap} (h : ∀ k, k < n → va_at D cl (ad k, ce k) H) : va_P D cl (z_w n ad ce) H := by
  intro k q hq
  obtain ⟨a1, rfl⟩ := z_w_of hq
  exact h k a1
theorem z_arr {c : ClassId} {N : Nat} {f g : Nat → Value} (h : ∀ j, j < N → f j = g j) : arrV c N f = arrV c N g := by
  unfold arrV
  have : (fun j : Fin N => f j.val) = (fun j : Fin N => g j.val) := funext fun j => h j.val j.isLt
  rw [this]

def z_cC (G : z_GT) (ad : Nat → Nat) (σ : Nat → Nat → Int32) (κ : Nat → Nat → Nat) (k : Nat) : va_E :=
  if k = 0 then .inr (4, [.ref (ad 1), .ref (ad 2), .ref (ad 3), .ref (ad 4), .ref (ad 6), .ref (ad 7), .int (nI (κ 0 0)), .int (nI (κ 0 1)), .int (σ 8 1)]) else
  if k = 1 then .inl (z_V G, 8, .inr (.inr (.inr (.inr (fun j => some (ad (8 + j))))))) else
  if k = 2 then .inl (z_T G, 6, .inr (.inr (.inr (.inr (fun j => some (ad (16 + j))))))) else
  if k = 3 then .inl (z_I G, 10, .inl (fun j => σ 7 j)) else
  if k = 4 then .inr (1, [.ref (ad 5), .int (σ 8 0)]) else
  if k = 5 then .inl (z_W G, 8, .inr (.inr (.inr (.inr (fun j => some (ad (28 + j))))))) else
  if k = 6 then .inr (0, [.int (σ 8 2), .int (σ 8 3), .int (σ 8 4)]) else
  if k = 7 then .inr (0, [.int (σ 8 5), .int (σ 8 6), .int (σ 8 7)]) else
  if k < 16 then .inr (3, [.int (σ 0 (k - 8)), .int (σ 1 (k - 8)), .int (σ 2 (k - 8)), .int (σ 3 (k - 8)), .int (σ 4 (k - 8))]) else
  if k < 22 then .inr (2, [.ref (ad (22 + (k - 16))), .int (nI (κ 1 (k - 16))), .int (σ 5 (k - 16)), .int (σ 6 (k - 16))]) else
  if k < 28 then .inl (z_I G, 5, .inl (fun j => nI (κ (2 + (k - 22)) j))) else .inl (z_I G, 8, .inl (fun j => σ (10 + (k - 28)) j))
abbrev z_wC (G : z_GT) (ad : Nat → Nat) (σ : Nat → Nat → Int32) (κ : Nat → Nat → Nat) : va_W := z_w 36 ad (z_cC G ad σ κ)
def z_cM (G : z_GT) (ad : Nat → Nat) (σ : Nat → Nat → Int32) (κ : Nat → Nat → Nat) (k : Nat) : va_E :=
  if k = 0 then .inr (5, [.int (σ 8 1), .int (nI (κ 0 0)), .ref (ad 1), .ref (ad 2), .ref (ad 3), .int (σ 8 0), .ref (ad 4), .ref (ad 5), .int (nI (κ 0 1)), .ref (ad 6), .ref (ad 7), .ref (ad 8), .ref (ad 9)]) else
  if k = 1 then .inl (z_I G, 8, .inl (fun j => σ 0 j)) else
  if k = 2 then .inl (z_I G, 8, .inl (fun j => σ 1 j)) else
  if k = 3 then .inl (z_I G, 8, .inl (fun j => σ 2 j)) else
  if k = 4 then .inl (z_I G, 64, .inl (fun j => σ 10 j)) else
  if k = 5 then .inl (z_I G, 10, .inl (fun j => σ 7 j)) else
  if k = 6 then .inl (z_I G, 6, .inl (fun j => σ 5 j)) else
  if k = 7 then .inl (z_I G, 6, .inl (fun j => nI (κ 1 j))) else
  if k = 8 then .inl (z_I G, 30, .inl (fun j => nI (κ 2 j))) else
  .inl (z_I G, 4, .inl (fun j => σ 9 j))
abbrev z_wM (G : z_GT) (ad : Nat → Nat) (σ : Nat → Nat → Int32) (κ : Nat → Nat → Nat) : va_W := z_w 10 ad (z_cM G ad σ κ)
section ZG
variable {G : z_GT} {ad : Nat → Nat} {σ : Nat → Nat → Int32} {κ : Nat → Nat → Nat}
theorem z_g0 : (z_wC G ad σ κ)[0]? = some (ad 0, .inr (4, [.ref (ad 1), .ref (ad 2), .ref (ad 3), .ref (ad 4), .ref (ad 6), .ref (ad 7), .int (nI (κ 0 0)), .int (nI (κ 0 1)), .int (σ 8 1)])) := z_w_get (by decide) rfl
theorem z_g1 : (z_wC G ad σ κ)[1]? = some (ad 1, .inl (z_V G, 8, .inr (.inr (.inr (.inr (fun j => some (ad (8 + j)))))))) := z_w_get (by decide) rfl
theorem z_g2 : (z_wC G ad σ κ)[2]? = some (ad 2, .inl (z_T G, 6, .inr (.inr (.inr (.inr (fun j => some (ad (16 + j)))))))) := z_w_get (by decide) rfl
theorem z_g3 : (z_wC G ad σ κ)[3]? = some (ad 3, .inl (z_I G, 10, .inl (fun j => σ 7 j))) := z_w_get (by decide) rfl
theorem z_g4 : (z_wC G ad σ κ)[4]? = some (ad 4, .inr (1, [.ref (ad 5), .int (σ 8 0)])) := z_w_get (by decide) rfl
theorem z_g5 : (z_wC G ad σ κ)[5]? = some (ad 5, .inl (z_W G, 8, .inr (.inr (.inr (.inr (fun j => some (ad (28 + j)))))))) := z_w_get (by decide) rfl
theorem z_g6 : (z_wC G ad σ κ)[6]? = some (ad 6, .inr (0, [.int (σ 8 2), .int (σ 8 3), .int (σ 8 4)])) := z_w_get (by decide) rfl
theorem z_g7 : (z_wC G ad σ κ)[7]? = some (ad 7, .inr (0, [.int (σ 8 5), .int (σ 8 6), .int (σ 8 7)])) := z_w_get (by decide) rfl
theorem z_cV {v : Nat} (h : v < 8) : z_cC G ad σ κ (8 + v) = .inr (3, [.int (σ 0 v), .int (σ 1 v), .int (σ 2 v), .int (σ 3 v), .int (σ 4 v)]) := by
  unfold z_cC
  rw [if_neg (show ¬ (8 + v) = 0 by omega), if_neg (show ¬ (8 + v) = 1 by omega), if_neg (show ¬ (8 + v) = 2 by omega), if_neg (show ¬ (8 + v) = 3 by omega), if_neg (show ¬ (8 + v) = 4 by omega), if_neg (show ¬ (8 + v) = 5 by omega), if_neg (show ¬ (8 + v) = 6 by omega), if_neg (show ¬ (8 + v) = 7 by omega), if_pos (show (8 + v) < 16 by omega), show (8 + v) - 8 = v by omega]
theorem z_gV {v : Nat} (h : v < 8) : (z_wC G ad σ κ)[(8 + v)]? = some (ad (8 + v), .inr (3, [.int (σ 0 v), .int (σ 1 v), .int (σ 2 v), .int (σ 3 v), .int (σ 4 v)])) := z_w_get (by omega) (z_cV h)
theorem z_cT {t : Nat} (h : t < 6) : z_cC G ad σ κ (16 + t) = .inr (2, [.ref (ad (22 + t)), .int (nI (κ 1 t)), .int (σ 5 t), .int (σ 6 t)]) := by
  unfold z_cC
  rw [if_neg (show ¬ (16 + t) = 0 by omega), if_neg (show ¬ (16 + t) = 1 by omega), if_neg (show ¬ (16 + t) = 2 by omega), if_neg (show ¬ (16 + t) = 3 by omega), if_neg (show ¬ (16 + t) = 4 by omega), if_neg (show ¬ (16 + t) = 5 by omega), if_neg (show ¬ (16 + t) = 6 by omega), if_neg (show ¬ (16 + t) = 7 by omega), if_neg (show ¬ (16 + t) < 16 by omega), if_pos (show (16 + t) < 22 by omega), show (16 + t) - 16 = t by omega]
theorem z_gT {t : Nat} (h : t < 6) : (z_wC G ad σ κ)[(16 + t)]? = some (ad (16 + t), .inr (2, [.ref (ad (22 + t)), .int (nI (κ 1 t)), .int (σ 5 t), .int (σ 6 t)])) := z_w_get (by omega) (z_cT h)
theorem z_cS {t : Nat} (h : t < 6) : z_cC G ad σ κ (22 + t) = .inl (z_I G, 5, .inl (fun j => nI (κ (2 + t) j))) := by
  unfold z_cC
  rw [if_neg (show ¬ (22 + t) = 0 by omega), if_neg (show ¬ (22 + t) = 1 by omega), if_neg (show ¬ (22 + t) = 2 by omega), if_neg (show ¬ (22 + t) = 3 by omega), if_neg (show ¬ (22 + t) = 4 by omega), if_neg (show ¬ (22 + t) = 5 by omega), if_neg (show ¬ (22 + t) = 6 by omega), if_neg (show ¬ (22 + t) = 7 by omega), if_neg (show ¬ (22 + t) < 16 by omega), if_neg (show ¬ (22 + t) < 22 by omega), if_pos (show (22 + t) < 28 by omega), show (22 + t) - 22 = t by omega]
theorem z_gS {t : Nat} (h : t < 6) : (z_wC G ad σ κ)[(22 + t)]? = some (ad (22 + t), .inl (z_I G, 5, .inl (fun j => nI (κ (2 + t) j)))) := z_w_get (by omega) (z_cS h)
theorem z_cR {a : Nat} (h : a < 8) : z_cC G ad σ κ (28 + a) = .inl (z_I G, 8, .inl (fun j => σ (10 + a) j)) := by
  unfold z_cC
  rw [if_neg (show ¬ (28 + a) = 0 by omega), if_neg (show ¬ (28 + a) = 1 by omega), if_neg (show ¬ (28 + a) = 2 by omega), if_neg (show ¬ (28 + a) = 3 by omega), if_neg (show ¬ (28 + a) = 4 by omega), if_neg (show ¬ (28 + a) = 5 by omega), if_neg (show ¬ (28 + a) = 6 by omega), if_neg (show ¬ (28 + a) = 7 by omega), if_neg (show ¬ (28 + a) < 16 by omega), if_neg (show ¬ (28 + a) < 22 by omega), if_neg (show ¬ (28 + a) < 28 by omega), show (28 + a) - 28 = a by omega]
theorem z_gR {a : Nat} (h : a < 8) : (z_wC G ad σ κ)[(28 + a)]? = some (ad (28 + a), .inl (z_I G, 8, .inl (fun j => σ (10 + a) j))) := z_w_get (by omega) (z_cR h)
theorem z_m0 : (z_wM G ad σ κ)[0]? = some (ad 0, .inr (5, [.int (σ 8 1), .int (nI (κ 0 0)), .ref (ad 1), .ref (ad 2), .ref (ad 3), .int (σ 8 0), .ref (ad 4), .ref (ad 5), .int (nI (κ 0 1)), .ref (ad 6), .ref (ad 7), .ref (ad 8), .ref (ad 9)])) := z_w_get (by decide) rfl
theorem z_m1 : (z_wM G ad σ κ)[1]? = some (ad 1, .inl (z_I G, 8, .inl (fun j => σ 0 j))) := z_w_get (by decide) rfl
theorem z_m2 : (z_wM G ad σ κ)[2]? = some (ad 2, .inl (z_I G, 8, .inl (fun j => σ 1 j))) := z_w_get (by decide) rfl
theorem z_m3 : (z_wM G ad σ κ)[3]? = some (ad 3, .inl (z_I G, 8, .inl (fun j => σ 2 j))) := z_w_get (by decide) rfl
theorem z_m4 : (z_wM G ad σ κ)[4]? = some (ad 4, .inl (z_I G, 64, .inl (fun j => σ 10 j))) := z_w_get (by decide) rfl
theorem z_m5 : (z_wM G ad σ κ)[5]? = some (ad 5, .inl (z_I G, 10, .inl (fun j => σ 7 j))) := z_w_get (by decide) rfl
theorem z_m6 : (z_wM G ad σ κ)[6]? = some (ad 6, .inl (z_I G, 6, .inl (fun j => σ 5 j))) := z_w_get (by decide) rfl
theorem z_m7 : (z_wM G ad σ κ)[7]? = some (ad 7, .inl (z_I G, 6, .inl (fun j => nI (κ 1 j)))) := z_w_get (by decide) rfl
theorem z_m8 : (z_wM G ad σ κ)[8]? = some (ad 8, .inl (z_I G, 30, .inl (fun j => nI (κ 2 j)))) := z_w_get (by decide) rfl
theorem z_m9 : (z_wM G ad σ κ)[9]? = some (ad 9, .inl (z_I G, 4, .inl (fun j => σ 9 j))) := z_w_get (by decide) rfl
set_option maxHeartbeats 1000000 in
theorem z_sV0 {v : Nat} {x : Int32} (h : v < 8) : (z_wC G ad σ κ).set (8 + v) (ad (8 + v), .inr (3, [.int x, .int (σ 1 v), .int (σ 2 v), .int (σ 3 v), .int (σ 4 v)])) = z_wC G ad (z_up σ 0 v x) κ := by
  refine z_w_set ?_ (fun j hj => ?_)
  · rw [z_cV h]; simp [z_up]
  · simp only [z_cC]
    by_cases a0 : j = 0
    · first | exact absurd a0 hj | (simp [a0, z_up]; done) | (simp [a0, z_up]; omega)
    (simp only [a0, if_false])
    by_cases a1 : j = 1
    · first | exact absurd a1 hj | (simp [a1, z_up]; done) | (simp [a1, z_up]; omega)
    (simp only [a1, if_false])
    by_cases a2 : j = 2
    · first | exact absurd a2 hj | (simp [a2, z_up]; done) | (simp [a2, z_up]; omega)
    (simp only [a2, if_false])
    by_cases a3 : j = 3
    · first | exact absurd a3 hj | (simp [a3, z_up]; done) | (simp [a3, z_up]; omega)
    (simp only [a3, if_false])
    by_cases a4 : j = 4
    · first | exact absurd a4 hj | (simp [a4, z_up]; done) | (simp [a4, z_up]; omega)
    (simp only [a4, if_false])
    by_cases a5 : j = 5
    · first | exact absurd a5 hj | (simp [a5, z_up]; done) | (simp [a5, z_up]; omega)
    (simp only [a5, if_false])
    by_cases a6 : j = 6
    · first | exact absurd a6 hj | (simp [a6, z_up]; done) | (simp [a6, z_up]; omega)
    (simp only [a6, if_false])
    by_cases a7 : j = 7
    · first | exact absurd a7 hj | (simp [a7, z_up]; done) | (simp [a7, z_up]; omega)
    (simp only [a7, if_false])
    by_cases b1 : j < 16
    · (simp only [b1, if_true]) <;> first | rfl | (simp [z_up]; done) | (simp [z_up, show ¬ j - 8 = v from by omega]; done)
    by_cases b2 : j < 22
    · (simp only [b1, b2, if_true, if_false]) <;> first | rfl | (simp [z_up]; done) | (simp [z_up, show ¬ j - 16 = t from by omega]; done)
    by_cases b3 : j < 28
    · (simp only [b1, b2, b3, if_true, if_false]) <;> first | rfl | (simp [z_up, show ¬ 2 + (j - 22) = 0 from by omega, show ¬ 2 + (j - 22) = 1 from by omega]; done) | (simp [z_up, show ¬ j - 22 = t from by omega, show ¬ 2 + (j - 22) = 2 + t from by omega]; done)
    (simp only [b1, b2, b3, if_false]) <;> first | rfl | (simp [z_up, show ¬ 10 + (j - 28) = 0 from by omega, show ¬ 10 + (j - 28) = 1 from by omega, show ¬ 10 + (j - 28) = 2 from by omega, show ¬ 10 + (j - 28) = 3 from by omega, show ¬ 10 + (j - 28) = 4 from by omega, show ¬ 10 + (j - 28) = 5 from by omega, show ¬ 10 + (j - 28) = 6 from by omega, show ¬ 10 + (j - 28) = 7 from by omega, show ¬ 10 + (j - 28) = 8 from by omega]; done) | (simp [z_up, show ¬ j - 28 = a from by omega, show ¬ 10 + (j - 28) = 10 + a from by omega]; done)
set_option maxHeartbeats 1000000 in
theorem z_sV1 {v : Nat} {x : Int32} (h : v < 8) : (z_wC G ad σ κ).set (8 + v) (ad (8 + v), .inr (3, [.int (σ 0 v), .int x, .int (σ 2 v), .int (σ 3 v), .int (σ 4 v)])) = z_wC G ad (z_up σ 1 v x) κ := by
  refine z_w_set ?_ (fun j hj => ?_)
  · rw [z_cV h]; simp [z_up]
  · simp only [z_cC]
    by_cases a0 : j = 0
    · first | exact absurd a0 hj | (simp [a0, z_up]; done) | (simp [a0, z_up]; omega)
    (simp only [a0, if_false])
    by_cases a1 : j = 1
    · first | exact absurd a1 hj | (simp [a1, z_up]; done) | (simp [a1, z_up]; omega)
    (simp only [a1, if_false])
    by_cases a2 : j = 2
    · first | exact absurd a2 hj | (simp [a2, z_up]; done) | (simp [a2, z_up]; omega)
    (simp only [a2, if_false])
    by_cases a3 : j = 3
    · first | exact absurd a3 hj | (simp [a3, z_up]; done) | (simp [a3, z_up]; omega)
    (simp only [a3, if_false])
    by_cases a4 : j = 4
    · first | exact absurd a4 hj | (simp [a4, z_up]; done) | (simp [a4, z_up]; omega)
    (simp only [a4, if_false])
    by_cases a5 : j = 5
    · first | exact absurd a5 hj | (simp [a5, z_up]; done) | (simp [a5, z_up]; omega)
    (simp only [a5, if_false])
    by_cases a6 : j = 6
    · first | exact absurd a6 hj | (simp [a6, z_up]; done) | (simp [a6, z_up]; omega)
    (simp only [a6, if_false])
    by_cases a7 : j = 7
    · first | exact absurd a7 hj | (simp [a7, z_up]; done) | (simp [a7, z_up]; omega)
    (simp only [a7, if_false])
    by_cases b1 : j < 16
    · (simp only [b1, if_true]) <;> first | rfl | (simp [z_up]; done) | (simp [z_up, show ¬ j - 8 = v from by omega]; done)
    by_cases b2 : j < 22
    · (simp only [b1, b2, if_true, if_false]) <;> first | rfl | (simp [z_up]; done) | (simp [z_up, show ¬ j - 16 = t from by omega]; done)
    by_cases b3 : j < 28
    · (simp only [b1, b2, b3, if_true, if_false]) <;> first | rfl | (simp [z_up, show ¬ 2 + (j - 22) = 0 from by omega, show ¬ 2 + (j - 22) = 1 from by omega]; done) | (simp [z_up, show ¬ j - 22 = t from by omega, show ¬ 2 + (j - 22) = 2 + t from by omega]; done)
    (simp only [b1, b2, b3, if_false]) <;> first | rfl | (simp [z_up, show ¬ 10 + (j - 28) = 0 from by omega, show ¬ 10 + (j - 28) = 1 from by omega, show ¬ 10 + (j - 28) = 2 from by omega, show ¬ 10 + (j - 28) = 3 from by omega, show ¬ 10 + (j - 28) = 4 from by omega, show ¬ 10 + (j - 28) = 5 from by omega, show ¬ 10 + (j - 28) = 6 from by omega, show ¬ 10 + (j - 28) = 7 from by omega, show ¬ 10 + (j - 28) = 8 from by omega]; done) | (simp [z_up, show ¬ j - 28 = a from by omega, show ¬ 10 + (j - 28) = 10 + a from by omega]; done)
set_option maxHeartbeats 1000000 in
theorem z_sV2 {v : Nat} {x : Int32} (h : v < 8) : (z_wC G ad σ κ).set (8 + v) (ad (8 + v), .inr (3, [.int (σ 0 v), .int (σ 1 v), .int x, .int (σ 3 v), .int (σ 4 v)])) = z_wC G ad (z_up σ 2 v x) κ := by
  refine z_w_set ?_ (fun j hj => ?_)
  · rw [z_cV h]; simp [z_up]
  · simp only [z_cC]
    by_cases a0 : j = 0
    · first | exact absurd a0 hj | (simp [a0, z_up]; done) | (simp [a0, z_up]; omega)
    (simp only [a0, if_false])
    by_cases a1 : j = 1
    · first | exact absurd a1 hj | (simp [a1, z_up]; done) | (simp [a1, z_up]; omega)
    (simp only [a1, if_false])
    by_cases a2 : j = 2
    · first | exact absurd a2 hj | (simp [a2, z_up]; done) | (simp [a2, z_up]; omega)
    (simp only [a2, if_false])
    by_cases a3 : j = 3
    · first | exact absurd a3 hj | (simp [a3, z_up]; done) | (simp [a3, z_up]; omega)
    (simp only [a3, if_false])
    by_cases a4 : j = 4
    · first | exact absurd a4 hj | (simp [a4, z_up]; done) | (simp [a4, z_up]; omega)
    (simp only [a4, if_false])
    by_cases a5 : j = 5
    · first | exact absurd a5 hj | (simp [a5, z_up]; done) | (simp [a5, z_up]; omega)
    (simp only [a5, if_false])
    by_cases a6 : j = 6
    · first | exact absurd a6 hj | (simp [a6, z_up]; done) | (simp [a6, z_up]; omega)
    (simp only [a6, if_false])
    by_cases a7 : j = 7
    · first | exact absurd a7 hj | (simp [a7, z_up]; done) | (simp [a7, z_up]; omega)
    (simp only [a7, if_false])
    by_cases b1 : j < 16
    · (simp only [b1, if_true]) <;> first | rfl | (simp [z_up]; done) | (simp [z_up, show ¬ j - 8 = v from by omega]; done)
    by_cases b2 : j < 22
    · (simp only [b1, b2, if_true, if_false]) <;> first | rfl | (simp [z_up]; done) | (simp [z_up, show ¬ j - 16 = t from by omega]; done)
    by_cases b3 : j < 28
    · (simp only [b1, b2, b3, if_true, if_false]) <;> first | rfl | (simp [z_up, show ¬ 2 + (j - 22) = 0 from by omega, show ¬ 2 + (j - 22) = 1 from by omega]; done) | (simp [z_up, show ¬ j - 22 = t from by omega, show ¬ 2 + (j - 22) = 2 + t from by omega]; done)
    (simp only [b1, b2, b3, if_false]) <;> first | rfl | (simp [z_up, show ¬ 10 + (j - 28) = 0 from by omega, show ¬ 10 + (j - 28) = 1 from by omega, show ¬ 10 + (j - 28) = 2 from by omega, show ¬ 10 + (j - 28) = 3 from by omega, show ¬ 10 + (j - 28) = 4 from by omega, show ¬ 10 + (j - 28) = 5 from by omega, show ¬ 10 + (j - 28) = 6 from by omega, show ¬ 10 + (j - 28) = 7 from by omega, show ¬ 10 + (j - 28) = 8 from by omega]; done) | (simp [z_up, show ¬ j - 28 = a from by omega, show ¬ 10 + (j - 28) = 10 + a from by omega]; done)
set_option maxHeartbeats 1000000 in
theorem z_sV3 {v : Nat} {x : Int32} (h : v < 8) : (z_wC G ad σ κ).set (8 + v) (ad (8 + v), .inr (3, [.int (σ 0 v), .int (σ 1 v), .int (σ 2 v), .int x, .int (σ 4 v)])) = z_wC G ad (z_up σ 3 v x) κ := by
  refine z_w_set ?_ (fun j hj => ?_)
  · rw [z_cV h]; simp [z_up]
  · simp only [z_cC]
    by_cases a0 : j = 0
    · first | exact absurd a0 hj | (simp [a0, z_up]; done) | (simp [a0, z_up]; omega)
    (simp only [a0, if_false])
    by_cases a1 : j = 1
    · first | exact absurd a1 hj | (simp [a1, z_up]; done) | (simp [a1, z_up]; omega)
    (simp only [a1, if_false])
    by_cases a2 : j = 2
    · first | exact absurd a2 hj | (simp [a2, z_up]; done) | (simp [a2, z_up]; omega)
    (simp only [a2, if_false])
    by_cases a3 : j = 3
    · first | exact absurd a3 hj | (simp [a3, z_up]; done) | (simp [a3, z_up]; omega)
    (simp only [a3, if_false])
    by_cases a4 : j = 4
    · first | exact absurd a4 hj | (simp [a4, z_up]; done) | (simp [a4, z_up]; omega)
    (simp only [a4, if_false])
    by_cases a5 : j = 5
    · first | exact absurd a5 hj | (simp [a5, z_up]; done) | (simp [a5, z_up]; omega)
    (simp only [a5, if_false])
    by_cases a6 : j = 6
    · first | exact absurd a6 hj | (simp [a6, z_up]; done) | (simp [a6, z_up]; omega)
    (simp only [a6, if_false])
    by_cases a7 : j = 7
    · first | exact absurd a7 hj | (simp [a7, z_up]; done) | (simp [a7, z_up]; omega)
    (simp only [a7, if_false])
    by_cases b1 : j < 16
    · (simp only [b1, if_true]) <;> first | rfl | (simp [z_up]; done) | (simp [z_up, show ¬ j - 8 = v from by omega]; done)
    by_cases b2 : j < 22
    · (simp only [b1, b2, if_true, if_false]) <;> first | rfl | (simp [z_up]; done) | (simp [z_up, show ¬ j - 16 = t from by omega]; done)
    by_cases b3 : j < 28
    · (simp only [b1, b2, b3, if_true, if_false]) <;> first | rfl | (simp [z_up, show ¬ 2 + (j - 22) = 0 from by omega, show ¬ 2 + (j - 22) = 1 from by omega]; done) | (simp [z_up, show ¬ j - 22 = t from by omega, show ¬ 2 + (j - 22) = 2 + t from by omega]; done)
    (simp only [b1, b2, b3, if_false]) <;> first | rfl | (simp [z_up, show ¬ 10 + (j - 28) = 0 from by omega, show ¬ 10 + (j - 28) = 1 from by omega, show ¬ 10 + (j - 28) = 2 from by omega, show ¬ 10 + (j - 28) = 3 from by omega, show ¬ 10 + (j - 28) = 4 from by omega, show ¬ 10 + (j - 28) = 5 from by omega, show ¬ 10 + (j - 28) = 6 from by omega, show ¬ 10 + (j - 28) = 7 from by omega, show ¬ 10 + (j - 28) = 8 from by omega]; done) | (simp [z_up, show ¬ j - 28 = a from by omega, show ¬ 10 + (j - 28) = 10 + a from by omega]; done)
set_option maxHeartbeats 1000000 in
theorem z_sV4 {v : Nat} {x : Int32} (h : v < 8) : (z_wC G ad σ κ).set (8 + v) (ad (8 + v), .inr (3, [.int (σ 0 v), .int (σ 1 v), .int (σ 2 v), .int (σ 3 v), .int x])) = z_wC G ad (z_up σ 4 v x) κ := by
  refine z_w_set ?_ (fun j hj => ?_)
  · rw [z_cV h]; simp [z_up]
  · simp only [z_cC]
    by_cases a0 : j = 0
    · first | exact absurd a0 hj | (simp [a0, z_up]; done) | (simp [a0, z_up]; omega)
    (simp only [a0, if_false])
    by_cases a1 : j = 1
    · first | exact absurd a1 hj | (simp [a1, z_up]; done) | (simp [a1, z_up]; omega)
    (simp only [a1, if_false])
    by_cases a2 : j = 2
    · first | exact absurd a2 hj | (simp [a2, z_up]; done) | (simp [a2, z_up]; omega)
    (simp only [a2, if_false])
    by_cases a3 : j = 3
    · first | exact absurd a3 hj | (simp [a3, z_up]; done) | (simp [a3, z_up]; omega)
    (simp only [a3, if_false])
    by_cases a4 : j = 4
    · first | exact absurd a4 hj | (simp [a4, z_up]; done) | (simp [a4, z_up]; omega)
    (simp only [a4, if_false])
    by_cases a5 : j = 5
    · first | exact absurd a5 hj | (simp [a5, z_up]; done) | (simp [a5, z_up]; omega)
    (simp only [a5, if_false])
    by_cases a6 : j = 6
    · first | exact absurd a6 hj | (simp [a6, z_up]; done) | (simp [a6, z_up]; omega)
    (simp only [a6, if_false])
    by_cases a7 : j = 7
    · first | exact absurd a7 hj | (simp [a7, z_up]; done) | (simp [a7, z_up]; omega)
    (simp only [a7, if_false])
    by_cases b1 : j < 16
    · (simp only [b1, if_true]) <;> first | rfl | (simp [z_up]; done) | (simp [z_up, show ¬ j - 8 = v from by omega]; done)
    by_cases b2 : j < 22
    · (simp only [b1, b2, if_true, if_false]) <;> first | rfl | (simp [z_up]; done) | (simp [z_up, show ¬ j - 16 = t from by omega]; done)
    by_cases b3 : j < 28
    · (simp only [b1, b2, b3, if_true, if_false]) <;> first | rfl | (simp [z_up, show ¬ 2 + (j - 22) = 0 from by omega, show ¬ 2 + (j - 22) = 1 from by omega]; done) | (simp [z_up, show ¬ j - 22 = t from by omega, show ¬ 2 + (j - 22) = 2 + t from by omega]; done)
    (simp only [b1, b2, b3, if_false]) <;> first | rfl | (simp [z_up, show ¬ 10 + (j - 28) = 0 from by omega, show ¬ 10 + (j - 28) = 1 from by omega, show ¬ 10 + (j - 28) = 2 from by omega, show ¬ 10 + (j - 28) = 3 from by omega, show ¬ 10 + (j - 28) = 4 from by omega, show ¬ 10 + (j - 28) = 5 from by omega, show ¬ 10 + (j - 28) = 6 from by omega, show ¬ 10 + (j - 28) = 7 from by omega, show ¬ 10 + (j - 28) = 8 from by omega]; done) | (simp [z_up, show ¬ j - 28 = a from by omega, show ¬ 10 + (j - 28) = 10 + a from by omega]; done)
set_option maxHeartbeats 1000000 in
theorem z_sT1 {t : Nat} {x : Nat} (h : t < 6) : (z_wC G ad σ κ).set (16 + t) (ad (16 + t), .inr (2, [.ref (ad (22 + t)), .int (nI x), .int (σ 5 t), .int (σ 6 t)])) = z_wC G ad σ (z_up κ 1 t x) := by
  refine z_w_set ?_ (fun j hj => ?_)
  · rw [z_cT h]; simp [z_up]
  · simp only [z_cC]
    by_cases a0 : j = 0
    · first | exact absurd a0 hj | (simp [a0, z_up]; done) | (simp [a0, z_up]; omega)
    (simp only [a0, if_false])
    by_cases a1 : j = 1
    · first | exact absurd a1 hj | (simp [a1, z_up]; done) | (simp [a1, z_up]; omega)
    (simp only [a1, if_false])
    by_cases a2 : j = 2
    · first | exact absurd a2 hj | (simp [a2, z_up]; done) | (simp [a2, z_up]; omega)
    (simp only [a2, if_false])
    by_cases a3 : j = 3
    · first | exact absurd a3 hj | (simp [a3, z_up]; done) | (simp [a3, z_up]; omega)
    (simp only [a3, if_false])
    by_cases a4 : j = 4
    · first | exact absurd a4 hj | (simp [a4, z_up]; done) | (simp [a4, z_up]; omega)
    (simp only [a4, if_false])
    by_cases a5 : j = 5
    · first | exact absurd a5 hj | (simp [a5, z_up]; done) | (simp [a5, z_up]; omega)
    (simp only [a5, if_false])
    by_cases a6 : j = 6
    · first | exact absurd a6 hj | (simp [a6, z_up]; done) | (simp [a6, z_up]; omega)
    (simp only [a6, if_false])
    by_cases a7 : j = 7
    · first | exact absurd a7 hj | (simp [a7, z_up]; done) | (simp [a7, z_up]; omega)
    (simp only [a7, if_false])
    by_cases b1 : j < 16
    · (simp only [b1, if_true]) <;> first | rfl | (simp [z_up]; done) | (simp [z_up, show ¬ j - 8 = v from by omega]; done)
    by_cases b2 : j < 22
    · (simp only [b1, b2, if_true, if_false]) <;> first | rfl | (simp [z_up]; done) | (simp [z_up, show ¬ j - 16 = t from by omega]; done)
    by_cases b3 : j < 28
    · (simp only [b1, b2, b3, if_true, if_false]) <;> first | rfl | (simp [z_up, show ¬ 2 + (j - 22) = 0 from by omega, show ¬ 2 + (j - 22) = 1 from by omega]; done) | (simp [z_up, show ¬ j - 22 = t from by omega, show ¬ 2 + (j - 22) = 2 + t from by omega]; done)
    (simp only [b1, b2, b3, if_false]) <;> first | rfl | (simp [z_up, show ¬ 10 + (j - 28) = 0 from by omega, show ¬ 10 + (j - 28) = 1 from by omega, show ¬ 10 + (j - 28) = 2 from by omega, show ¬ 10 + (j - 28) = 3 from by omega, show ¬ 10 + (j - 28) = 4 from by omega, show ¬ 10 + (j - 28) = 5 from by omega, show ¬ 10 + (j - 28) = 6 from by omega, show ¬ 10 + (j - 28) = 7 from by omega, show ¬ 10 + (j - 28) = 8 from by omega]; done) | (simp [z_up, show ¬ j - 28 = a from by omega, show ¬ 10 + (j - 28) = 10 + a from by omega]; done)
set_option maxHeartbeats 1000000 in
theorem z_sT2 {t : Nat} {x : Int32} (h : t < 6) : (z_wC G ad σ κ).set (16 + t) (ad (16 + t), .inr (2, [.ref (ad (22 + t)), .int (nI (κ 1 t)), .int x, .int (σ 6 t)])) = z_wC G ad (z_up σ 5 t x) κ := by
  refine z_w_set ?_ (fun j hj => ?_)
  · rw [z_cT h]; simp [z_up]
  · simp only [z_cC]
    by_cases a0 : j = 0
    · first | exact absurd a0 hj | (simp [a0, z_up]; done) | (simp [a0, z_up]; omega)
    (simp only [a0, if_false])
    by_cases a1 : j = 1
    · first | exact absurd a1 hj | (simp [a1, z_up]; done) | (simp [a1, z_up]; omega)
    (simp only [a1, if_false])
    by_cases a2 : j = 2
    · first | exact absurd a2 hj | (simp [a2, z_up]; done) | (simp [a2, z_up]; omega)
    (simp only [a2, if_false])
    by_cases a3 : j = 3
    · first | exact absurd a3 hj | (simp [a3, z_up]; done) | (simp [a3, z_up]; omega)
    (simp only [a3, if_false])
    by_cases a4 : j = 4
    · first | exact absurd a4 hj | (simp [a4, z_up]; done) | (simp [a4, z_up]; omega)
    (simp only [a4, if_false])
    by_cases a5 : j = 5
    · first | exact absurd a5 hj | (simp [a5, z_up]; done) | (simp [a5, z_up]; omega)
    (simp only [a5, if_false])
    by_cases a6 : j = 6
    · first | exact absurd a6 hj | (simp [a6, z_up]; done) | (simp [a6, z_up]; omega)
    (simp only [a6, if_false])
    by_cases a7 : j = 7
    · first | exact absurd a7 hj | (simp [a7, z_up]; done) | (simp [a7, z_up]; omega)
    (simp only [a7, if_false])
    by_cases b1 : j < 16
    · (simp only [b1, if_true]) <;> first | rfl | (simp [z_up]; done) | (simp [z_up, show ¬ j - 8 = v from by omega]; done)
    by_cases b2 : j < 22
    · (simp only [b1, b2, if_true, if_false]) <;> first | rfl | (simp [z_up]; done) | (simp [z_up, show ¬ j - 16 = t from by omega]; done)
    by_cases b3 : j < 28
    · (simp only [b1, b2, b3, if_true, if_false]) <;> first | rfl | (simp [z_up, show ¬ 2 + (j - 22) = 0 from by omega, show ¬ 2 + (j - 22) = 1 from by omega]; done) | (simp [z_up, show ¬ j - 22 = t from by omega, show ¬ 2 + (j - 22) = 2 + t from by omega]; done)
    (simp only [b1, b2, b3, if_false]) <;> first | rfl | (simp [z_up, show ¬ 10 + (j - 28) = 0 from by omega, show ¬ 10 + (j - 28) = 1 from by omega, show ¬ 10 + (j - 28) = 2 from by omega, show ¬ 10 + (j - 28) = 3 from by omega, show ¬ 10 + (j - 28) = 4 from by omega, show ¬ 10 + (j - 28) = 5 from by omega, show ¬ 10 + (j - 28) = 6 from by omega, show ¬ 10 + (j - 28) = 7 from by omega, show ¬ 10 + (j - 28) = 8 from by omega]; done) | (simp [z_up, show ¬ j - 28 = a from by omega, show ¬ 10 + (j - 28) = 10 + a from by omega]; done)
set_option maxHeartbeats 1000000 in
theorem z_sT3 {t : Nat} {x : Int32} (h : t < 6) : (z_wC G ad σ κ).set (16 + t) (ad (16 + t), .inr (2, [.ref (ad (22 + t)), .int (nI (κ 1 t)), .int (σ 5 t), .int x])) = z_wC G ad (z_up σ 6 t x) κ := by
  refine z_w_set ?_ (fun j hj => ?_)
  · rw [z_cT h]; simp [z_up]
  · simp only [z_cC]
    by_cases a0 : j = 0
    · first | exact absurd a0 hj | (simp [a0, z_up]; done) | (simp [a0, z_up]; omega)
    (simp only [a0, if_false])
    by_cases a1 : j = 1
    · first | exact absurd a1 hj | (simp [a1, z_up]; done) | (simp [a1, z_up]; omega)
    (simp only [a1, if_false])
    by_cases a2 : j = 2
    · first | exact absurd a2 hj | (simp [a2, z_up]; done) | (simp [a2, z_up]; omega)
    (simp only [a2, if_false])
    by_cases a3 : j = 3
    · first | exact absurd a3 hj | (simp [a3, z_up]; done) | (simp [a3, z_up]; omega)
    (simp only [a3, if_false])
    by_cases a4 : j = 4
    · first | exact absurd a4 hj | (simp [a4, z_up]; done) | (simp [a4, z_up]; omega)
    (simp only [a4, if_false])
    by_cases a5 : j = 5
    · first | exact absurd a5 hj | (simp [a5, z_up]; done) | (simp [a5, z_up]; omega)
    (simp only [a5, if_false])
    by_cases a6 : j = 6
    · first | exact absurd a6 hj | (simp [a6, z_up]; done) | (simp [a6, z_up]; omega)
    (simp only [a6, if_false])
    by_cases a7 : j = 7
    · first | exact absurd a7 hj | (simp [a7, z_up]; done) | (simp [a7, z_up]; omega)
    (simp only [a7, if_false])
    by_cases b1 : j < 16
    · (simp only [b1, if_true]) <;> first | rfl | (simp [z_up]; done) | (simp [z_up, show ¬ j - 8 = v from by omega]; done)
    by_cases b2 : j < 22
    · (simp only [b1, b2, if_true, if_false]) <;> first | rfl | (simp [z_up]; done) | (simp [z_up, show ¬ j - 16 = t from by omega]; done)
    by_cases b3 : j < 28
    · (simp only [b1, b2, b3, if_true, if_false]) <;> first | rfl | (simp [z_up, show ¬ 2 + (j - 22) = 0 from by omega, show ¬ 2 + (j - 22) = 1 from by omega]; done) | (simp [z_up, show ¬ j - 22 = t from by omega, show ¬ 2 + (j - 22) = 2 + t from by omega]; done)
    (simp only [b1, b2, b3, if_false]) <;> first | rfl | (simp [z_up, show ¬ 10 + (j - 28) = 0 from by omega, show ¬ 10 + (j - 28) = 1 from by omega, show ¬ 10 + (j - 28) = 2 from by omega, show ¬ 10 + (j - 28) = 3 from by omega, show ¬ 10 + (j - 28) = 4 from by omega, show ¬ 10 + (j - 28) = 5 from by omega, show ¬ 10 + (j - 28) = 6 from by omega, show ¬ 10 + (j - 28) = 7 from by omega, show ¬ 10 + (j - 28) = 8 from by omega]; done) | (simp [z_up, show ¬ j - 28 = a from by omega, show ¬ 10 + (j - 28) = 10 + a from by omega]; done)
set_option maxHeartbeats 1000000 in
theorem z_sS {t k x : Nat} (h : t < 6) (hk : k < 2 ^ 31) : (z_wC G ad σ κ).set (22 + t) (ad (22 + t), .inl (z_I G, 5, .inl (upd (fun j => nI (κ (2 + t) j)) (nI k).toNatClampNeg (nI x)))) = z_wC G ad σ (z_up κ (2 + t) k x) := by
  refine z_w_set ?_ (fun j hj => ?_)
  · rw [z_cS h, nI_clamp hk]
    have e : (fun j => nI (z_up κ (2 + t) k x (2 + t) j)) = upd (fun j => nI (κ (2 + t) j)) k (nI x) := by
      funext j
      by_cases hj : j = k <;> simp [z_up, upd, hj]
    rw [e]
  · simp only [z_cC]
    by_cases a0 : j = 0
    · first | exact absurd a0 hj | (simp [a0, z_up, show ¬ 0 = 2 + t from by omega, show ¬ 1 = 2 + t from by omega]; done) | (simp [a0, z_up]; omega)
    (simp only [a0, if_false])
    by_cases a1 : j = 1
    · first | exact absurd a1 hj | (simp [a1, z_up, show ¬ 0 = 2 + t from by omega, show ¬ 1 = 2 + t from by omega]; done) | (simp [a1, z_up]; omega)
    (simp only [a1, if_false])
    by_cases a2 : j = 2
    · first | exact absurd a2 hj | (simp [a2, z_up, show ¬ 0 = 2 + t from by omega, show ¬ 1 = 2 + t from by omega]; done) | (simp [a2, z_up]; omega)
    (simp only [a2, if_false])
    by_cases a3 : j = 3
    · first | exact absurd a3 hj | (simp [a3, z_up, show ¬ 0 = 2 + t from by omega, show ¬ 1 = 2 + t from by omega]; done) | (simp [a3, z_up]; omega)
    (simp only [a3, if_false])
    by_cases a4 : j = 4
    · first | exact absurd a4 hj | (simp [a4, z_up, show ¬ 0 = 2 + t from by omega, show ¬ 1 = 2 + t from by omega]; done) | (simp [a4, z_up]; omega)
    (simp only [a4, if_false])
    by_cases a5 : j = 5
    · first | exact absurd a5 hj | (simp [a5, z_up, show ¬ 0 = 2 + t from by omega, show ¬ 1 = 2 + t from by omega]; done) | (simp [a5, z_up]; omega)
    (simp only [a5, if_false])
    by_cases a6 : j = 6
    · first | exact absurd a6 hj | (simp [a6, z_up, show ¬ 0 = 2 + t from by omega, show ¬ 1 = 2 + t from by omega]; done) | (simp [a6, z_up]; omega)
    (simp only [a6, if_false])
    by_cases a7 : j = 7
    · first | exact absurd a7 hj | (simp [a7, z_up, show ¬ 0 = 2 + t from by omega, show ¬ 1 = 2 + t from by omega]; done) | (simp [a7, z_up]; omega)
    (simp only [a7, if_false])
    by_cases b1 : j < 16
    · (simp only [b1, if_true]) <;> first | rfl | (simp [z_up, show ¬ 0 = 2 + t from by omega, show ¬ 1 = 2 + t from by omega]; done) | (simp [z_up, show ¬ j - 8 = v from by omega]; done)
    by_cases b2 : j < 22
    · (simp only [b1, b2, if_true, if_false]) <;> first | rfl | (simp [z_up, show ¬ 0 = 2 + t from by omega, show ¬ 1 = 2 + t from by omega]; done) | (simp [z_up, show ¬ j - 16 = t from by omega]; done)
    by_cases b3 : j < 28
    · (simp only [b1, b2, b3, if_true, if_false]) <;> first | rfl | (simp [z_up, show ¬ 2 + (j - 22) = 0 from by omega, show ¬ 2 + (j - 22) = 1 from by omega]; done) | (simp [z_up, show ¬ j - 22 = t from by omega, show ¬ 2 + (j - 22) = 2 + t from by omega]; done)
    (simp only [b1, b2, b3, if_false]) <;> first | rfl | (simp [z_up, show ¬ 10 + (j - 28) = 0 from by omega, show ¬ 10 + (j - 28) = 1 from by omega, show ¬ 10 + (j - 28) = 2 from by omega, show ¬ 10 + (j - 28) = 3 from by omega, show ¬ 10 + (j - 28) = 4 from by omega, show ¬ 10 + (j - 28) = 5 from by omega, show ¬ 10 + (j - 28) = 6 from by omega, show ¬ 10 + (j - 28) = 7 from by omega, show ¬ 10 + (j - 28) = 8 from by omega]; done) | (simp [z_up, show ¬ j - 28 = a from by omega, show ¬ 10 + (j - 28) = 10 + a from by omega]; done)
set_option maxHeartbeats 1000000 in
theorem z_sR {a k : Nat} {x : Int32} (h : a < 8) (hk : k < 2 ^ 31) : (z_wC G ad σ κ).set (28 + a) (ad (28 + a), .inl (z_I G, 8, .inl (upd (fun j => σ (10 + a) j) (nI k).toNatClampNeg x))) = z_wC G ad (z_up σ (10 + a) k x) κ := by
  refine z_w_set ?_ (fun j hj => ?_)
  · rw [z_cR h, nI_clamp hk]
    have e : (fun j => z_up σ (10 + a) k x (10 + a) j) = upd (fun j => σ (10 + a) j) k x := by
      funext j
      by_cases hj : j = k <;> simp [z_up, upd, hj]
    rw [e]
  · simp only [z_cC]
    by_cases a0 : j = 0
    · first | exact absurd a0 hj | (simp [a0, z_up, show ¬ 0 = 10 + a from by omega, show ¬ 1 = 10 + a from by omega, show ¬ 2 = 10 + a from by omega, show ¬ 3 = 10 + a from by omega, show ¬ 4 = 10 + a from by omega, show ¬ 5 = 10 + a from by omega, show ¬ 6 = 10 + a from by omega, show ¬ 7 = 10 + a from by omega, show ¬ 8 = 10 + a from by omega]; done) | (simp [a0, z_up]; omega)
    (simp only [a0, if_false])
    by_cases a1 : j = 1
    · first | exact absurd a1 hj | (simp [a1, z_up, show ¬ 0 = 10 + a from by omega, show ¬ 1 = 10 + a from by omega, show ¬ 2 = 10 + a from by omega, show ¬ 3 = 10 + a from by omega, show ¬ 4 = 10 + a from by omega, show ¬ 5 = 10 + a from by omega, show ¬ 6 = 10 + a from by omega, show ¬ 7 = 10 + a from by omega, show ¬ 8 = 10 + a from by omega]; done) | (simp [a1, z_up]; omega)
    (simp only [a1, if_false])
    by_cases a2 : j = 2
    · first | exact absurd a2 hj | (simp [a2, z_up, show ¬ 0 = 10 + a from by omega, show ¬ 1 = 10 + a from by omega, show ¬ 2 = 10 + a from by omega, show ¬ 3 = 10 + a from by omega, show ¬ 4 = 10 + a from by omega, show ¬ 5 = 10 + a from by omega, show ¬ 6 = 10 + a from by omega, show ¬ 7 = 10 + a from by omega, show ¬ 8 = 10 + a from by omega]; done) | (simp [a2, z_up]; omega)
    (simp only [a2, if_false])
    by_cases a3 : j = 3
    · first | exact absurd a3 hj | (simp [a3, z_up, show ¬ 0 = 10 + a from by omega, show ¬ 1 = 10 + a from by omega, show ¬ 2 = 10 + a from by omega, show ¬ 3 = 10 + a from by omega, show ¬ 4 = 10 + a from by omega, show ¬ 5 = 10 + a from by omega, show ¬ 6 = 10 + a from by omega, show ¬ 7 = 10 + a from by omega, show ¬ 8 = 10 + a from by omega]; done) | (simp [a3, z_up]; omega)
    (simp only [a3, if_false])
    by_cases a4 : j = 4
    · first | exact absurd a4 hj | (simp [a4, z_up, show ¬ 0 = 10 + a from by omega, show ¬ 1 = 10 + a from by omega, show ¬ 2 = 10 + a from by omega, show ¬ 3 = 10 + a from by omega, show ¬ 4 = 10 + a from by omega, show ¬ 5 = 10 + a from by omega, show ¬ 6 = 10 + a from by omega, show ¬ 7 = 10 + a from by omega, show ¬ 8 = 10 + a from by omega]; done) | (simp [a4, z_up]; omega)
    (simp only [a4, if_false])
    by_cases a5 : j = 5
    · first | exact absurd a5 hj | (simp [a5, z_up, show ¬ 0 = 10 + a from by omega, show ¬ 1 = 10 + a from by omega, show ¬ 2 = 10 + a from by omega, show ¬ 3 = 10 + a from by omega, show ¬ 4 = 10 + a from by omega, show ¬ 5 = 10 + a from by omega, show ¬ 6 = 10 + a from by omega, show ¬ 7 = 10 + a from by omega, show ¬ 8 = 10 + a from by omega]; done) | (simp [a5, z_up]; omega)
    (simp only [a5, if_false])
    by_cases a6 : j = 6
    · first | exact absurd a6 hj | (simp [a6, z_up, show ¬ 0 = 10 + a from by omega, show ¬ 1 = 10 + a from by omega, show ¬ 2 = 10 + a from by omega, show ¬ 3 = 10 + a from by omega, show ¬ 4 = 10 + a from by omega, show ¬ 5 = 10 + a from by omega, show ¬ 6 = 10 + a from by omega, show ¬ 7 = 10 + a from by omega, show ¬ 8 = 10 + a from by omega]; done) | (simp [a6, z_up]; omega)
    (simp only [a6, if_false])
    by_cases a7 : j = 7
    · first | exact absurd a7 hj | (simp [a7, z_up, show ¬ 0 = 10 + a from by omega, show ¬ 1 = 10 + a from by omega, show ¬ 2 = 10 + a from by omega, show ¬ 3 = 10 + a from by omega, show ¬ 4 = 10 + a from by omega, show ¬ 5 = 10 + a from by omega, show ¬ 6 = 10 + a from by omega, show ¬ 7 = 10 + a from by omega, show ¬ 8 = 10 + a from by omega]; done) | (simp [a7, z_up]; omega)
    (simp only [a7, if_false])
    by_cases b1 : j < 16
    · (simp only [b1, if_true]) <;> first | rfl | (simp [z_up, show ¬ 0 = 10 + a from by omega, show ¬ 1 = 10 + a from by omega, show ¬ 2 = 10 + a from by omega, show ¬ 3 = 10 + a from by omega, show ¬ 4 = 10 + a from by omega, show ¬ 5 = 10 + a from by omega, show ¬ 6 = 10 + a from by omega, show ¬ 7 = 10 + a from by omega, show ¬ 8 = 10 + a from by omega]; done) | (simp [z_up, show ¬ j - 8 = v from by omega]; done)
    by_cases b2 : j < 22
    · (simp only [b1, b2, if_true, if_false]) <;> first | rfl | (simp [z_up, show ¬ 0 = 10 + a from by omega, show ¬ 1 = 10 + a from by omega, show ¬ 2 = 10 + a from by omega, show ¬ 3 = 10 + a from by omega, show ¬ 4 = 10 + a from by omega, show ¬ 5 = 10 + a from by omega, show ¬ 6 = 10 + a from by omega, show ¬ 7 = 10 + a from by omega, show ¬ 8 = 10 + a from by omega]; done) | (simp [z_up, show ¬ j - 16 = t from by omega]; done)
    by_cases b3 : j < 28
    · (simp only [b1, b2, b3, if_true, if_false]) <;> first | rfl | (simp [z_up, show ¬ 2 + (j - 22) = 0 from by omega, show ¬ 2 + (j - 22) = 1 from by omega]; done) | (simp [z_up, show ¬ j - 22 = t from by omega, show ¬ 2 + (j - 22) = 2 + t from by omega]; done)
    (simp only [b1, b2, b3, if_false]) <;> first | rfl | (simp [z_up, show ¬ 10 + (j - 28) = 0 from by omega, show ¬ 10 + (j - 28) = 1 from by omega, show ¬ 10 + (j - 28) = 2 from by omega, show ¬ 10 + (j - 28) = 3 from by omega, show ¬ 10 + (j - 28) = 4 from by omega, show ¬ 10 + (j - 28) = 5 from by omega, show ¬ 10 + (j - 28) = 6 from by omega, show ¬ 10 + (j - 28) = 7 from by omega, show ¬ 10 + (j - 28) = 8 from by omega]; done) | (simp [z_up, show ¬ j - 28 = a from by omega, show ¬ 10 + (j - 28) = 10 + a from by omega]; done)
set_option maxHeartbeats 1000000 in
theorem z_sH {i : Int32} {x : Int32}  : (z_wC G ad σ κ).set 3 (ad 3, .inl (z_I G, 10, .inl (upd (fun j => σ 7 j) i.toNatClampNeg x))) = z_wC G ad (z_up σ 7 i.toNatClampNeg x) κ := by
  refine z_w_set ?_ (fun j hj => ?_)
  · show (Sum.inl (z_I G, 10, Sum.inl (fun j => z_up σ 7 i.toNatClampNeg x 7 j)) : va_E) = _
    have e : (fun j => z_up σ 7 i.toNatClampNeg x 7 j) = upd (fun j => σ 7 j) i.toNatClampNeg x := by
      funext j
      by_cases hj : j = i.toNatClampNeg <;> simp [z_up, upd, hj]
    rw [e]
  · simp only [z_cC]
    by_cases a0 : j = 0
    · first | exact absurd a0 hj | (simp [a0, z_up]; done) | (simp [a0, z_up]; omega)
    (simp only [a0, if_false])
    by_cases a1 : j = 1
    · first | exact absurd a1 hj | (simp [a1, z_up]; done) | (simp [a1, z_up]; omega)
    (simp only [a1, if_false])
    by_cases a2 : j = 2
    · first | exact absurd a2 hj | (simp [a2, z_up]; done) | (simp [a2, z_up]; omega)
    (simp only [a2, if_false])
    by_cases a3 : j = 3
    · first | exact absurd a3 hj | (simp [a3, z_up]; done) | (simp [a3, z_up]; omega)
    (simp only [a3, if_false])
    by_cases a4 : j = 4
    · first | exact absurd a4 hj | (simp [a4, z_up]; done) | (simp [a4, z_up]; omega)
    (simp only [a4, if_false])
    by_cases a5 : j = 5
    · first | exact absurd a5 hj | (simp [a5, z_up]; done) | (simp [a5, z_up]; omega)
    (simp only [a5, if_false])
    by_cases a6 : j = 6
    · first | exact absurd a6 hj | (simp [a6, z_up]; done) | (simp [a6, z_up]; omega)
    (simp only [a6, if_false])
    by_cases a7 : j = 7
    · first | exact absurd a7 hj | (simp [a7, z_up]; done) | (simp [a7, z_up]; omega)
    (simp only [a7, if_false])
    by_cases b1 : j < 16
    · (simp only [b1, if_true]) <;> first | rfl | (simp [z_up]; done) | (simp [z_up, show ¬ j - 8 = v from by omega]; done)
    by_cases b2 : j < 22
    · (simp only [b1, b2, if_true, if_false]) <;> first | rfl | (simp [z_up]; done) | (simp [z_up, show ¬ j - 16 = t from by omega]; done)
    by_cases b3 : j < 28
    · (simp only [b1, b2, b3, if_true, if_false]) <;> first | rfl | (simp [z_up, show ¬ 2 + (j - 22) = 0 from by omega, show ¬ 2 + (j - 22) = 1 from by omega]; done) | (simp [z_up, show ¬ j - 22 = t from by omega, show ¬ 2 + (j - 22) = 2 + t from by omega]; done)
    (simp only [b1, b2, b3, if_false]) <;> first | rfl | (simp [z_up, show ¬ 10 + (j - 28) = 0 from by omega, show ¬ 10 + (j - 28) = 1 from by omega, show ¬ 10 + (j - 28) = 2 from by omega, show ¬ 10 + (j - 28) = 3 from by omega, show ¬ 10 + (j - 28) = 4 from by omega, show ¬ 10 + (j - 28) = 5 from by omega, show ¬ 10 + (j - 28) = 6 from by omega, show ¬ 10 + (j - 28) = 7 from by omega, show ¬ 10 + (j - 28) = 8 from by omega]; done) | (simp [z_up, show ¬ j - 28 = a from by omega, show ¬ 10 + (j - 28) = 10 + a from by omega]; done)
set_option maxHeartbeats 1000000 in
theorem z_sM6 {x : Nat}  : (z_wC G ad σ κ).set 0 (ad 0, .inr (4, [.ref (ad 1), .ref (ad 2), .ref (ad 3), .ref (ad 4), .ref (ad 6), .ref (ad 7), .int (nI x), .int (nI (κ 0 1)), .int (σ 8 1)])) = z_wC G ad σ (z_up κ 0 0 x) := by
  refine z_w_set ?_ (fun j hj => ?_)
  · simp [z_cC, z_up]
  · simp only [z_cC]
    by_cases a0 : j = 0
    · first | exact absurd a0 hj | (simp [a0, z_up]; done) | (simp [a0, z_up]; omega)
    (simp only [a0, if_false])
    by_cases a1 : j = 1
    · first | exact absurd a1 hj | (simp [a1, z_up]; done) | (simp [a1, z_up]; omega)
    (simp only [a1, if_false])
    by_cases a2 : j = 2
    · first | exact absurd a2 hj | (simp [a2, z_up]; done) | (simp [a2, z_up]; omega)
    (simp only [a2, if_false])
    by_cases a3 : j = 3
    · first | exact absurd a3 hj | (simp [a3, z_up]; done) | (simp [a3, z_up]; omega)
    (simp only [a3, if_false])
    by_cases a4 : j = 4
    · first | exact absurd a4 hj | (simp [a4, z_up]; done) | (simp [a4, z_up]; omega)
    (simp only [a4, if_false])
    by_cases a5 : j = 5
    · first | exact absurd a5 hj | (simp [a5, z_up]; done) | (simp [a5, z_up]; omega)
    (simp only [a5, if_false])
    by_cases a6 : j = 6
    · first | exact absurd a6 hj | (simp [a6, z_up]; done) | (simp [a6, z_up]; omega)
    (simp only [a6, if_false])
    by_cases a7 : j = 7
    · first | exact absurd a7 hj | (simp [a7, z_up]; done) | (simp [a7, z_up]; omega)
    (simp only [a7, if_false])
    by_cases b1 : j < 16
    · (simp only [b1, if_true]) <;> first | rfl | (simp [z_up]; done) | (simp [z_up, show ¬ j - 8 = v from by omega]; done)
    by_cases b2 : j < 22
    · (simp only [b1, b2, if_true, if_false]) <;> first | rfl | (simp [z_up]; done) | (simp [z_up, show ¬ j - 16 = t from by omega]; done)
    by_cases b3 : j < 28
    · (simp only [b1, b2, b3, if_true, if_false]) <;> first | rfl | (simp [z_up, show ¬ 2 + (j - 22) = 0 from by omega, show ¬ 2 + (j - 22) = 1 from by omega]; done) | (simp [z_up, show ¬ j - 22 = t from by omega, show ¬ 2 + (j - 22) = 2 + t from by omega]; done)
    (simp only [b1, b2, b3, if_false]) <;> first | rfl | (simp [z_up, show ¬ 10 + (j - 28) = 0 from by omega, show ¬ 10 + (j - 28) = 1 from by omega, show ¬ 10 + (j - 28) = 2 from by omega, show ¬ 10 + (j - 28) = 3 from by omega, show ¬ 10 + (j - 28) = 4 from by omega, show ¬ 10 + (j - 28) = 5 from by omega, show ¬ 10 + (j - 28) = 6 from by omega, show ¬ 10 + (j - 28) = 7 from by omega, show ¬ 10 + (j - 28) = 8 from by omega]; done) | (simp [z_up, show ¬ j - 28 = a from by omega, show ¬ 10 + (j - 28) = 10 + a from by omega]; done)
set_option maxHeartbeats 1000000 in
theorem z_sM7 {x : Nat}  : (z_wC G ad σ κ).set 0 (ad 0, .inr (4, [.ref (ad 1), .ref (ad 2), .ref (ad 3), .ref (ad 4), .ref (ad 6), .ref (ad 7), .int (nI (κ 0 0)), .int (nI x), .int (σ 8 1)])) = z_wC G ad σ (z_up κ 0 1 x) := by
  refine z_w_set ?_ (fun j hj => ?_)
  · simp [z_cC, z_up]
  · simp only [z_cC]
    by_cases a0 : j = 0
    · first | exact absurd a0 hj | (simp [a0, z_up]; done) | (simp [a0, z_up]; omega)
    (simp only [a0, if_false])
    by_cases a1 : j = 1
    · first | exact absurd a1 hj | (simp [a1, z_up]; done) | (simp [a1, z_up]; omega)
    (simp only [a1, if_false])
    by_cases a2 : j = 2
    · first | exact absurd a2 hj | (simp [a2, z_up]; done) | (simp [a2, z_up]; omega)
    (simp only [a2, if_false])
    by_cases a3 : j = 3
    · first | exact absurd a3 hj | (simp [a3, z_up]; done) | (simp [a3, z_up]; omega)
    (simp only [a3, if_false])
    by_cases a4 : j = 4
    · first | exact absurd a4 hj | (simp [a4, z_up]; done) | (simp [a4, z_up]; omega)
    (simp only [a4, if_false])
    by_cases a5 : j = 5
    · first | exact absurd a5 hj | (simp [a5, z_up]; done) | (simp [a5, z_up]; omega)
    (simp only [a5, if_false])
    by_cases a6 : j = 6
    · first | exact absurd a6 hj | (simp [a6, z_up]; done) | (simp [a6, z_up]; omega)
    (simp only [a6, if_false])
    by_cases a7 : j = 7
    · first | exact absurd a7 hj | (simp [a7, z_up]; done) | (simp [a7, z_up]; omega)
    (simp only [a7, if_false])
    by_cases b1 : j < 16
    · (simp only [b1, if_true]) <;> first | rfl | (simp [z_up]; done) | (simp [z_up, show ¬ j - 8 = v from by omega]; done)
    by_cases b2 : j < 22
    · (simp only [b1, b2, if_true, if_false]) <;> first | rfl | (simp [z_up]; done) | (simp [z_up, show ¬ j - 16 = t from by omega]; done)
    by_cases b3 : j < 28
    · (simp only [b1, b2, b3, if_true, if_false]) <;> first | rfl | (simp [z_up, show ¬ 2 + (j - 22) = 0 from by omega, show ¬ 2 + (j - 22) = 1 from by omega]; done) | (simp [z_up, show ¬ j - 22 = t from by omega, show ¬ 2 + (j - 22) = 2 + t from by omega]; done)
    (simp only [b1, b2, b3, if_false]) <;> first | rfl | (simp [z_up, show ¬ 10 + (j - 28) = 0 from by omega, show ¬ 10 + (j - 28) = 1 from by omega, show ¬ 10 + (j - 28) = 2 from by omega, show ¬ 10 + (j - 28) = 3 from by omega, show ¬ 10 + (j - 28) = 4 from by omega, show ¬ 10 + (j - 28) = 5 from by omega, show ¬ 10 + (j - 28) = 6 from by omega, show ¬ 10 + (j - 28) = 7 from by omega, show ¬ 10 + (j - 28) = 8 from by omega]; done) | (simp [z_up, show ¬ j - 28 = a from by omega, show ¬ 10 + (j - 28) = 10 + a from by omega]; done)
set_option maxHeartbeats 1000000 in
theorem z_sM8 {x : Int32}  : (z_wC G ad σ κ).set 0 (ad 0, .inr (4, [.ref (ad 1), .ref (ad 2), .ref (ad 3), .ref (ad 4), .ref (ad 6), .ref (ad 7), .int (nI (κ 0 0)), .int (nI (κ 0 1)), .int x])) = z_wC G ad (z_up σ 8 1 x) κ := by
  refine z_w_set ?_ (fun j hj => ?_)
  · simp [z_cC, z_up]
  · simp only [z_cC]
    by_cases a0 : j = 0
    · first | exact absurd a0 hj | (simp [a0, z_up]; done) | (simp [a0, z_up]; omega)
    (simp only [a0, if_false])
    by_cases a1 : j = 1
    · first | exact absurd a1 hj | (simp [a1, z_up]; done) | (simp [a1, z_up]; omega)
    (simp only [a1, if_false])
    by_cases a2 : j = 2
    · first | exact absurd a2 hj | (simp [a2, z_up]; done) | (simp [a2, z_up]; omega)
    (simp only [a2, if_false])
    by_cases a3 : j = 3
    · first | exact absurd a3 hj | (simp [a3, z_up]; done) | (simp [a3, z_up]; omega)
    (simp only [a3, if_false])
    by_cases a4 : j = 4
    · first | exact absurd a4 hj | (simp [a4, z_up]; done) | (simp [a4, z_up]; omega)
    (simp only [a4, if_false])
    by_cases a5 : j = 5
    · first | exact absurd a5 hj | (simp [a5, z_up]; done) | (simp [a5, z_up]; omega)
    (simp only [a5, if_false])
    by_cases a6 : j = 6
    · first | exact absurd a6 hj | (simp [a6, z_up]; done) | (simp [a6, z_up]; omega)
    (simp only [a6, if_false])
    by_cases a7 : j = 7
    · first | exact absurd a7 hj | (simp [a7, z_up]; done) | (simp [a7, z_up]; omega)
    (simp only [a7, if_false])
    by_cases b1 : j < 16
    · (simp only [b1, if_true]) <;> first | rfl | (simp [z_up]; done) | (simp [z_up, show ¬ j - 8 = v from by omega]; done)
    by_cases b2 : j < 22
    · (simp only [b1, b2, if_true, if_false]) <;> first | rfl | (simp [z_up]; done) | (simp [z_up, show ¬ j - 16 = t from by omega]; done)
    by_cases b3 : j < 28
    · (simp only [b1, b2, b3, if_true, if_false]) <;> first | rfl | (simp [z_up, show ¬ 2 + (j - 22) = 0 from by omega, show ¬ 2 + (j - 22) = 1 from by omega]; done) | (simp [z_up, show ¬ j - 22 = t from by omega, show ¬ 2 + (j - 22) = 2 + t from by omega]; done)
    (simp only [b1, b2, b3, if_false]) <;> first | rfl | (simp [z_up, show ¬ 10 + (j - 28) = 0 from by omega, show ¬ 10 + (j - 28) = 1 from by omega, show ¬ 10 + (j - 28) = 2 from by omega, show ¬ 10 + (j - 28) = 3 from by omega, show ¬ 10 + (j - 28) = 4 from by omega, show ¬ 10 + (j - 28) = 5 from by omega, show ¬ 10 + (j - 28) = 6 from by omega, show ¬ 10 + (j - 28) = 7 from by omega, show ¬ 10 + (j - 28) = 8 from by omega]; done) | (simp [z_up, show ¬ j - 28 = a from by omega, show ¬ 10 + (j - 28) = 10 + a from by omega]; done)
set_option maxHeartbeats 1000000 in
theorem z_sL {x : Int32}  : (z_wC G ad σ κ).set 4 (ad 4, .inr (1, [.ref (ad 5), .int x])) = z_wC G ad (z_up σ 8 0 x) κ := by
  refine z_w_set ?_ (fun j hj => ?_)
  · simp [z_cC, z_up]
  · simp only [z_cC]
    by_cases a0 : j = 0
    · first | exact absurd a0 hj | (simp [a0, z_up]; done) | (simp [a0, z_up]; omega)
    (simp only [a0, if_false])
    by_cases a1 : j = 1
    · first | exact absurd a1 hj | (simp [a1, z_up]; done) | (simp [a1, z_up]; omega)
    (simp only [a1, if_false])
    by_cases a2 : j = 2
    · first | exact absurd a2 hj | (simp [a2, z_up]; done) | (simp [a2, z_up]; omega)
    (simp only [a2, if_false])
    by_cases a3 : j = 3
    · first | exact absurd a3 hj | (simp [a3, z_up]; done) | (simp [a3, z_up]; omega)
    (simp only [a3, if_false])
    by_cases a4 : j = 4
    · first | exact absurd a4 hj | (simp [a4, z_up]; done) | (simp [a4, z_up]; omega)
    (simp only [a4, if_false])
    by_cases a5 : j = 5
    · first | exact absurd a5 hj | (simp [a5, z_up]; done) | (simp [a5, z_up]; omega)
    (simp only [a5, if_false])
    by_cases a6 : j = 6
    · first | exact absurd a6 hj | (simp [a6, z_up]; done) | (simp [a6, z_up]; omega)
    (simp only [a6, if_false])
    by_cases a7 : j = 7
    · first | exact absurd a7 hj | (simp [a7, z_up]; done) | (simp [a7, z_up]; omega)
    (simp only [a7, if_false])
    by_cases b1 : j < 16
    · (simp only [b1, if_true]) <;> first | rfl | (simp [z_up]; done) | (simp [z_up, show ¬ j - 8 = v from by omega]; done)
    by_cases b2 : j < 22
    · (simp only [b1, b2, if_true, if_false]) <;> first | rfl | (simp [z_up]; done) | (simp [z_up, show ¬ j - 16 = t from by omega]; done)
    by_cases b3 : j < 28
    · (simp only [b1, b2, b3, if_true, if_false]) <;> first | rfl | (simp [z_up, show ¬ 2 + (j - 22) = 0 from by omega, show ¬ 2 + (j - 22) = 1 from by omega]; done) | (simp [z_up, show ¬ j - 22 = t from by omega, show ¬ 2 + (j - 22) = 2 + t from by omega]; done)
    (simp only [b1, b2, b3, if_false]) <;> first | rfl | (simp [z_up, show ¬ 10 + (j - 28) = 0 from by omega, show ¬ 10 + (j - 28) = 1 from by omega, show ¬ 10 + (j - 28) = 2 from by omega, show ¬ 10 + (j - 28) = 3 from by omega, show ¬ 10 + (j - 28) = 4 from by omega, show ¬ 10 + (j - 28) = 5 from by omega, show ¬ 10 + (j - 28) = 6 from by omega, show ¬ 10 + (j - 28) = 7 from by omega, show ¬ 10 + (j - 28) = 8 from by omega]; done) | (simp [z_up, show ¬ j - 28 = a from by omega, show ¬ 10 + (j - 28) = 10 + a from by omega]; done)
set_option maxHeartbeats 1000000 in
theorem z_sB60 {x : Int32}  : (z_wC G ad σ κ).set 6 (ad 6, .inr (0, [.int x, .int (σ 8 3), .int (σ 8 4)])) = z_wC G ad (z_up σ 8 2 x) κ := by
  refine z_w_set ?_ (fun j hj => ?_)
  · simp [z_cC, z_up]
  · simp only [z_cC]
    by_cases a0 : j = 0
    · first | exact absurd a0 hj | (simp [a0, z_up]; done) | (simp [a0, z_up]; omega)
    (simp only [a0, if_false])
    by_cases a1 : j = 1
    · first | exact absurd a1 hj | (simp [a1, z_up]; done) | (simp [a1, z_up]; omega)
    (simp only [a1, if_false])
    by_cases a2 : j = 2
    · first | exact absurd a2 hj | (simp [a2, z_up]; done) | (simp [a2, z_up]; omega)
    (simp only [a2, if_false])
    by_cases a3 : j = 3
    · first | exact absurd a3 hj | (simp [a3, z_up]; done) | (simp [a3, z_up]; omega)
    (simp only [a3, if_false])
    by_cases a4 : j = 4
    · first | exact absurd a4 hj | (simp [a4, z_up]; done) | (simp [a4, z_up]; omega)
    (simp only [a4, if_false])
    by_cases a5 : j = 5
    · first | exact absurd a5 hj | (simp [a5, z_up]; done) | (simp [a5, z_up]; omega)
    (simp only [a5, if_false])
    by_cases a6 : j = 6
    · first | exact absurd a6 hj | (simp [a6, z_up]; done) | (simp [a6, z_up]; omega)
    (simp only [a6, if_false])
    by_cases a7 : j = 7
    · first | exact absurd a7 hj | (simp [a7, z_up]; done) | (simp [a7, z_up]; omega)
    (simp only [a7, if_false])
    by_cases b1 : j < 16
    · (simp only [b1, if_true]) <;> first | rfl | (simp [z_up]; done) | (simp [z_up, show ¬ j - 8 = v from by omega]; done)
    by_cases b2 : j < 22
    · (simp only [b1, b2, if_true, if_false]) <;> first | rfl | (simp [z_up]; done) | (simp [z_up, show ¬ j - 16 = t from by omega]; done)
    by_cases b3 : j < 28
    · (simp only [b1, b2, b3, if_true, if_false]) <;> first | rfl | (simp [z_up, show ¬ 2 + (j - 22) = 0 from by omega, show ¬ 2 + (j - 22) = 1 from by omega]; done) | (simp [z_up, show ¬ j - 22 = t from by omega, show ¬ 2 + (j - 22) = 2 + t from by omega]; done)
    (simp only [b1, b2, b3, if_false]) <;> first | rfl | (simp [z_up, show ¬ 10 + (j - 28) = 0 from by omega, show ¬ 10 + (j - 28) = 1 from by omega, show ¬ 10 + (j - 28) = 2 from by omega, show ¬ 10 + (j - 28) = 3 from by omega, show ¬ 10 + (j - 28) = 4 from by omega, show ¬ 10 + (j - 28) = 5 from by omega, show ¬ 10 + (j - 28) = 6 from by omega, show ¬ 10 + (j - 28) = 7 from by omega, show ¬ 10 + (j - 28) = 8 from by omega]; done) | (simp [z_up, show ¬ j - 28 = a from by omega, show ¬ 10 + (j - 28) = 10 + a from by omega]; done)
set_option maxHeartbeats 1000000 in
theorem z_sB61 {x : Int32}  : (z_wC G ad σ κ).set 6 (ad 6, .inr (0, [.int (σ 8 2), .int x, .int (σ 8 4)])) = z_wC G ad (z_up σ 8 3 x) κ := by
  refine z_w_set ?_ (fun j hj => ?_)
  · simp [z_cC, z_up]
  · simp only [z_cC]
    by_cases a0 : j = 0
    · first | exact absurd a0 hj | (simp [a0, z_up]; done) | (simp [a0, z_up]; omega)
    (simp only [a0, if_false])
    by_cases a1 : j = 1
    · first | exact absurd a1 hj | (simp [a1, z_up]; done) | (simp [a1, z_up]; omega)
    (simp only [a1, if_false])
    by_cases a2 : j = 2
    · first | exact absurd a2 hj | (simp [a2, z_up]; done) | (simp [a2, z_up]; omega)
    (simp only [a2, if_false])
    by_cases a3 : j = 3
    · first | exact absurd a3 hj | (simp [a3, z_up]; done) | (simp [a3, z_up]; omega)
    (simp only [a3, if_false])
    by_cases a4 : j = 4
    · first | exact absurd a4 hj | (simp [a4, z_up]; done) | (simp [a4, z_up]; omega)
    (simp only [a4, if_false])
    by_cases a5 : j = 5
    · first | exact absurd a5 hj | (simp [a5, z_up]; done) | (simp [a5, z_up]; omega)
    (simp only [a5, if_false])
    by_cases a6 : j = 6
    · first | exact absurd a6 hj | (simp [a6, z_up]; done) | (simp [a6, z_up]; omega)
    (simp only [a6, if_false])
    by_cases a7 : j = 7
    · first | exact absurd a7 hj | (simp [a7, z_up]; done) | (simp [a7, z_up]; omega)
    (simp only [a7, if_false])
    by_cases b1 : j < 16
    · (simp only [b1, if_true]) <;> first | rfl | (simp [z_up]; done) | (simp [z_up, show ¬ j - 8 = v from by omega]; done)
    by_cases b2 : j < 22
    · (simp only [b1, b2, if_true, if_false]) <;> first | rfl | (simp [z_up]; done) | (simp [z_up, show ¬ j - 16 = t from by omega]; done)
    by_cases b3 : j < 28
    · (simp only [b1, b2, b3, if_true, if_false]) <;> first | rfl | (simp [z_up, show ¬ 2 + (j - 22) = 0 from by omega, show ¬ 2 + (j - 22) = 1 from by omega]; done) | (simp [z_up, show ¬ j - 22 = t from by omega, show ¬ 2 + (j - 22) = 2 + t from by omega]; done)
    (simp only [b1, b2, b3, if_false]) <;> first | rfl | (simp [z_up, show ¬ 10 + (j - 28) = 0 from by omega, show ¬ 10 + (j - 28) = 1 from by omega, show ¬ 10 + (j - 28) = 2 from by omega, show ¬ 10 + (j - 28) = 3 from by omega, show ¬ 10 + (j - 28) = 4 from by omega, show ¬ 10 + (j - 28) = 5 from by omega, show ¬ 10 + (j - 28) = 6 from by omega, show ¬ 10 + (j - 28) = 7 from by omega, show ¬ 10 + (j - 28) = 8 from by omega]; done) | (simp [z_up, show ¬ j - 28 = a from by omega, show ¬ 10 + (j - 28) = 10 + a from by omega]; done)
set_option maxHeartbeats 1000000 in
theorem z_sB62 {x : Int32}  : (z_wC G ad σ κ).set 6 (ad 6, .inr (0, [.int (σ 8 2), .int (σ 8 3), .int x])) = z_wC G ad (z_up σ 8 4 x) κ := by
  refine z_w_set ?_ (fun j hj => ?_)
  · simp [z_cC, z_up]
  · simp only [z_cC]
    by_cases a0 : j = 0
    · first | exact absurd a0 hj | (simp [a0, z_up]; done) | (simp [a0, z_up]; omega)
    (simp only [a0, if_false])
    by_cases a1 : j = 1
    · first | exact absurd a1 hj | (simp [a1, z_up]; done) | (simp [a1, z_up]; omega)
    (simp only [a1, if_false])
    by_cases a2 : j = 2
    · first | exact absurd a2 hj | (simp [a2, z_up]; done) | (simp [a2, z_up]; omega)
    (simp only [a2, if_false])
    by_cases a3 : j = 3
    · first | exact absurd a3 hj | (simp [a3, z_up]; done) | (simp [a3, z_up]; omega)
    (simp only [a3, if_false])
    by_cases a4 : j = 4
    · first | exact absurd a4 hj | (simp [a4, z_up]; done) | (simp [a4, z_up]; omega)
    (simp only [a4, if_false])
    by_cases a5 : j = 5
    · first | exact absurd a5 hj | (simp [a5, z_up]; done) | (simp [a5, z_up]; omega)
    (simp only [a5, if_false])
    by_cases a6 : j = 6
    · first | exact absurd a6 hj | (simp [a6, z_up]; done) | (simp [a6, z_up]; omega)
    (simp only [a6, if_false])
    by_cases a7 : j = 7
    · first | exact absurd a7 hj | (simp [a7, z_up]; done) | (simp [a7, z_up]; omega)
    (simp only [a7, if_false])
    by_cases b1 : j < 16
    · (simp only [b1, if_true]) <;> first | rfl | (simp [z_up]; done) | (simp [z_up, show ¬ j - 8 = v from by omega]; done)
    by_cases b2 : j < 22
    · (simp only [b1, b2, if_true, if_false]) <;> first | rfl | (simp [z_up]; done) | (simp [z_up, show ¬ j - 16 = t from by omega]; done)
    by_cases b3 : j < 28
    · (simp only [b1, b2, b3, if_true, if_false]) <;> first | rfl | (simp [z_up, show ¬ 2 + (j - 22) = 0 from by omega, show ¬ 2 + (j - 22) = 1 from by omega]; done) | (simp [z_up, show ¬ j - 22 = t from by omega, show ¬ 2 + (j - 22) = 2 + t from by omega]; done)
    (simp only [b1, b2, b3, if_false]) <;> first | rfl | (simp [z_up, show ¬ 10 + (j - 28) = 0 from by omega, show ¬ 10 + (j - 28) = 1 from by omega, show ¬ 10 + (j - 28) = 2 from by omega, show ¬ 10 + (j - 28) = 3 from by omega, show ¬ 10 + (j - 28) = 4 from by omega, show ¬ 10 + (j - 28) = 5 from by omega, show ¬ 10 + (j - 28) = 6 from by omega, show ¬ 10 + (j - 28) = 7 from by omega, show ¬ 10 + (j - 28) = 8 from by omega]; done) | (simp [z_up, show ¬ j - 28 = a from by omega, show ¬ 10 + (j - 28) = 10 + a from by omega]; done)
set_option maxHeartbeats 1000000 in
theorem z_sB70 {x : Int32}  : (z_wC G ad σ κ).set 7 (ad 7, .inr (0, [.int x, .int (σ 8 6), .int (σ 8 7)])) = z_wC G ad (z_up σ 8 5 x) κ := by
  refine z_w_set ?_ (fun j hj => ?_)
  · simp [z_cC, z_up]
  · simp only [z_cC]
    by_cases a0 : j = 0
    · first | exact absurd a0 hj | (simp [a0, z_up]; done) | (simp [a0, z_up]; omega)
    (simp only [a0, if_false])
    by_cases a1 : j = 1
    · first | exact absurd a1 hj | (simp [a1, z_up]; done) | (simp [a1, z_up]; omega)
    (simp only [a1, if_false])
    by_cases a2 : j = 2
    · first | exact absurd a2 hj | (simp [a2, z_up]; done) | (simp [a2, z_up]; omega)
    (simp only [a2, if_false])
    by_cases a3 : j = 3
    · first | exact absurd a3 hj | (simp [a3, z_up]; done) | (simp [a3, z_up]; omega)
    (simp only [a3, if_false])
    by_cases a4 : j = 4
    · first | exact absurd a4 hj | (simp [a4, z_up]; done) | (simp [a4, z_up]; omega)
    (simp only [a4, if_false])
    by_cases a5 : j = 5
    · first | exact absurd a5 hj | (simp [a5, z_up]; done) | (simp [a5, z_up]; omega)
    (simp only [a5, if_false])
    by_cases a6 : j = 6
    · first | exact absurd a6 hj | (simp [a6, z_up]; done) | (simp [a6, z_up]; omega)
    (simp only [a6, if_false])
    by_cases a7 : j = 7
    · first | exact absurd a7 hj | (simp [a7, z_up]; done) | (simp [a7, z_up]; omega)
    (simp only [a7, if_false])
    by_cases b1 : j < 16
    · (simp only [b1, if_true]) <;> first | rfl | (simp [z_up]; done) | (simp [z_up, show ¬ j - 8 = v from by omega]; done)
    by_cases b2 : j < 22
    · (simp only [b1, b2, if_true, if_false]) <;> first | rfl | (simp [z_up]; done) | (simp [z_up, show ¬ j - 16 = t from by omega]; done)
    by_cases b3 : j < 28
    · (simp only [b1, b2, b3, if_true, if_false]) <;> first | rfl | (simp [z_up, show ¬ 2 + (j - 22) = 0 from by omega, show ¬ 2 + (j - 22) = 1 from by omega]; done) | (simp [z_up, show ¬ j - 22 = t from by omega, show ¬ 2 + (j - 22) = 2 + t from by omega]; done)
    (simp only [b1, b2, b3, if_false]) <;> first | rfl | (simp [z_up, show ¬ 10 + (j - 28) = 0 from by omega, show ¬ 10 + (j - 28) = 1 from by omega, show ¬ 10 + (j - 28) = 2 from by omega, show ¬ 10 + (j - 28) = 3 from by omega, show ¬ 10 + (j - 28) = 4 from by omega, show ¬ 10 + (j - 28) = 5 from by omega, show ¬ 10 + (j - 28) = 6 from by omega, show ¬ 10 + (j - 28) = 7 from by omega, show ¬ 10 + (j - 28) = 8 from by omega]; done) | (simp [z_up, show ¬ j - 28 = a from by omega, show ¬ 10 + (j - 28) = 10 + a from by omega]; done)
set_option maxHeartbeats 1000000 in
theorem z_sB71 {x : Int32}  : (z_wC G ad σ κ).set 7 (ad 7, .inr (0, [.int (σ 8 5), .int x, .int (σ 8 7)])) = z_wC G ad (z_up σ 8 6 x) κ := by
  refine z_w_set ?_ (fun j hj => ?_)
  · simp [z_cC, z_up]
  · simp only [z_cC]
    by_cases a0 : j = 0
    · first | exact absurd a0 hj | (simp [a0, z_up]; done) | (simp [a0, z_up]; omega)
    (simp only [a0, if_false])
    by_cases a1 : j = 1
    · first | exact absurd a1 hj | (simp [a1, z_up]; done) | (simp [a1, z_up]; omega)
    (simp only [a1, if_false])
    by_cases a2 : j = 2
    · first | exact absurd a2 hj | (simp [a2, z_up]; done) | (simp [a2, z_up]; omega)
    (simp only [a2, if_false])
    by_cases a3 : j = 3
    · first | exact absurd a3 hj | (simp [a3, z_up]; done) | (simp [a3, z_up]; omega)
    (simp only [a3, if_false])
    by_cases a4 : j = 4
    · first | exact absurd a4 hj | (simp [a4, z_up]; done) | (simp [a4, z_up]; omega)
    (simp only [a4, if_false])
    by_cases a5 : j = 5
    · first | exact absurd a5 hj | (simp [a5, z_up]; done) | (simp [a5, z_up]; omega)
    (simp only [a5, if_false])
    by_cases a6 : j = 6
    · first | exact absurd a6 hj | (simp [a6, z_up]; done) | (simp [a6, z_up]; omega)
    (simp only [a6, if_false])
    by_cases a7 : j = 7
    · first | exact absurd a7 hj | (simp [a7, z_up]; done) | (simp [a7, z_up]; omega)
    (simp only [a7, if_false])
    by_cases b1 : j < 16
    · (simp only [b1, if_true]) <;> first | rfl | (simp [z_up]; done) | (simp [z_up, show ¬ j - 8 = v from by omega]; done)
    by_cases b2 : j < 22
    · (simp only [b1, b2, if_true, if_false]) <;> first | rfl | (simp [z_up]; done) | (simp [z_up, show ¬ j - 16 = t from by omega]; done)
    by_cases b3 : j < 28
    · (simp only [b1, b2, b3, if_true, if_false]) <;> first | rfl | (simp [z_up, show ¬ 2 + (j - 22) = 0 from by omega, show ¬ 2 + (j - 22) = 1 from by omega]; done) | (simp [z_up, show ¬ j - 22 = t from by omega, show ¬ 2 + (j - 22) = 2 + t from by omega]; done)
    (simp only [b1, b2, b3, if_false]) <;> first | rfl | (simp [z_up, show ¬ 10 + (j - 28) = 0 from by omega, show ¬ 10 + (j - 28) = 1 from by omega, show ¬ 10 + (j - 28) = 2 from by omega, show ¬ 10 + (j - 28) = 3 from by omega, show ¬ 10 + (j - 28) = 4 from by omega, show ¬ 10 + (j - 28) = 5 from by omega, show ¬ 10 + (j - 28) = 6 from by omega, show ¬ 10 + (j - 28) = 7 from by omega, show ¬ 10 + (j - 28) = 8 from by omega]; done) | (simp [z_up, show ¬ j - 28 = a from by omega, show ¬ 10 + (j - 28) = 10 + a from by omega]; done)
set_option maxHeartbeats 1000000 in
theorem z_sB72 {x : Int32}  : (z_wC G ad σ κ).set 7 (ad 7, .inr (0, [.int (σ 8 5), .int (σ 8 6), .int x])) = z_wC G ad (z_up σ 8 7 x) κ := by
  refine z_w_set ?_ (fun j hj => ?_)
  · simp [z_cC, z_up]
  · simp only [z_cC]
    by_cases a0 : j = 0
    · first | exact absurd a0 hj | (simp [a0, z_up]; done) | (simp [a0, z_up]; omega)
    (simp only [a0, if_false])
    by_cases a1 : j = 1
    · first | exact absurd a1 hj | (simp [a1, z_up]; done) | (simp [a1, z_up]; omega)
    (simp only [a1, if_false])
    by_cases a2 : j = 2
    · first | exact absurd a2 hj | (simp [a2, z_up]; done) | (simp [a2, z_up]; omega)
    (simp only [a2, if_false])
    by_cases a3 : j = 3
    · first | exact absurd a3 hj | (simp [a3, z_up]; done) | (simp [a3, z_up]; omega)
    (simp only [a3, if_false])
    by_cases a4 : j = 4
    · first | exact absurd a4 hj | (simp [a4, z_up]; done) | (simp [a4, z_up]; omega)
    (simp only [a4, if_false])
    by_cases a5 : j = 5
    · first | exact absurd a5 hj | (simp [a5, z_up]; done) | (simp [a5, z_up]; omega)
    (simp only [a5, if_false])
    by_cases a6 : j = 6
    · first | exact absurd a6 hj | (simp [a6, z_up]; done) | (simp [a6, z_up]; omega)
    (simp only [a6, if_false])
    by_cases a7 : j = 7
    · first | exact absurd a7 hj | (simp [a7, z_up]; done) | (simp [a7, z_up]; omega)
    (simp only [a7, if_false])
    by_cases b1 : j < 16
    · (simp only [b1, if_true]) <;> first | rfl | (simp [z_up]; done) | (simp [z_up, show ¬ j - 8 = v from by omega]; done)
    by_cases b2 : j < 22
    · (simp only [b1, b2, if_true, if_false]) <;> first | rfl | (simp [z_up]; done) | (simp [z_up, show ¬ j - 16 = t from by omega]; done)
    by_cases b3 : j < 28
    · (simp only [b1, b2, b3, if_true, if_false]) <;> first | rfl | (simp [z_up, show ¬ 2 + (j - 22) = 0 from by omega, show ¬ 2 + (j - 22) = 1 from by omega]; done) | (simp [z_up, show ¬ j - 22 = t from by omega, show ¬ 2 + (j - 22) = 2 + t from by omega]; done)
    (simp only [b1, b2, b3, if_false]) <;> first | rfl | (simp [z_up, show ¬ 10 + (j - 28) = 0 from by omega, show ¬ 10 + (j - 28) = 1 from by omega, show ¬ 10 + (j - 28) = 2 from by omega, show ¬ 10 + (j - 28) = 3 from by omega, show ¬ 10 + (j - 28) = 4 from by omega, show ¬ 10 + (j - 28) = 5 from by omega, show ¬ 10 + (j - 28) = 6 from by omega, show ¬ 10 + (j - 28) = 7 from by omega, show ¬ 10 + (j - 28) = 8 from by omega]; done) | (simp [z_up, show ¬ j - 28 = a from by omega, show ¬ 10 + (j - 28) = 10 + a from by omega]; done)
set_option maxHeartbeats 1000000 in
theorem z_tM0 {x : Int32}  : (z_wM G ad σ κ).set 0 (ad 0, .inr (5, [.int x, .int (nI (κ 0 0)), .ref (ad 1), .ref (ad 2), .ref (ad 3), .int (σ 8 0), .ref (ad 4), .ref (ad 5), .int (nI (κ 0 1)), .ref (ad 6), .ref (ad 7), .ref (ad 8), .ref (ad 9)])) = z_wM G ad (z_up σ 8 1 x) κ := by
  refine z_w_set ?_ (fun j hj => ?_)
  · simp [z_cM, z_up]
  · simp only [z_cM]
    by_cases a0 : j = 0
    · first | exact absurd a0 hj | (simp [a0, z_up]; done) | (simp [a0, z_up]; omega)
    (simp only [a0, if_false])
    by_cases a1 : j = 1
    · first | exact absurd a1 hj | (simp [a1, z_up]; done) | (simp [a1, z_up]; omega)
    (simp only [a1, if_false])
    by_cases a2 : j = 2
    · first | exact absurd a2 hj | (simp [a2, z_up]; done) | (simp [a2, z_up]; omega)
    (simp only [a2, if_false])
    by_cases a3 : j = 3
    · first | exact absurd a3 hj | (simp [a3, z_up]; done) | (simp [a3, z_up]; omega)
    (simp only [a3, if_false])
    by_cases a4 : j = 4
    · first | exact absurd a4 hj | (simp [a4, z_up]; done) | (simp [a4, z_up]; omega)
    (simp only [a4, if_false])
    by_cases a5 : j = 5
    · first | exact absurd a5 hj | (simp [a5, z_up]; done) | (simp [a5, z_up]; omega)
    (simp only [a5, if_false])
    by_cases a6 : j = 6
    · first | exact absurd a6 hj | (simp [a6, z_up]; done) | (simp [a6, z_up]; omega)
    (simp only [a6, if_false])
    by_cases a7 : j = 7
    · first | exact absurd a7 hj | (simp [a7, z_up]; done) | (simp [a7, z_up]; omega)
    (simp only [a7, if_false])
    by_cases a8 : j = 8
    · first | exact absurd a8 hj | (simp [a8, z_up]; done) | (simp [a8, z_up]; omega)
    (simp only [a8, if_false]) <;> first | rfl | (simp [z_up]; done) | (exfalso; omega)
set_option maxHeartbeats 1000000 in
theorem z_tM1 {x : Nat}  : (z_wM G ad σ κ).set 0 (ad 0, .inr (5, [.int (σ 8 1), .int (nI x), .ref (ad 1), .ref (ad 2), .ref (ad 3), .int (σ 8 0), .ref (ad 4), .ref (ad 5), .int (nI (κ 0 1)), .ref (ad 6), .ref (ad 7), .ref (ad 8), .ref (ad 9)])) = z_wM G ad σ (z_up κ 0 0 x) := by
  refine z_w_set ?_ (fun j hj => ?_)
  · simp [z_cM, z_up]
  · simp only [z_cM]
    by_cases a0 : j = 0
    · first | exact absurd a0 hj | (simp [a0, z_up]; done) | (simp [a0, z_up]; omega)
    (simp only [a0, if_false])
    by_cases a1 : j = 1
    · first | exact absurd a1 hj | (simp [a1, z_up]; done) | (simp [a1, z_up]; omega)
    (simp only [a1, if_false])
    by_cases a2 : j = 2
    · first | exact absurd a2 hj | (simp [a2, z_up]; done) | (simp [a2, z_up]; omega)
    (simp only [a2, if_false])
    by_cases a3 : j = 3
    · first | exact absurd a3 hj | (simp [a3, z_up]; done) | (simp [a3, z_up]; omega)
    (simp only [a3, if_false])
    by_cases a4 : j = 4
    · first | exact absurd a4 hj | (simp [a4, z_up]; done) | (simp [a4, z_up]; omega)
    (simp only [a4, if_false])
    by_cases a5 : j = 5
    · first | exact absurd a5 hj | (simp [a5, z_up]; done) | (simp [a5, z_up]; omega)
    (simp only [a5, if_false])
    by_cases a6 : j = 6
    · first | exact absurd a6 hj | (simp [a6, z_up]; done) | (simp [a6, z_up]; omega)
    (simp only [a6, if_false])
    by_cases a7 : j = 7
    · first | exact absurd a7 hj | (simp [a7, z_up]; done) | (simp [a7, z_up]; omega)
    (simp only [a7, if_false])
    by_cases a8 : j = 8
    · first | exact absurd a8 hj | (simp [a8, z_up]; done) | (simp [a8, z_up]; omega)
    (simp only [a8, if_false]) <;> first | rfl | (simp [z_up]; done) | (exfalso; omega)
set_option maxHeartbeats 1000000 in
theorem z_tM5 {x : Int32}  : (z_wM G ad σ κ).set 0 (ad 0, .inr (5, [.int (σ 8 1), .int (nI (κ 0 0)), .ref (ad 1), .ref (ad 2), .ref (ad 3), .int x, .ref (ad 4), .ref (ad 5), .int (nI (κ 0 1)), .ref (ad 6), .ref (ad 7), .ref (ad 8), .ref (ad 9)])) = z_wM G ad (z_up σ 8 0 x) κ := by
  refine z_w_set ?_ (fun j hj => ?_)
  · simp [z_cM, z_up]
  · simp only [z_cM]
    by_cases a0 : j = 0
    · first | exact absurd a0 hj | (simp [a0, z_up]; done) | (simp [a0, z_up]; omega)
    (simp only [a0, if_false])
    by_cases a1 : j = 1
    · first | exact absurd a1 hj | (simp [a1, z_up]; done) | (simp [a1, z_up]; omega)
    (simp only [a1, if_false])
    by_cases a2 : j = 2
    · first | exact absurd a2 hj | (simp [a2, z_up]; done) | (simp [a2, z_up]; omega)
    (simp only [a2, if_false])
    by_cases a3 : j = 3
    · first | exact absurd a3 hj | (simp [a3, z_up]; done) | (simp [a3, z_up]; omega)
    (simp only [a3, if_false])
    by_cases a4 : j = 4
    · first | exact absurd a4 hj | (simp [a4, z_up]; done) | (simp [a4, z_up]; omega)
    (simp only [a4, if_false])
    by_cases a5 : j = 5
    · first | exact absurd a5 hj | (simp [a5, z_up]; done) | (simp [a5, z_up]; omega)
    (simp only [a5, if_false])
    by_cases a6 : j = 6
    · first | exact absurd a6 hj | (simp [a6, z_up]; done) | (simp [a6, z_up]; omega)
    (simp only [a6, if_false])
    by_cases a7 : j = 7
    · first | exact absurd a7 hj | (simp [a7, z_up]; done) | (simp [a7, z_up]; omega)
    (simp only [a7, if_false])
    by_cases a8 : j = 8
    · first | exact absurd a8 hj | (simp [a8, z_up]; done) | (simp [a8, z_up]; omega)
    (simp only [a8, if_false]) <;> first | rfl | (simp [z_up]; done) | (exfalso; omega)
set_option maxHeartbeats 1000000 in
theorem z_tM8 {x : Nat}  : (z_wM G ad σ κ).set 0 (ad 0, .inr (5, [.int (σ 8 1), .int (nI (κ 0 0)), .ref (ad 1), .ref (ad 2), .ref (ad 3), .int (σ 8 0), .ref (ad 4), .ref (ad 5), .int (nI x), .ref (ad 6), .ref (ad 7), .ref (ad 8), .ref (ad 9)])) = z_wM G ad σ (z_up κ 0 1 x) := by
  refine z_w_set ?_ (fun j hj => ?_)
  · simp [z_cM, z_up]
  · simp only [z_cM]
    by_cases a0 : j = 0
    · first | exact absurd a0 hj | (simp [a0, z_up]; done) | (simp [a0, z_up]; omega)
    (simp only [a0, if_false])
    by_cases a1 : j = 1
    · first | exact absurd a1 hj | (simp [a1, z_up]; done) | (simp [a1, z_up]; omega)
    (simp only [a1, if_false])
    by_cases a2 : j = 2
    · first | exact absurd a2 hj | (simp [a2, z_up]; done) | (simp [a2, z_up]; omega)
    (simp only [a2, if_false])
    by_cases a3 : j = 3
    · first | exact absurd a3 hj | (simp [a3, z_up]; done) | (simp [a3, z_up]; omega)
    (simp only [a3, if_false])
    by_cases a4 : j = 4
    · first | exact absurd a4 hj | (simp [a4, z_up]; done) | (simp [a4, z_up]; omega)
    (simp only [a4, if_false])
    by_cases a5 : j = 5
    · first | exact absurd a5 hj | (simp [a5, z_up]; done) | (simp [a5, z_up]; omega)
    (simp only [a5, if_false])
    by_cases a6 : j = 6
    · first | exact absurd a6 hj | (simp [a6, z_up]; done) | (simp [a6, z_up]; omega)
    (simp only [a6, if_false])
    by_cases a7 : j = 7
    · first | exact absurd a7 hj | (simp [a7, z_up]; done) | (simp [a7, z_up]; omega)
    (simp only [a7, if_false])
    by_cases a8 : j = 8
    · first | exact absurd a8 hj | (simp [a8, z_up]; done) | (simp [a8, z_up]; omega)
    (simp only [a8, if_false]) <;> first | rfl | (simp [z_up]; done) | (exfalso; omega)
set_option maxHeartbeats 1000000 in
theorem z_tA1 {i : Int32} {x : Int32}  : (z_wM G ad σ κ).set 1 (ad 1, .inl (z_I G, 8, .inl (upd (fun j => σ 0 j) i.toNatClampNeg x))) = z_wM G ad (z_up σ 0 i.toNatClampNeg x) κ := by
  refine z_w_set ?_ (fun j hj => ?_)
  · show (Sum.inl (z_I G, 8, Sum.inl (fun j => z_up σ 0 i.toNatClampNeg x 0 j)) : va_E) = _
    have e : (fun j => z_up σ 0 i.toNatClampNeg x 0 j) = upd (fun j => σ 0 j) i.toNatClampNeg x := by
      funext j
      by_cases hj : j = i.toNatClampNeg <;> simp [z_up, upd, hj]
    rw [e]
  · simp only [z_cM]
    by_cases a0 : j = 0
    · first | exact absurd a0 hj | (simp [a0, z_up]; done) | (simp [a0, z_up]; omega)
    (simp only [a0, if_false])
    by_cases a1 : j = 1
    · first | exact absurd a1 hj | (simp [a1, z_up]; done) | (simp [a1, z_up]; omega)
    (simp only [a1, if_false])
    by_cases a2 : j = 2
    · first | exact absurd a2 hj | (simp [a2, z_up]; done) | (simp [a2, z_up]; omega)
    (simp only [a2, if_false])
    by_cases a3 : j = 3
    · first | exact absurd a3 hj | (simp [a3, z_up]; done) | (simp [a3, z_up]; omega)
    (simp only [a3, if_false])
    by_cases a4 : j = 4
    · first | exact absurd a4 hj | (simp [a4, z_up]; done) | (simp [a4, z_up]; omega)
    (simp only [a4, if_false])
    by_cases a5 : j = 5
    · first | exact absurd a5 hj | (simp [a5, z_up]; done) | (simp [a5, z_up]; omega)
    (simp only [a5, if_false])
    by_cases a6 : j = 6
    · first | exact absurd a6 hj | (simp [a6, z_up]; done) | (simp [a6, z_up]; omega)
    (simp only [a6, if_false])
    by_cases a7 : j = 7
    · first | exact absurd a7 hj | (simp [a7, z_up]; done) | (simp [a7, z_up]; omega)
    (simp only [a7, if_false])
    by_cases a8 : j = 8
    · first | exact absurd a8 hj | (simp [a8, z_up]; done) | (simp [a8, z_up]; omega)
    (simp only [a8, if_false]) <;> first | rfl | (simp [z_up]; done) | (exfalso; omega)
set_option maxHeartbeats 1000000 in
theorem z_tA2 {i : Int32} {x : Int32}  : (z_wM G ad σ κ).set 2 (ad 2, .inl (z_I G, 8, .inl (upd (fun j => σ 1 j) i.toNatClampNeg x))) = z_wM G ad (z_up σ 1 i.toNatClampNeg x) κ := by
  refine z_w_set ?_ (fun j hj => ?_)
  · show (Sum.inl (z_I G, 8, Sum.inl (fun j => z_up σ 1 i.toNatClampNeg x 1 j)) : va_E) = _
    have e : (fun j => z_up σ 1 i.toNatClampNeg x 1 j) = upd (fun j => σ 1 j) i.toNatClampNeg x := by
      funext j
      by_cases hj : j = i.toNatClampNeg <;> simp [z_up, upd, hj]
    rw [e]
  · simp only [z_cM]
    by_cases a0 : j = 0
    · first | exact absurd a0 hj | (simp [a0, z_up]; done) | (simp [a0, z_up]; omega)
    (simp only [a0, if_false])
    by_cases a1 : j = 1
    · first | exact absurd a1 hj | (simp [a1, z_up]; done) | (simp [a1, z_up]; omega)
    (simp only [a1, if_false])
    by_cases a2 : j = 2
    · first | exact absurd a2 hj | (simp [a2, z_up]; done) | (simp [a2, z_up]; omega)
    (simp only [a2, if_false])
    by_cases a3 : j = 3
    · first | exact absurd a3 hj | (simp [a3, z_up]; done) | (simp [a3, z_up]; omega)
    (simp only [a3, if_false])
    by_cases a4 : j = 4
    · first | exact absurd a4 hj | (simp [a4, z_up]; done) | (simp [a4, z_up]; omega)
    (simp only [a4, if_false])
    by_cases a5 : j = 5
    · first | exact absurd a5 hj | (simp [a5, z_up]; done) | (simp [a5, z_up]; omega)
    (simp only [a5, if_false])
    by_cases a6 : j = 6
    · first | exact absurd a6 hj | (simp [a6, z_up]; done) | (simp [a6, z_up]; omega)
    (simp only [a6, if_false])
    by_cases a7 : j = 7
    · first | exact absurd a7 hj | (simp [a7, z_up]; done) | (simp [a7, z_up]; omega)
    (simp only [a7, if_false])
    by_cases a8 : j = 8
    · first | exact absurd a8 hj | (simp [a8, z_up]; done) | (simp [a8, z_up]; omega)
    (simp only [a8, if_false]) <;> first | rfl | (simp [z_up]; done) | (exfalso; omega)
set_option maxHeartbeats 1000000 in
theorem z_tA3 {i : Int32} {x : Int32}  : (z_wM G ad σ κ).set 3 (ad 3, .inl (z_I G, 8, .inl (upd (fun j => σ 2 j) i.toNatClampNeg x))) = z_wM G ad (z_up σ 2 i.toNatClampNeg x) κ := by
  refine z_w_set ?_ (fun j hj => ?_)
  · show (Sum.inl (z_I G, 8, Sum.inl (fun j => z_up σ 2 i.toNatClampNeg x 2 j)) : va_E) = _
    have e : (fun j => z_up σ 2 i.toNatClampNeg x 2 j) = upd (fun j => σ 2 j) i.toNatClampNeg x := by
      funext j
      by_cases hj : j = i.toNatClampNeg <;> simp [z_up, upd, hj]
    rw [e]
  · simp only [z_cM]
    by_cases a0 : j = 0
    · first | exact absurd a0 hj | (simp [a0, z_up]; done) | (simp [a0, z_up]; omega)
    (simp only [a0, if_false])
    by_cases a1 : j = 1
    · first | exact absurd a1 hj | (simp [a1, z_up]; done) | (simp [a1, z_up]; omega)
    (simp only [a1, if_false])
    by_cases a2 : j = 2
    · first | exact absurd a2 hj | (simp [a2, z_up]; done) | (simp [a2, z_up]; omega)
    (simp only [a2, if_false])
    by_cases a3 : j = 3
    · first | exact absurd a3 hj | (simp [a3, z_up]; done) | (simp [a3, z_up]; omega)
    (simp only [a3, if_false])
    by_cases a4 : j = 4
    · first | exact absurd a4 hj | (simp [a4, z_up]; done) | (simp [a4, z_up]; omega)
    (simp only [a4, if_false])
    by_cases a5 : j = 5
    · first | exact absurd a5 hj | (simp [a5, z_up]; done) | (simp [a5, z_up]; omega)
    (simp only [a5, if_false])
    by_cases a6 : j = 6
    · first | exact absurd a6 hj | (simp [a6, z_up]; done) | (simp [a6, z_up]; omega)
    (simp only [a6, if_false])
    by_cases a7 : j = 7
    · first | exact absurd a7 hj | (simp [a7, z_up]; done) | (simp [a7, z_up]; omega)
    (simp only [a7, if_false])
    by_cases a8 : j = 8
    · first | exact absurd a8 hj | (simp [a8, z_up]; done) | (simp [a8, z_up]; omega)
    (simp only [a8, if_false]) <;> first | rfl | (simp [z_up]; done) | (exfalso; omega)
set_option maxHeartbeats 1000000 in
theorem z_tA4 {i : Int32} {x : Int32}  : (z_wM G ad σ κ).set 4 (ad 4, .inl (z_I G, 64, .inl (upd (fun j => σ 10 j) i.toNatClampNeg x))) = z_wM G ad (z_up σ 10 i.toNatClampNeg x) κ := by
  refine z_w_set ?_ (fun j hj => ?_)
  · show (Sum.inl (z_I G, 64, Sum.inl (fun j => z_up σ 10 i.toNatClampNeg x 10 j)) : va_E) = _
    have e : (fun j => z_up σ 10 i.toNatClampNeg x 10 j) = upd (fun j => σ 10 j) i.toNatClampNeg x := by
      funext j
      by_cases hj : j = i.toNatClampNeg <;> simp [z_up, upd, hj]
    rw [e]
  · simp only [z_cM]
    by_cases a0 : j = 0
    · first | exact absurd a0 hj | (simp [a0, z_up]; done) | (simp [a0, z_up]; omega)
    (simp only [a0, if_false])
    by_cases a1 : j = 1
    · first | exact absurd a1 hj | (simp [a1, z_up]; done) | (simp [a1, z_up]; omega)
    (simp only [a1, if_false])
    by_cases a2 : j = 2
    · first | exact absurd a2 hj | (simp [a2, z_up]; done) | (simp [a2, z_up]; omega)
    (simp only [a2, if_false])
    by_cases a3 : j = 3
    · first | exact absurd a3 hj | (simp [a3, z_up]; done) | (simp [a3, z_up]; omega)
    (simp only [a3, if_false])
    by_cases a4 : j = 4
    · first | exact absurd a4 hj | (simp [a4, z_up]; done) | (simp [a4, z_up]; omega)
    (simp only [a4, if_false])
    by_cases a5 : j = 5
    · first | exact absurd a5 hj | (simp [a5, z_up]; done) | (simp [a5, z_up]; omega)
    (simp only [a5, if_false])
    by_cases a6 : j = 6
    · first | exact absurd a6 hj | (simp [a6, z_up]; done) | (simp [a6, z_up]; omega)
    (simp only [a6, if_false])
    by_cases a7 : j = 7
    · first | exact absurd a7 hj | (simp [a7, z_up]; done) | (simp [a7, z_up]; omega)
    (simp only [a7, if_false])
    by_cases a8 : j = 8
    · first | exact absurd a8 hj | (simp [a8, z_up]; done) | (simp [a8, z_up]; omega)
    (simp only [a8, if_false]) <;> first | rfl | (simp [z_up]; done) | (exfalso; omega)
set_option maxHeartbeats 1000000 in
theorem z_tA5 {i : Int32} {x : Int32}  : (z_wM G ad σ κ).set 5 (ad 5, .inl (z_I G, 10, .inl (upd (fun j => σ 7 j) i.toNatClampNeg x))) = z_wM G ad (z_up σ 7 i.toNatClampNeg x) κ := by
  refine z_w_set ?_ (fun j hj => ?_)
  · show (Sum.inl (z_I G, 10, Sum.inl (fun j => z_up σ 7 i.toNatClampNeg x 7 j)) : va_E) = _
    have e : (fun j => z_up σ 7 i.toNatClampNeg x 7 j) = upd (fun j => σ 7 j) i.toNatClampNeg x := by
      funext j
      by_cases hj : j = i.toNatClampNeg <;> simp [z_up, upd, hj]
    rw [e]
  · simp only [z_cM]
    by_cases a0 : j = 0
    · first | exact absurd a0 hj | (simp [a0, z_up]; done) | (simp [a0, z_up]; omega)
    (simp only [a0, if_false])
    by_cases a1 : j = 1
    · first | exact absurd a1 hj | (simp [a1, z_up]; done) | (simp [a1, z_up]; omega)
    (simp only [a1, if_false])
    by_cases a2 : j = 2
    · first | exact absurd a2 hj | (simp [a2, z_up]; done) | (simp [a2, z_up]; omega)
    (simp only [a2, if_false])
    by_cases a3 : j = 3
    · first | exact absurd a3 hj | (simp [a3, z_up]; done) | (simp [a3, z_up]; omega)
    (simp only [a3, if_false])
    by_cases a4 : j = 4
    · first | exact absurd a4 hj | (simp [a4, z_up]; done) | (simp [a4, z_up]; omega)
    (simp only [a4, if_false])
    by_cases a5 : j = 5
    · first | exact absurd a5 hj | (simp [a5, z_up]; done) | (simp [a5, z_up]; omega)
    (simp only [a5, if_false])
    by_cases a6 : j = 6
    · first | exact absurd a6 hj | (simp [a6, z_up]; done) | (simp [a6, z_up]; omega)
    (simp only [a6, if_false])
    by_cases a7 : j = 7
    · first | exact absurd a7 hj | (simp [a7, z_up]; done) | (simp [a7, z_up]; omega)
    (simp only [a7, if_false])
    by_cases a8 : j = 8
    · first | exact absurd a8 hj | (simp [a8, z_up]; done) | (simp [a8, z_up]; omega)
    (simp only [a8, if_false]) <;> first | rfl | (simp [z_up]; done) | (exfalso; omega)
set_option maxHeartbeats 1000000 in
theorem z_tA6 {i : Int32} {x : Int32}  : (z_wM G ad σ κ).set 6 (ad 6, .inl (z_I G, 6, .inl (upd (fun j => σ 5 j) i.toNatClampNeg x))) = z_wM G ad (z_up σ 5 i.toNatClampNeg x) κ := by
  refine z_w_set ?_ (fun j hj => ?_)
  · show (Sum.inl (z_I G, 6, Sum.inl (fun j => z_up σ 5 i.toNatClampNeg x 5 j)) : va_E) = _
    have e : (fun j => z_up σ 5 i.toNatClampNeg x 5 j) = upd (fun j => σ 5 j) i.toNatClampNeg x := by
      funext j
      by_cases hj : j = i.toNatClampNeg <;> simp [z_up, upd, hj]
    rw [e]
  · simp only [z_cM]
    by_cases a0 : j = 0
    · first | exact absurd a0 hj | (simp [a0, z_up]; done) | (simp [a0, z_up]; omega)
    (simp only [a0, if_false])
    by_cases a1 : j = 1
    · first | exact absurd a1 hj | (simp [a1, z_up]; done) | (simp [a1, z_up]; omega)
    (simp only [a1, if_false])
    by_cases a2 : j = 2
    · first | exact absurd a2 hj | (simp [a2, z_up]; done) | (simp [a2, z_up]; omega)
    (simp only [a2, if_false])
    by_cases a3 : j = 3
    · first | exact absurd a3 hj | (simp [a3, z_up]; done) | (simp [a3, z_up]; omega)
    (simp only [a3, if_false])
    by_cases a4 : j = 4
    · first | exact absurd a4 hj | (simp [a4, z_up]; done) | (simp [a4, z_up]; omega)
    (simp only [a4, if_false])
    by_cases a5 : j = 5
    · first | exact absurd a5 hj | (simp [a5, z_up]; done) | (simp [a5, z_up]; omega)
    (simp only [a5, if_false])
    by_cases a6 : j = 6
    · first | exact absurd a6 hj | (simp [a6, z_up]; done) | (simp [a6, z_up]; omega)
    (simp only [a6, if_false])
    by_cases a7 : j = 7
    · first | exact absurd a7 hj | (simp [a7, z_up]; done) | (simp [a7, z_up]; omega)
    (simp only [a7, if_false])
    by_cases a8 : j = 8
    · first | exact absurd a8 hj | (simp [a8, z_up]; done) | (simp [a8, z_up]; omega)
    (simp only [a8, if_false]) <;> first | rfl | (simp [z_up]; done) | (exfalso; omega)
set_option maxHeartbeats 1000000 in
theorem z_tA7 {k x : Nat} (hk : k < 2 ^ 31) : (z_wM G ad σ κ).set 7 (ad 7, .inl (z_I G, 6, .inl (upd (fun j => nI (κ 1 j)) (nI k).toNatClampNeg (nI x)))) = z_wM G ad σ (z_up κ 1 k x) := by
  refine z_w_set ?_ (fun j hj => ?_)
  · show (Sum.inl (z_I G, 6, Sum.inl (fun j => nI (z_up κ 1 k x 1 j))) : va_E) = _
    rw [nI_clamp hk]
    have e : (fun j => nI (z_up κ 1 k x 1 j)) = upd (fun j => nI (κ 1 j)) k (nI x) := by
      funext j
      by_cases hj : j = k <;> simp [z_up, upd, hj]
    rw [e]
  · simp only [z_cM]
    by_cases a0 : j = 0
    · first | exact absurd a0 hj | (simp [a0, z_up]; done) | (simp [a0, z_up]; omega)
    (simp only [a0, if_false])
    by_cases a1 : j = 1
    · first | exact absurd a1 hj | (simp [a1, z_up]; done) | (simp [a1, z_up]; omega)
    (simp only [a1, if_false])
    by_cases a2 : j = 2
    · first | exact absurd a2 hj | (simp [a2, z_up]; done) | (simp [a2, z_up]; omega)
    (simp only [a2, if_false])
    by_cases a3 : j = 3
    · first | exact absurd a3 hj | (simp [a3, z_up]; done) | (simp [a3, z_up]; omega)
    (simp only [a3, if_false])
    by_cases a4 : j = 4
    · first | exact absurd a4 hj | (simp [a4, z_up]; done) | (simp [a4, z_up]; omega)
    (simp only [a4, if_false])
    by_cases a5 : j = 5
    · first | exact absurd a5 hj | (simp [a5, z_up]; done) | (simp [a5, z_up]; omega)
    (simp only [a5, if_false])
    by_cases a6 : j = 6
    · first | exact absurd a6 hj | (simp [a6, z_up]; done) | (simp [a6, z_up]; omega)
    (simp only [a6, if_false])
    by_cases a7 : j = 7
    · first | exact absurd a7 hj | (simp [a7, z_up]; done) | (simp [a7, z_up]; omega)
    (simp only [a7, if_false])
    by_cases a8 : j = 8
    · first | exact absurd a8 hj | (simp [a8, z_up]; done) | (simp [a8, z_up]; omega)
    (simp only [a8, if_false]) <;> first | rfl | (simp [z_up]; done) | (exfalso; omega)
set_option maxHeartbeats 1000000 in
theorem z_tA8 {k x : Nat} (hk : k < 2 ^ 31) : (z_wM G ad σ κ).set 8 (ad 8, .inl (z_I G, 30, .inl (upd (fun j => nI (κ 2 j)) (nI k).toNatClampNeg (nI x)))) = z_wM G ad σ (z_up κ 2 k x) := by
  refine z_w_set ?_ (fun j hj => ?_)
  · show (Sum.inl (z_I G, 30, Sum.inl (fun j => nI (z_up κ 2 k x 2 j))) : va_E) = _
    rw [nI_clamp hk]
    have e : (fun j => nI (z_up κ 2 k x 2 j)) = upd (fun j => nI (κ 2 j)) k (nI x) := by
      funext j
      by_cases hj : j = k <;> simp [z_up, upd, hj]
    rw [e]
  · simp only [z_cM]
    by_cases a0 : j = 0
    · first | exact absurd a0 hj | (simp [a0, z_up]; done) | (simp [a0, z_up]; omega)
    (simp only [a0, if_false])
    by_cases a1 : j = 1
    · first | exact absurd a1 hj | (simp [a1, z_up]; done) | (simp [a1, z_up]; omega)
    (simp only [a1, if_false])
    by_cases a2 : j = 2
    · first | exact absurd a2 hj | (simp [a2, z_up]; done) | (simp [a2, z_up]; omega)
    (simp only [a2, if_false])
    by_cases a3 : j = 3
    · first | exact absurd a3 hj | (simp [a3, z_up]; done) | (simp [a3, z_up]; omega)
    (simp only [a3, if_false])
    by_cases a4 : j = 4
    · first | exact absurd a4 hj | (simp [a4, z_up]; done) | (simp [a4, z_up]; omega)
    (simp only [a4, if_false])
    by_cases a5 : j = 5
    · first | exact absurd a5 hj | (simp [a5, z_up]; done) | (simp [a5, z_up]; omega)
    (simp only [a5, if_false])
    by_cases a6 : j = 6
    · first | exact absurd a6 hj | (simp [a6, z_up]; done) | (simp [a6, z_up]; omega)
    (simp only [a6, if_false])
    by_cases a7 : j = 7
    · first | exact absurd a7 hj | (simp [a7, z_up]; done) | (simp [a7, z_up]; omega)
    (simp only [a7, if_false])
    by_cases a8 : j = 8
    · first | exact absurd a8 hj | (simp [a8, z_up]; done) | (simp [a8, z_up]; omega)
    (simp only [a8, if_false]) <;> first | rfl | (simp [z_up]; done) | (exfalso; omega)
end ZG
end
section
/-! Part 02b: the launch as every method needs it; contracts' starts and ends; calls. -/
def z_nf : List (String × Nat × String × String × String × String) := [("BlossomTours", 85, "BlossomTours$Roads", "laid", "I", "BlossomTours"), ("BlossomTours", 182, "BlossomTours$Books", "coins", "I", "BlossomTours"), ("BlossomTours", 185, "BlossomTours$Books", "joyInAll", "I", "BlossomTours"), ("BlossomTours", 188, "BlossomTours$Books", "stingsInAll", "I", "BlossomTours"), ("BlossomTours", 68, "BlossomTours$Valley", "from", "I", "BlossomTours"), ("BlossomTours", 71, "BlossomTours$Valley", "length", "I", "BlossomTours"), ("BlossomTours", 74, "BlossomTours$Valley", "bees", "I", "BlossomTours"), ("BlossomTours", 170, "BlossomTours$Valley", "crowd", "I", "BlossomTours"), ("BlossomTours", 173, "BlossomTours$Valley", "visitingTours", "I", "BlossomTours"), ("BlossomTours", 231, "BlossomTours$Tour", "stops", "[I", "BlossomTours"), ("BlossomTours", 143, "BlossomTours$Tour", "stopCount", "I", "BlossomTours"), ("BlossomTours", 122, "BlossomTours$Tour", "tourists", "I", "BlossomTours"), ("BlossomTours", 152, "BlossomTours$Tour", "minutes", "I", "BlossomTours")]
def z_nm : List (String × Nat × MethodName × String) := [("BlossomTours", 27, ⟨"BlossomTours$Roads", "<init>", "()V"⟩, "BlossomTours"), ("BlossomTours", 34, ⟨"BlossomTours$Books", "<init>", "()V"⟩, "BlossomTours"), ("BlossomTours", 42, ⟨"BlossomTours$Valley", "<init>", "()V"⟩, "BlossomTours"), ("BlossomTours", 43, ⟨"BlossomTours$Tour", "<init>", "()V"⟩, "BlossomTours"), ("BlossomTours", 107, ⟨"BlossomTours$Valley", "bloomOn", "(I)I"⟩, "BlossomTours"), ("BlossomTours", 155, ⟨"BlossomTours$Tour", "canGo", "()Z"⟩, "BlossomTours"), ("BlossomTours$Tour", 32, ⟨"BlossomTours", "isWithin", "(III)Z"⟩, "BlossomTours"), ("BlossomTours", 111, ⟨"BlossomTours$Roads", "minutesBetween", "(II)I"⟩, "BlossomTours"), ("BlossomTours$Roads", 31, ⟨"BlossomTours", "isWithin", "(III)Z"⟩, "BlossomTours"), ("BlossomTours", 134, ⟨"BlossomTours$Tour", "visits", "(I)Z"⟩, "BlossomTours"), ("BlossomTours", 90, ⟨"BlossomTours$Roads", "lay", "(III)V"⟩, "BlossomTours"), ("BlossomTours", 244, ⟨"BlossomTours$Tour", "measure", "(LBlossomTours$Roads;)V"⟩, "BlossomTours"), ("BlossomTours$Tour", 23, ⟨"BlossomTours$Roads", "minutesBetween", "(II)I"⟩, "BlossomTours"), ("BlossomTours", 128, ⟨"BlossomTours$Tour", "isFull", "()Z"⟩, "BlossomTours"), ("BlossomTours", 140, ⟨"BlossomTours$Tour", "append", "(I)V"⟩, "BlossomTours"), ("BlossomTours", 148, ⟨"BlossomTours$Tour", "takeLast", "()I"⟩, "BlossomTours"), ("BlossomTours", 203, ⟨"BlossomTours$Books", "copyFrom", "(LBlossomTours$Books;)V"⟩, "BlossomTours")]
def z_sl : List (String × Nat × String) := [("BlossomTours", 191, "what is not 0 to 8"), ("BlossomTours", 236, "no such valley"), ("BlossomTours", 168, "what is not 0 to 5"), ("BlossomTours", 238, "no such tour"), ("BlossomTours", 50, "from is not 0 to 90"), ("BlossomTours", 55, "length is not 1 to 30"), ("BlossomTours", 57, "bees is not 0 to 50"), ("BlossomTours", 65, "there are 8 valleys"), ("BlossomTours", 81, "both valleys are the same"), ("BlossomTours", 83, "minutes is not 1 to 240"), ("BlossomTours", 88, "there are 20 roads"), ("BlossomTours", 99, "day is not 0 to 9"), ("BlossomTours", 102, "heat is not 0 to 40"), ("BlossomTours", 240, "day is less than 0"), ("BlossomTours", 115, "tourists is not 1 to 60"), ("BlossomTours", 120, "there are 6 tours"), ("BlossomTours", 132, "the tour has 5 valleys"), ("BlossomTours", 138, "the tour has this valley"), ("BlossomTours", 146, "the tour has no valley"), ("BlossomTours", 242, "days is not 1 to 60"), ("BlossomTours", 207, "what is not 5 to 8")]
def z_env (U : State) : Prop := (∀ q ∈ z_nf, va_Nw (.fieldLinkNest q.1 q.2.1 q.2.2.1 q.2.2.2.1 q.2.2.2.2.1 q.2.2.2.2.2) U) ∧ ∀ q ∈ z_nm, va_Nw (.methodLinkNest q.1 q.2.1 q.2.2.1 q.2.2.2) U
theorem z_env.warm {s U : State} (hW : s.WarmedH U.vm) (h : z_env s) : z_env U := ⟨fun q hq => va_Nw.warmF hW (h.1 q hq), fun q hq => va_Nw.warmM hW (h.2 q hq)⟩
theorem z_env.same {u U : State} (e : u.vm = U.vm) (h : z_env u) : z_env U := ⟨fun q hq => va_Nw.same rfl e (h.1 q hq), fun q hq => va_Nw.same rfl e (h.2 q hq)⟩
theorem z_nfw {A : Array Value} {U : State} (h : z_env U) (i : Nat) {o r f d hst : String} {n : Nat} (hi : z_nf[i]? = some (o, n, r, f, d, hst)) : (Cond.fieldLinkNest o n r f d hst).before A U = true := va_Nw.use rfl (h.1 _ (List.mem_of_getElem? hi))
theorem z_nmw {U : State} (h : z_env U) (i : Nat) {o hst : String} {n : Nat} {y : MethodName} (hi : z_nm[i]? = some (o, n, y, hst)) : va_Nw (.methodLinkNest o n y hst) U := h.2 _ (List.mem_of_getElem? hi)
/-- the launch: classes, array classes, links between nest mates -/
def z_cx (G : z_GT) (U : State) : Prop := va_K (z_DD G) vwCl (z_ty G) U ∧ z_env U
theorem z_cx.warm {G : z_GT} {s U : State} (hW : s.WarmedH U.vm) (h : z_cx G s) : z_cx G U := ⟨va_K.moved hW.alike h.1, h.2.warm hW⟩
theorem z_cx.same {G : z_GT} {u U : State} (e : u.vm = U.vm) (h : z_cx G u) : z_cx G U := ⟨va_K.moved (by rw [e]; exact Vm.Alike.refl _) h.1, h.2.same e⟩
/-- a contract's start: the arguments, the launch, the cells -/
def z_Pr (G : z_GT) (av : List Value) (ws : va_W) : Array Value → State → Prop := fun v U => v = av.toArray ∧ z_cx G U ∧ va_P (z_DD G) vwCl ws U.heap
theorem z_Pr.blind {G : z_GT} {av : List Value} {ws : va_W} : FrameBlind (z_Pr G av ws) := fun a U g mk h => ⟨h.1, h.2.1.same rfl, h.2.2⟩
theorem z_prS {G : z_GT} {As : List Value} {ws : va_W} {s : State} {H : Heap} (hX : z_cx G s) (hP : va_P (z_DD G) vwCl ws H) : PreS s H (z_Pr G As ws) As := ⟨z_Pr.blind, fun U hU hW => ⟨rfl, hX.warm hW, by rw [hU]; exact hP⟩⟩
theorem z_rec {G : z_GT} {ws : va_W} {s : State} {H : Heap} {b k ci : Nat} {fs : List Value} {q : vw_C} (hX : z_cx G s) (hP : va_P (z_DD G) vwCl ws H) (hc : vwCl[ci]? = some q) (he : ws[k]? = some (b, .inr (ci, fs))) : ∃ cell : Cell, H[b]? = some cell ∧ cell.vm.isStatics = false ∧ s.vm.findClass q.1 = some cell.cls := va_recv hX.1 hP hc he
theorem z_prV {G : z_GT} {As : List Value} {ws : va_W} {s : State} {H : Heap} {b k ci : Nat} {fs : List Value} {q : vw_C} (hX : z_cx G s) (hP : va_P (z_DD G) vwCl ws H) (hc : vwCl[ci]? = some q) (he : ws[k]? = some (b, .inr (ci, fs))) : PreV s H q.1 b (z_Pr G (.ref b :: As) ws) As := ⟨z_Pr.blind, va_recv hX.1 hP hc he, fun U hU hW => ⟨rfl, hX.warm hW, by rw [hU]; exact hP⟩⟩
theorem z_prW {G : z_GT} {As : List Value} {ws w1 : va_W} {s : State} {H : Heap} {b k ci : Nat} {fs : List Value} {q : vw_C} (hX : z_cx G s) (hP : va_P (z_DD G) vwCl ws H) (hP1 : va_P (z_DD G) vwCl w1 H) (hc : vwCl[ci]? = some q) (he : ws[k]? = some (b, .inr (ci, fs))) : PreV s H q.1 b (z_Pr G (.ref b :: As) w1) As := ⟨z_Pr.blind, va_recv hX.1 hP hc he, fun U hU hW => ⟨rfl, hX.warm hW, by rw [hU]; exact hP1⟩⟩
/-- a contract's end: it only read -/
def z_Qo (o : Option Value) : Array Value → State → Outcome → State → Prop := fun _ st oc t => oc = .returned o ∧ t.heap = st.heap
/-- a contract's end: the cells are so now; beyond A nothing changed -/
def z_Qm (G : z_GT) (o : Option Value) (ws : va_W) (A : Nat → Prop) : Array Value → State → Outcome → State → Prop := fun _ st oc t => oc = .returned o ∧ va_P (z_DD G) vwCl ws t.heap ∧ va_F A st t
section ZC
variable {p : Program} {l : Launch} {e : Env} {R : Room} {s : State} {m : MethodId} {args : Array Value} {below : List Frame} {meth : Method} {c : Code} {H : Heap} {locs : List Loc} {cells slots : Nat} {Q : State → Prop}
variable {pc : Nat} {ls : Array Slot} {rest st0 : List Value} {a : Array Value} {G : z_GT}
theorem z_call {o : Option Value} {free : Addr → Prop} (hr : va_Run p l e R s m args below meth c H locs cells slots 0 0 (F0 m pc ls st0) rest (z_Qo o a) free) (hf : ∀ q, ¬ free q)
    (kk : W p l e R s m args below meth c H locs cells slots Q (F0 m (pc + 3) ls (o.toList ++ rest))) : W p l e R s m args below meth c H locs cells slots Q (F0 m pc ls st0) := by
  intro T hT X
  obtain ⟨v, st₀, t, T', L, h0, X', hL, e1, -, ⟨hv, hh⟩, st⟩ := hr T hT X
  cases hv
  obtain ⟨t2, a1, b1⟩ := kk T' (by rw [e1, hh, h0]) (Stand.forget X' (fun q h => (hf _ (hL q h)).elim))
  exact ⟨t2, st t2 a1, b1⟩
theorem z_callm {o : Option Value} {ws1 : va_W} {A0 A1 : Nat → Prop} {H0 : Heap} {mc ms : Nat} {free : Addr → Prop} (hr : va_Run p l e R s m args below meth c H locs cells slots mc ms (F0 m pc ls st0) rest (z_Qm G o ws1 A1 a) free) (hS : va_S A0 H0 H locs) (hA : ∀ q, q < H.size → A1 q → A0 q) (hf : ∀ q, free q → A0 q)
    (kk : ∀ (H1 : Heap) (locs1 : List Loc), va_P (z_DD G) vwCl ws1 H1 → H.size ≤ H1.size → (∀ q : Nat, q < H.size → ¬ A1 q → H1[q]? = H[q]?) → va_S A0 H0 H1 locs1 → W p l e R s m args below meth c H1 locs1 (cells + mc) (slots + ms) Q (F0 m (pc + 3) ls (o.toList ++ rest))) : W p l e R s m args below meth c H locs cells slots Q (F0 m pc ls st0) := by
  intro T hT X
  obtain ⟨v, st₀, t, T', L, h0, X', hL, e1, e2, ⟨hv, hb, hz, hk⟩, st⟩ := hr T hT X
  cases hv
  rw [h0] at hz hk
  obtain ⟨t2, a1, b1⟩ := kk T'.heap (locs ++ L) (by rw [e1]; exact hb) (by rw [e1]; exact hz) (fun q h1 h2 => by rw [e1]; exact hk q h1 h2)
    ⟨Nat.le_trans hS.1 (by rw [e1]; exact hz), fun q h1 h2 => by rw [e1, hk q (Nat.lt_of_lt_of_le h1 hS.1) (fun z => h2 (hA q (Nat.lt_of_lt_of_le h1 hS.1) z))]; exact hS.2.1 q h1 h2, fun q hq => by
      rcases List.mem_append.mp hq with h | h
      · exact hS.2.2 q h
      · exact hf _ (hL q h)⟩ T' rfl X'
  exact ⟨t2, st t2 a1, b1⟩
theorem z_iret {cc : ByteArray} {Qc : Array Value → State → Outcome → State → Prop} {free : Addr → Prop} {v r : Int32} (hexec : p.tables.exec = Jvm.exec) (hb : c.code = cc) (hr : meth.sig.returnType = some .int) (hlocks : meth.locks = false) (hdg : decode cc pc = .ok (.ireturn, 1)) (hq : ∀ t : State, t.heap = H → s.WarmedH t.vm → Qc args s (.returned (some (.int r))) t) (hf : ∀ q ∈ locs, free q.base) (hv : v = r) : W p l e R s m args below meth c H locs cells slots (MQ below Qc args s cells slots free) (F0 m pc ls [.int v]) := by
  subst hv
  exact W.iret hexec hb hr hq hf hdg hlocks
theorem z_zret {cc : ByteArray} {Qc : Array Value → State → Outcome → State → Prop} {free : Addr → Prop} {v r : Int32} (hexec : p.tables.exec = Jvm.exec) (hb : c.code = cc) (hr : meth.sig.returnType = some .boolean) (hlocks : meth.locks = false) (hdg : decode cc pc = .ok (.ireturn, 1)) (hq : ∀ t : State, t.heap = H → s.WarmedH t.vm → Qc args s (.returned (some (.int r))) t) (hf : ∀ q ∈ locs, free q.base) (h01 : v = 0 ∨ v = 1) (hv : v = r) : W p l e R s m args below meth c H locs cells slots (MQ below Qc args s cells slots free) (F0 m pc ls [.int v]) := by
  subst hv
  exact W.zret hexec hb hr (by rcases h01 with h | h <;> rw [h] <;> rfl) hq hf hdg hlocks
theorem z_lret {cc : ByteArray} {Qc : Array Value → State → Outcome → State → Prop} {free : Addr → Prop} {v r : Int64} (hexec : p.tables.exec = Jvm.exec) (hb : c.code = cc) (hr : meth.sig.returnType = some .long) (hlocks : meth.locks = false) (hdg : decode cc pc = .ok (.lreturn, 1)) (hq : ∀ t : State, t.heap = H → s.WarmedH t.vm → Qc args s (.returned (some (.long r))) t) (hf : ∀ q ∈ locs, free q.base) (hv : v = r) : W p l e R s m args below meth c H locs cells slots (MQ below Qc args s cells slots free) (F0 m pc ls [.long v]) := by
  subst hv
  exact W.lret hexec hb hr hq hf hdg hlocks
theorem z_aldW {cc : ByteArray} {D : va_G} {cl : List vw_C} {ws : va_W} {tys : List (ClassId × FieldType)} {x : Nat} (hexec : p.tables.exec = Jvm.exec) (hb : c.code = cc) (hK : va_K D cl tys s) (hP : va_P D cl ws H) (q0 t0 : Nat) {cA : ClassId} {ty : FieldType} {n : Nat} {f : Nat → Option Nat} (ha : ws[q0]? = some (x, .inl (cA, n, .inr (.inr (.inr (.inr f)))))) (ht : tys[t0]? = some (cA, .array ty)) {i : Int32} (hin : vp_in i n) (hdg : decode cc pc = .ok (.aaload, 1))
    (kk : W p l e R s m args below meth c H locs cells slots Q (F0 m (pc + 1) ls (va_rf (f i.toNatClampNeg) :: rest))) : W p l e R s m args below meth c H locs cells slots Q (F0 m pc ls (.int i :: .ref x :: rest)) := by
  have hlt : i.toNatClampNeg < n := Nat.not_le.mp fun q => hin (Or.inr q)
  exact W.aald (v := va_rf (f i.toNatClampNeg)) (ty := .array ty) hexec hb (hP q0 _ ha) ((hK.2 t0 _ ht).1 n (fun j => va_rf (f j))) rfl (fun q => by cases q) (by show ¬ (i < 0 ∨ (arrV _ _ _).slots.size ≤ _); rw [arrV_size]; exact hin) (by show (arrV _ _ _).slots[_]? = _; rw [arrV_read _ _ hlt]) rfl rfl hdg kk
/-- the same top of the stack by another name -/
theorem z_top {v w : Value} (h : v = w) (k : W p l e R s m args below meth c H locs cells slots Q (F0 m pc ls (w :: rest))) : W p l e R s m args below meth c H locs cells slots Q (F0 m pc ls (v :: rest)) := by
  subst h
  exact k
end ZC
end
section
/-! Part 02c: rows with a Nat index, loops' comparisons. -/
theorem z_inc (i : Nat) : nI i + Int32.ofInt 1 = nI (i + 1) := nI_1 i
theorem z_ge {a b : Nat} (ha : a < 2 ^ 31) (hb : b < 2 ^ 31) (h : nI b ≤ nI a) : b ≤ a := (nI_leI hb ha).mp h
theorem z_ng {a b : Nat} (ha : a < 2 ^ 31) (hb : b < 2 ^ 31) (h : ¬ nI b ≤ nI a) : a < b := by
  rcases Nat.lt_or_ge a b with q | q
  · exact q
  · exact absurd ((nI_leI hb ha).mpr q) h
theorem z_P0 {D : va_G} {cl : List vw_C} {H : Heap} : va_P D cl [] H := fun k q h => by simp at h
theorem z_N {b N : Nat} (h : b < N) (hN : N ≤ 1000) : b < 2 ^ 31 := by omega
section ZI
variable {p : Program} {l : Launch} {e : Env} {R : Room} {s : State} {m : MethodId} {args : Array Value} {below : List Frame} {meth : Method} {c : Code} {H : Heap} {locs : List Loc} {cells slots : Nat} {Q : State → Prop}
variable {pc : Nat} {ls : Array Slot} {rest : List Value} {D : va_G} {cl : List vw_C} {ws : va_W} {tys : List (ClassId × FieldType)} {cc : ByteArray} {x : Nat}
theorem z_iald (hexec : p.tables.exec = Jvm.exec) (hb : c.code = cc) (hK : va_K D cl tys s) (hP : va_P D cl ws H) (q0 t0 : Nat) {cA : ClassId} {n k : Nat} {f : Nat → Int32} (ha : ws[q0]? = some (x, .inl (cA, n, .inl f))) (ht : tys[t0]? = some (cA, .int)) (hk : k < n) (hn : n ≤ 1000) (hdg : decode cc pc = .ok (.iaload, 1))
    (kk : W p l e R s m args below meth c H locs cells slots Q (F0 m (pc + 1) ls (.int (f k) :: rest))) : W p l e R s m args below meth c H locs cells slots Q (F0 m pc ls (.int (nI k) :: .ref x :: rest)) := by
  have h : (nI k).toNatClampNeg = k := nI_clamp (by omega)
  exact va_iald hexec hb hK hP q0 t0 ha ht (vp_in_nI hk (by omega)) hdg (by rw [h]; exact kk)
theorem z_aald (hexec : p.tables.exec = Jvm.exec) (hb : c.code = cc) (hK : va_K D cl tys s) (hP : va_P D cl ws H) (q0 t0 : Nat) {cA : ClassId} {n k : Nat} {C : String} {g : Nat → Nat} (ha : ws[q0]? = some (x, .inl (cA, n, .inr (.inr (.inr (.inr (fun j => some (g j)))))))) (ht : tys[t0]? = some (cA, .object C)) (hk : k < n) (hn : n ≤ 1000) (hdg : decode cc pc = .ok (.aaload, 1))
    (kk : W p l e R s m args below meth c H locs cells slots Q (F0 m (pc + 1) ls (.ref (g k) :: rest))) : W p l e R s m args below meth c H locs cells slots Q (F0 m pc ls (.int (nI k) :: .ref x :: rest)) := by
  have h : (nI k).toNatClampNeg = k := nI_clamp (by omega)
  exact va_aldq hexec hb hK hP q0 t0 ha ht (vp_in_nI hk (by omega)) hdg (by rw [h]; exact kk)
theorem z_aalA (hexec : p.tables.exec = Jvm.exec) (hb : c.code = cc) (hK : va_K D cl tys s) (hP : va_P D cl ws H) (q0 t0 : Nat) {cA : ClassId} {n k : Nat} {ty : FieldType} {g : Nat → Nat} (ha : ws[q0]? = some (x, .inl (cA, n, .inr (.inr (.inr (.inr (fun j => some (g j)))))))) (ht : tys[t0]? = some (cA, .array ty)) (hk : k < n) (hn : n ≤ 1000) (hdg : decode cc pc = .ok (.aaload, 1))
    (kk : W p l e R s m args below meth c H locs cells slots Q (F0 m (pc + 1) ls (.ref (g k) :: rest))) : W p l e R s m args below meth c H locs cells slots Q (F0 m pc ls (.int (nI k) :: .ref x :: rest)) := by
  have h : (nI k).toNatClampNeg = k := nI_clamp (by omega)
  exact z_aldW hexec hb hK hP q0 t0 ha ht (vp_in_nI hk (by omega)) hdg (by rw [h]; exact kk)
end ZI
end
section
/-! Part 03: what the methods answer, in numbers alone (leaves). -/
def z_bi (b : Bool) : Int32 := if b = true then 1 else 0
theorem z_bi01 (b : Bool) : z_bi b = 0 ∨ z_bi b = 1 := by cases b <;> simp [z_bi]
theorem z_bi_t {b : Bool} (h : ¬ z_bi b = 0) : b = true := by cases b <;> simp_all [z_bi]
theorem z_bi_f {b : Bool} (h : z_bi b = 0) : b = false := by cases b <;> simp_all [z_bi]
def z_wi (n a b : Int32) : Int32 := if n < a then 0 else if b < n then 0 else 1
theorem z_wi01 (n a b : Int32) : z_wi n a b = 0 ∨ z_wi n a b = 1 := by
  unfold z_wi
  split
  · exact Or.inl rfl
  · split
    · exact Or.inl rfl
    · exact Or.inr rfl
theorem z_pl {a : Nat} (h : a < 8) : z_wi (nI a) 0 7 = 1 := by
  rcases (show a = 0 ∨ a = 1 ∨ a = 2 ∨ a = 3 ∨ a = 4 ∨ a = 5 ∨ a = 6 ∨ a = 7 by omega) with rfl | rfl | rfl | rfl | rfl | rfl | rfl | rfl <;> decide
theorem z_nz {x : Int32} (h : 0 < x) : ¬ x = 0 := fun e => by rw [e] at h; exact absurd h (by decide)
/-- the bloom on day d of a valley that blooms from f on, for n days -/
def z_bl (f n d : Int32) : Int32 := if d < f then 0 else if f + n - 1 < d then 0 else if 0 < (n + 1) / 2 then 100 * (if f + n - 1 - d + 1 < d - f + 1 then f + n - 1 - d + 1 else d - f + 1) / ((n + 1) / 2) else 0
/-- is v among the first n of t -/
def z_vi (t : Nat → Nat) (v : Nat) : Nat → Bool
  | 0 => false
  | n + 1 => z_vi t v n || (t n == v)
theorem z_vi_f {t : Nat → Nat} {v i : Nat} (h : z_vi t v i = false) (h2 : ¬ t i = v) : z_vi t v (i + 1) = false := by simp [z_vi, h, h2]
theorem z_vi_t {t : Nat → Nat} {v i n : Nat} (h : i < n) (h2 : t i = v) : z_vi t v n = true := by
  induction n with
  | zero => omega
  | succ n ih =>
    by_cases e : i = n
    · subst e
      simp [z_vi, h2]
    · simp [z_vi, ih (by omega)]
/-- can a tour with c valleys and mn minutes go -/
def z_gc (c : Nat) (mn : Int32) : Int32 := if nI c ≤ 0 then 0 else if z_wi mn 0 480 = 0 then 0 else 1
theorem z_gc01 (c : Nat) (mn : Int32) : z_gc c mn = 0 ∨ z_gc c mn = 1 := by
  unfold z_gc
  split
  · exact Or.inl rfl
  · split
    · exact Or.inl rfl
    · exact Or.inr rfl
def z_mb (w : Int32) : Int32 := if w < 1000000 then w else -1
def z_full (c : Nat) : Int32 := if nI c < 5 then 0 else 1
theorem z_full01 (c : Nat) : z_full c = 0 ∨ z_full c = 1 := by
  unfold z_full
  split
  · exact Or.inl rfl
  · exact Or.inr rfl
/-- minutes behind k steps of a list -/
def z_mt (W : Nat → Nat → Int32) (t : Nat → Nat) (s0 : Int32) : Nat → Int32
  | 0 => s0
  | k + 1 => z_mt W t s0 k + W (t k) (t (k + 1))
/-- a step that cannot be gone -/
def z_mf (W : Nat → Nat → Int32) (t : Nat → Nat) : Nat → Bool
  | 0 => false
  | k + 1 => z_mf W t k || !(decide (0 ≤ W (t k) (t (k + 1))))
theorem z_mf_t {W : Nat → Nat → Int32} {t : Nat → Nat} {k n : Nat} (h : k < n) (h2 : ¬ 0 ≤ W (t k) (t (k + 1))) : z_mf W t n = true := by
  induction n with
  | zero => omega
  | succ n ih =>
    by_cases e : k = n
    · subst e
      simp [z_mf, h2]
    · simp [z_mf, ih (by omega)]
def z_mn (W : Nat → Nat → Int32) (t : Nat → Nat) (n : Nat) : Int32 := if z_mf W t (n - 1) = true then -1 else z_mt W t (50 * nI n) (n - 1)
end
section
/-! Part 04a: the class's leaves. -/
set_option maxHeartbeats 4000000 in
set_option maxRecDepth 100000 in
theorem c_X4_isWithin (l : Launch) (G : z_GT) (n a b : Int32) : Met l yX4_isWithin wsX4_isWithin ({ frames := 0, cells := 0, slots := 0, locals := 0 } : Room) (z_Pr G [.int n, .int a, .int b] []) (z_Qo (some (.int (z_wi n a b)))) 0 0 (fun _ => False) := by
  refine Met.ofW (cc := cX4_isWithin) (maxL := 3) (ret := (some .boolean)) (by decide) rfl ?_
  intro p e s m args below meth c s₁ B hml hw0
  obtain ⟨rfl, hX, hP⟩ := hw0
  have hK := hX.1
  have hx := B.exec
  have hb := B.bytes
  have hr := B.returns
  have hts := atoms_spec (ws := wsX4_isWithin) B.pre
  have hown : s.vm.findClass RX4 = some m.cls := findClass_of_methodNamed B.named
  have hlocks := B.notSynchronized
  have hl := lv_entry ([.int n, .int a, .int b]) (n := 3) (Nat.le_of_ble_eq_true rfl)
  rw [lg_entry_eq]
  generalize (lg_sl ([.int n, .int a, .int b]) ++ List.replicate (3 - (lg_sl ([.int n, .int a, .int b])).length) Slot.unset).toArray = ls at hl ⊢
  have hl : lv_has ls 3 [(0, .int n), (1, .int a), (2, .int b)] := hl
  refine lv_iload_n hx hb dX4_isWithin_0 rfl (lv_at hl 0 rfl) ?_
  refine lv_iload_n hx hb dX4_isWithin_1 rfl (lv_at hl 1 rfl) ?_
  refine lv_icmp_lt (tgt := 14) hx hb dX4_isWithin_2 (by decide) (fun c2 => ?_) (fun c2 => ?_)
  · skip
    refine lv_iconst (v := 0) hx hb dX4_isWithin_14 (by decide) ?_
    refine z_zret hx hb hr hlocks dX4_isWithin_15 (fun t ht hW => ⟨rfl, ht⟩) (fun _ h9 => nomatch h9) ?_ ?_
    · first | exact Or.inl rfl | exact Or.inr rfl | (split <;> simp)
    · simp [z_wi, *]
  · skip
    refine lv_iload_n hx hb dX4_isWithin_5 rfl (lv_at hl 0 rfl) ?_
    refine lv_iload_n hx hb dX4_isWithin_6 rfl (lv_at hl 2 rfl) ?_
    refine lv_icmp_gt (tgt := 14) hx hb dX4_isWithin_7 (by decide) (fun c7 => ?_) (fun c7 => ?_)
    · skip
      refine lv_iconst (v := 0) hx hb dX4_isWithin_14 (by decide) ?_
      refine z_zret hx hb hr hlocks dX4_isWithin_15 (fun t ht hW => ⟨rfl, ht⟩) (fun _ h9 => nomatch h9) ?_ ?_
      · first | exact Or.inl rfl | exact Or.inr rfl | (split <;> simp)
      · simp [z_wi, *]
    · skip
      refine lv_iconst (v := 1) hx hb dX4_isWithin_10 (by decide) ?_
      refine lv_goto (tgt := 15) hx hb dX4_isWithin_11 (by decide) ?_
      refine z_zret hx hb hr hlocks dX4_isWithin_15 (fun t ht hW => ⟨rfl, ht⟩) (fun _ h9 => nomatch h9) ?_ ?_
      · first | exact Or.inl rfl | exact Or.inr rfl | (split <;> simp)
      · simp [z_wi, *]

set_option maxHeartbeats 4000000 in
set_option maxRecDepth 100000 in
theorem c_X1_isPlace (l : Launch) (G : z_GT) (n : Int32) : Met l yX1_isPlace wsX1_isPlace ({ frames := 1, cells := 0, slots := 0, locals := 22 } : Room) (z_Pr G [.int n] []) (z_Qo (some (.int (z_wi n 0 7)))) 0 0 (fun _ => False) := by
  refine Met.ofW (cc := cX1_isPlace) (maxL := 1) (ret := (some .boolean)) (by decide) rfl ?_
  intro p e s m args below meth c s₁ B hml hw0
  obtain ⟨rfl, hX, hP⟩ := hw0
  have hK := hX.1
  have hx := B.exec
  have hb := B.bytes
  have hr := B.returns
  have hts := atoms_spec (ws := wsX1_isPlace) B.pre
  have hown : s.vm.findClass RX1 = some m.cls := findClass_of_methodNamed B.named
  have hlocks := B.notSynchronized
  have hl := lv_entry ([.int n]) (n := 1) (Nat.le_of_ble_eq_true rfl)
  rw [lg_entry_eq]
  generalize (lg_sl ([.int n]) ++ List.replicate (1 - (lg_sl ([.int n])).length) Slot.unset).toArray = ls at hl ⊢
  have hl : lv_has ls 1 [(0, .int n)] := hl
  refine lv_iload_n hx hb dX1_isPlace_0 rfl (lv_at hl 0 rfl) ?_
  refine lv_iconst (v := 0) hx hb dX1_isPlace_1 (by decide) ?_
  refine lv_bipush (v := 7) hx hb dX1_isPlace_2 (by decide) ?_
  refine z_call (va_runSN (As := [.int n, .int 0, .int 7]) (rest := []) ⟨hx, hb, hml, hown, hts⟩ (c_X4_isWithin l G n 0 7) ⟨va_cnB 3 hts gX1_isPlace_X4_isWithin_n31 rfl rfl rfl (z_nmw hX.2 8 rfl) (hts (.initialized RX4) (by decide +kernel)) (by decide +kernel) ⟨Nat.le_of_ble_eq_true rfl, Nat.le_of_ble_eq_true rfl⟩, hts (.static yX4_isWithin) (by decide +kernel), trivial⟩ (z_prS hX z_P0) rfl rfl hl.1 rfl (lv_room (Nat.le_of_ble_eq_true rfl)) dX1_isPlace_4 ⟨Nat.le_of_ble_eq_true rfl, Nat.le_of_ble_eq_true rfl⟩) (fun _ h9 => h9) ?_
  refine W.eq (g2 := F0 m 7 ls [.int (z_wi n 0 7)]) rfl ?_
  refine z_zret hx hb hr hlocks dX1_isPlace_7 (fun t ht hW => ⟨rfl, ht⟩) (fun _ h9 => nomatch h9) ?_ ?_
  · exact z_wi01 _ _ _
  · rfl

set_option maxHeartbeats 4000000 in
set_option maxRecDepth 100000 in
theorem c_X4_mixed (l : Launch) (G : z_GT) (d x : Int64) : Met l yX4_mixed wsX4_mixed ({ frames := 0, cells := 0, slots := 0, locals := 0 } : Room) (z_Pr G [.long d, .long x] []) (z_Qo (some (.long (d * 31 + x)))) 0 0 (fun _ => False) := by
  refine Met.ofW (cc := cX4_mixed) (maxL := 4) (ret := (some .long)) (by decide) rfl ?_
  intro p e s m args below meth c s₁ B hml hw0
  obtain ⟨rfl, hX, hP⟩ := hw0
  have hK := hX.1
  have hx := B.exec
  have hb := B.bytes
  have hr := B.returns
  have hts := atoms_spec (ws := wsX4_mixed) B.pre
  have hown : s.vm.findClass RX4 = some m.cls := findClass_of_methodNamed B.named
  have hlocks := B.notSynchronized
  have hl := lv_entry ([.long d, .long x]) (n := 4) (Nat.le_of_ble_eq_true rfl)
  rw [lg_entry_eq]
  generalize (lg_sl ([.long d, .long x]) ++ List.replicate (4 - (lg_sl ([.long d, .long x])).length) Slot.unset).toArray = ls at hl ⊢
  have hl : lv_has ls 4 [(0, .long d), (2, .long x)] := hl
  refine lv_lload_n hx hb dX4_mixed_0 rfl (lv_at hl 0 rfl) ?_
  refine lv_ldc2 (v := 31) hx hb hown (hts (.constantLong RX4 234 (31)) (by decide +kernel)) dX4_mixed_1 ?_
  refine lv_lmul hx hb dX4_mixed_4 ?_
  refine lv_lload_n hx hb dX4_mixed_5 rfl (lv_at hl 1 rfl) ?_
  refine lv_ladd hx hb dX4_mixed_6 ?_
  refine z_lret hx hb hr hlocks dX4_mixed_7 (fun t ht hW => ⟨rfl, ht⟩) (fun _ h9 => nomatch h9) ?_
  rfl

set_option maxHeartbeats 4000000 in
set_option maxRecDepth 100000 in
theorem c_X3_bloomOn (l : Launch) (G : z_GT) (ad : Nat → Nat) (σ : Nat → Nat → Int32) (κ : Nat → Nat → Nat) (v : Nat) (d : Int32) (hv : v < 8) : Met l yX3_bloomOn wsX3_bloomOn ({ frames := 1, cells := 0, slots := 0, locals := 21 } : Room) (z_Pr G [.ref (ad (8 + v)), .int d] (z_wC G ad σ κ)) (z_Qo (some (.int (z_bl (σ 0 v) (σ 1 v) d)))) 0 0 (fun _ => False) := by
  refine Met.ofW (cc := cX3_bloomOn) (maxL := 5) (ret := (some .int)) (by decide) rfl ?_
  intro p e s m args below meth c s₁ B hml hw0
  obtain ⟨rfl, hX, hP⟩ := hw0
  have hK := hX.1
  have hx := B.exec
  have hb := B.bytes
  have hr := B.returns
  have hts := atoms_spec (ws := wsX3_bloomOn) B.pre
  have hown : s.vm.findClass RX3 = some m.cls := findClass_of_methodNamed B.named
  have hlocks := B.notSynchronized
  have hl := lv_entry ([.ref (ad (8 + v)), .int d]) (n := 5) (Nat.le_of_ble_eq_true rfl)
  rw [lg_entry_eq]
  generalize (lg_sl ([.ref (ad (8 + v)), .int d]) ++ List.replicate (5 - (lg_sl ([.ref (ad (8 + v)), .int d])).length) Slot.unset).toArray = ls at hl ⊢
  have hl : lv_has ls 5 [(0, .ref (ad (8 + v))), (1, .int d)] := hl
  have hf_RX3_13 : (Cond.fieldLink RX3 13 "BlossomTours$Valley" "length" "I").before ([.ref (ad (8 + v)), .int d] : List Value).toArray s = true := hts _ (by decide +kernel)
  have hf_RX3_7 : (Cond.fieldLink RX3 7 "BlossomTours$Valley" "from" "I").before ([.ref (ad (8 + v)), .int d] : List Value).toArray s = true := hts _ (by decide +kernel)
  have hi_RX3 : ∀ w ∈ u_ws RX3 TX3 5, w ∈ wsX3_bloomOn := by decide +kernel
  refine lv_aload_n hx hb dX3_bloomOn_0 rfl (lv_at hl 0 rfl) ?_
  refine va_get (D := z_DD G) (ci := 3) (v := .int (σ 0 v)) (C := RX3) (T := TX3) (N := 5) hx hb hts hi_RX3 hown hK hP (8 + v) (z_gV hv) rfl 0 (by decide) hf_RX3_7 (fun _ h9 => h9) rfl dX3_bloomOn_1 ?_
  refine lv_aload_n hx hb dX3_bloomOn_4 rfl (lv_at hl 0 rfl) ?_
  refine va_get (D := z_DD G) (ci := 3) (v := .int (σ 1 v)) (C := RX3) (T := TX3) (N := 5) hx hb hts hi_RX3 hown hK hP (8 + v) (z_gV hv) rfl 1 (by decide) hf_RX3_13 (fun _ h9 => h9) rfl dX3_bloomOn_5 ?_
  refine lv_iadd hx hb dX3_bloomOn_8 ?_
  refine lv_iconst (v := 1) hx hb dX3_bloomOn_9 (by decide) ?_
  refine lv_isub hx hb dX3_bloomOn_10 ?_
  refine lv_istore_n (lv' := [(2, .int (((σ 0 v) + (σ 1 v)) - 1)), (0, .ref (ad (8 + v))), (1, .int d)]) hx hb dX3_bloomOn_11 rfl hl (by decide) rfl (fun ls hl => ?_)
  refine lv_aload_n hx hb dX3_bloomOn_12 rfl (lv_at hl 1 rfl) ?_
  refine va_get (D := z_DD G) (ci := 3) (v := .int (σ 1 v)) (C := RX3) (T := TX3) (N := 5) hx hb hts hi_RX3 hown hK hP (8 + v) (z_gV hv) rfl 1 (by decide) hf_RX3_13 (fun _ h9 => h9) rfl dX3_bloomOn_13 ?_
  refine lv_iconst (v := 1) hx hb dX3_bloomOn_16 (by decide) ?_
  refine lv_iadd hx hb dX3_bloomOn_17 ?_
  refine lv_iconst (v := 2) hx hb dX3_bloomOn_18 (by decide) ?_
  refine lv_idiv hx hb dX3_bloomOn_19 (by decide) ?_
  refine lv_istore_n (lv' := [(3, .int (((σ 1 v) + 1) / 2)), (2, .int (((σ 0 v) + (σ 1 v)) - 1)), (0, .ref (ad (8 + v))), (1, .int d)]) hx hb dX3_bloomOn_20 rfl hl (by decide) rfl (fun ls hl => ?_)
  refine lv_iload_n hx hb dX3_bloomOn_21 rfl (lv_at hl 3 rfl) ?_
  refine lv_aload_n hx hb dX3_bloomOn_22 rfl (lv_at hl 2 rfl) ?_
  refine va_get (D := z_DD G) (ci := 3) (v := .int (σ 0 v)) (C := RX3) (T := TX3) (N := 5) hx hb hts hi_RX3 hown hK hP (8 + v) (z_gV hv) rfl 0 (by decide) hf_RX3_7 (fun _ h9 => h9) rfl dX3_bloomOn_23 ?_
  refine lv_icmp_lt (tgt := 38) hx hb dX3_bloomOn_26 (by decide) (fun c26 => ?_) (fun c26 => ?_)
  · skip
    refine lv_iconst (v := 0) hx hb dX3_bloomOn_38 (by decide) ?_
    refine z_iret hx hb hr hlocks dX3_bloomOn_39 (fun t ht hW => ⟨rfl, ht⟩) (fun _ h9 => nomatch h9) ?_
    simp [z_bl, *]
  · skip
    refine lv_iload_n hx hb dX3_bloomOn_29 rfl (lv_at hl 3 rfl) ?_
    refine lv_iload_n hx hb dX3_bloomOn_30 rfl (lv_at hl 1 rfl) ?_
    refine lv_icmp_gt (tgt := 38) hx hb dX3_bloomOn_31 (by decide) (fun c31 => ?_) (fun c31 => ?_)
    · skip
      refine lv_iconst (v := 0) hx hb dX3_bloomOn_38 (by decide) ?_
      refine z_iret hx hb hr hlocks dX3_bloomOn_39 (fun t ht hW => ⟨rfl, ht⟩) (fun _ h9 => nomatch h9) ?_
      simp [z_bl, *]
    · skip
      refine lv_iload_n hx hb dX3_bloomOn_34 rfl (lv_at hl 0 rfl) ?_
      refine lv_if_gt (tgt := 40) hx hb dX3_bloomOn_35 (by decide) (fun c35 => ?_) (fun c35 => ?_)
      · skip
        refine lv_iload_n hx hb dX3_bloomOn_40 rfl (lv_at hl 3 rfl) ?_
        refine lv_aload_n hx hb dX3_bloomOn_41 rfl (lv_at hl 2 rfl) ?_
        refine va_get (D := z_DD G) (ci := 3) (v := .int (σ 0 v)) (C := RX3) (T := TX3) (N := 5) hx hb hts hi_RX3 hown hK hP (8 + v) (z_gV hv) rfl 0 (by decide) hf_RX3_7 (fun _ h9 => h9) rfl dX3_bloomOn_42 ?_
        refine lv_isub hx hb dX3_bloomOn_45 ?_
        refine lv_iconst (v := 1) hx hb dX3_bloomOn_46 (by decide) ?_
        refine lv_iadd hx hb dX3_bloomOn_47 ?_
        refine lv_iload_n hx hb dX3_bloomOn_48 rfl (lv_at hl 1 rfl) ?_
        refine lv_iload_n hx hb dX3_bloomOn_49 rfl (lv_at hl 3 rfl) ?_
        refine lv_isub hx hb dX3_bloomOn_50 ?_
        refine lv_iconst (v := 1) hx hb dX3_bloomOn_51 (by decide) ?_
        refine lv_iadd hx hb dX3_bloomOn_52 ?_
        refine va_mmin hx hb (hml.trans hl.1.symm) hown (hts (.methodLink RX3 16 Lib.Math.min.name) (by decide +kernel)) (hts (.static Lib.Math.min.name) (by decide +kernel)) (hts (.initialized "java/lang/Math") (by decide +kernel)) (hts (.code Lib.Math.min.name Lib.Math.min.code 2 (some .int)) (by decide +kernel)) (Nat.le_of_ble_eq_true rfl) (Nat.le_of_ble_eq_true rfl) (Nat.le_of_ble_eq_true rfl) (Nat.le_of_ble_eq_true rfl) dX3_bloomOn_53 ?_
        refine lv_istore (lv' := [(4, .int (if ((((σ 0 v) + (σ 1 v)) - 1) - d) + 1 < (d - (σ 0 v)) + 1 then ((((σ 0 v) + (σ 1 v)) - 1) - d) + 1 else (d - (σ 0 v)) + 1)), (3, .int (((σ 1 v) + 1) / 2)), (2, .int (((σ 0 v) + (σ 1 v)) - 1)), (0, .ref (ad (8 + v))), (1, .int d)]) hx hb dX3_bloomOn_56 hl (by decide) rfl (fun ls hl => ?_)
        refine lv_bipush (v := 100) hx hb dX3_bloomOn_58 (by decide) ?_
        refine lv_iload hx hb dX3_bloomOn_60 (lv_at hl 0 rfl) ?_
        refine lv_imul hx hb dX3_bloomOn_62 ?_
        refine lv_iload_n hx hb dX3_bloomOn_63 rfl (lv_at hl 1 rfl) ?_
        refine lv_idiv hx hb dX3_bloomOn_64 (z_nz c35) ?_
        refine z_iret hx hb hr hlocks dX3_bloomOn_65 (fun t ht hW => ⟨rfl, ht⟩) (fun _ h9 => nomatch h9) ?_
        simp [z_bl, *]
      · skip
        refine lv_iconst (v := 0) hx hb dX3_bloomOn_38 (by decide) ?_
        refine z_iret hx hb hr hlocks dX3_bloomOn_39 (fun t ht hW => ⟨rfl, ht⟩) (fun _ h9 => nomatch h9) ?_
        simp [z_bl, *]

set_option maxHeartbeats 4000000 in
set_option maxRecDepth 100000 in
theorem c_X2_isFull (l : Launch) (G : z_GT) (ad : Nat → Nat) (σ : Nat → Nat → Int32) (κ : Nat → Nat → Nat) (t : Nat) (ht : t < 6) : Met l yX2_isFull wsX2_isFull ({ frames := 0, cells := 0, slots := 0, locals := 0 } : Room) (z_Pr G [.ref (ad (16 + t))] (z_wC G ad σ κ)) (z_Qo (some (.int (z_full (κ 1 t))))) 0 0 (fun _ => False) := by
  refine Met.ofW (cc := cX2_isFull) (maxL := 1) (ret := (some .boolean)) (by decide) rfl ?_
  intro p e s m args below meth c s₁ B hml hw0
  obtain ⟨rfl, hX, hP⟩ := hw0
  have hK := hX.1
  have hx := B.exec
  have hb := B.bytes
  have hr := B.returns
  have hts := atoms_spec (ws := wsX2_isFull) B.pre
  have hown : s.vm.findClass RX2 = some m.cls := findClass_of_methodNamed B.named
  have hlocks := B.notSynchronized
  have hl := lv_entry ([.ref (ad (16 + t))]) (n := 1) (Nat.le_of_ble_eq_true rfl)
  rw [lg_entry_eq]
  generalize (lg_sl ([.ref (ad (16 + t))]) ++ List.replicate (1 - (lg_sl ([.ref (ad (16 + t))])).length) Slot.unset).toArray = ls at hl ⊢
  have hl : lv_has ls 1 [(0, .ref (ad (16 + t)))] := hl
  have hf_RX2_15 : (Cond.fieldLink RX2 15 "BlossomTours$Tour" "stopCount" "I").before ([.ref (ad (16 + t))] : List Value).toArray s = true := hts _ (by decide +kernel)
  have hf_RX2_9 : (Cond.fieldLink RX2 9 "BlossomTours$Tour" "stops" "[I").before ([.ref (ad (16 + t))] : List Value).toArray s = true := hts _ (by decide +kernel)
  have hi_RX2 : ∀ w ∈ u_ws RX2 TX2 4, w ∈ wsX2_isFull := by decide +kernel
  refine lv_aload_n hx hb dX2_isFull_0 rfl (lv_at hl 0 rfl) ?_
  refine va_get (D := z_DD G) (ci := 2) (v := .int (nI (κ 1 t))) (C := RX2) (T := TX2) (N := 4) hx hb hts hi_RX2 hown hK hP (16 + t) (z_gT ht) rfl 1 (by decide) hf_RX2_15 (fun _ h9 => h9) rfl dX2_isFull_1 ?_
  refine lv_aload_n hx hb dX2_isFull_4 rfl (lv_at hl 0 rfl) ?_
  refine va_get (D := z_DD G) (ci := 2) (v := .ref (ad (22 + t))) (C := RX2) (T := TX2) (N := 4) hx hb hts hi_RX2 hown hK hP (16 + t) (z_gT ht) rfl 0 (by decide) hf_RX2_9 (fun _ h9 => h9) rfl dX2_isFull_5 ?_
  refine va_alen (v := 5) hx hb hK hP (22 + t) 0 (z_gS ht) rfl rfl dX2_isFull_8 ?_
  refine lv_icmp_lt (tgt := 16) hx hb dX2_isFull_9 (by decide) (fun c9 => ?_) (fun c9 => ?_)
  · skip
    refine lv_iconst (v := 0) hx hb dX2_isFull_16 (by decide) ?_
    refine z_zret hx hb hr hlocks dX2_isFull_17 (fun t ht hW => ⟨rfl, ht⟩) (fun _ h9 => nomatch h9) ?_ ?_
    · first | exact Or.inl rfl | exact Or.inr rfl | (split <;> simp)
    · simp [z_full, *]
  · skip
    refine lv_iconst (v := 1) hx hb dX2_isFull_12 (by decide) ?_
    refine lv_goto (tgt := 17) hx hb dX2_isFull_13 (by decide) ?_
    refine z_zret hx hb hr hlocks dX2_isFull_17 (fun t ht hW => ⟨rfl, ht⟩) (fun _ h9 => nomatch h9) ?_ ?_
    · first | exact Or.inl rfl | exact Or.inr rfl | (split <;> simp)
    · simp [z_full, *]

set_option maxHeartbeats 4000000 in
set_option maxRecDepth 100000 in
theorem c_X2_visits (l : Launch) (G : z_GT) (ad : Nat → Nat) (σ : Nat → Nat → Int32) (κ : Nat → Nat → Nat) (t v : Nat) (ht : t < 6) (hv : v < 8) (hk : κ 1 t ≤ 5) (hs : ∀ j, j < κ 1 t → κ (2 + t) j < 8) : Met l yX2_visits wsX2_visits ({ frames := 0, cells := 0, slots := 0, locals := 0 } : Room) (z_Pr G [.ref (ad (16 + t)), .int (nI v)] (z_wC G ad σ κ)) (z_Qo (some (.int (z_bi (z_vi (κ (2 + t)) v (κ 1 t)))))) 0 0 (fun _ => False) := by
  refine Met.ofW (cc := cX2_visits) (maxL := 3) (ret := (some .boolean)) (by decide) rfl ?_
  intro p e s m args below meth c s₁ B hml hw0
  obtain ⟨rfl, hX, hP⟩ := hw0
  have hK := hX.1
  have hx := B.exec
  have hb := B.bytes
  have hr := B.returns
  have hts := atoms_spec (ws := wsX2_visits) B.pre
  have hown : s.vm.findClass RX2 = some m.cls := findClass_of_methodNamed B.named
  have hlocks := B.notSynchronized
  have hl := lv_entry ([.ref (ad (16 + t)), .int (nI v)]) (n := 3) (Nat.le_of_ble_eq_true rfl)
  rw [lg_entry_eq]
  generalize (lg_sl ([.ref (ad (16 + t)), .int (nI v)]) ++ List.replicate (3 - (lg_sl ([.ref (ad (16 + t)), .int (nI v)])).length) Slot.unset).toArray = ls at hl ⊢
  have hl : lv_has ls 3 [(0, .ref (ad (16 + t))), (1, .int (nI v))] := hl
  have hf_RX2_15 : (Cond.fieldLink RX2 15 "BlossomTours$Tour" "stopCount" "I").before ([.ref (ad (16 + t)), .int (nI v)] : List Value).toArray s = true := hts _ (by decide +kernel)
  have hf_RX2_9 : (Cond.fieldLink RX2 9 "BlossomTours$Tour" "stops" "[I").before ([.ref (ad (16 + t)), .int (nI v)] : List Value).toArray s = true := hts _ (by decide +kernel)
  have hi_RX2 : ∀ w ∈ u_ws RX2 TX2 4, w ∈ wsX2_visits := by decide +kernel
  refine lv_iconst (v := nI 0) hx hb dX2_visits_0 (by decide) ?_
  refine lv_istore_n (lv' := [(2, .int (nI 0)), (0, .ref (ad (16 + t))), (1, .int (nI v))]) hx hb dX2_visits_1 rfl hl (by decide) rfl (fun ls hl => ?_)
  have lp2 : ∀ (fu : Nat) (i : Nat), i ≤ κ 1 t → κ 1 t < i + fu → z_vi (κ (2 + t)) v i = false → ∀ (ls : Array Slot), lv_has ls 3 [(0, .ref (ad (16 + t))), (1, .int (nI v)), (2, .int (nI i))] → W p l e (headSpec wsX2_visits ({ frames := 0, cells := 0, slots := 0, locals := 0 } : Room)).room s m ([.ref (ad (16 + t)), .int (nI v)] : List Value).toArray below meth c s.heap [] 0 0 (MQ below (z_Qo (some (.int (z_bi (z_vi (κ (2 + t)) v (κ 1 t)))))) ([.ref (ad (16 + t)), .int (nI v)] : List Value).toArray s 0 0 (fun _ => False)) (F0 m 2 ls []) := by
    intro fu
    induction fu with
    | zero =>
      intro i h1 h2 h3
      exfalso; omega
    | succ fu ih =>
      intro i h1 h2 h3 ls hl
      refine lv_iload_n hx hb dX2_visits_2 rfl (lv_at hl 2 rfl) ?_
      refine lv_aload_n hx hb dX2_visits_3 rfl (lv_at hl 0 rfl) ?_
      refine va_get (D := z_DD G) (ci := 2) (v := .int (nI (κ 1 t))) (C := RX2) (T := TX2) (N := 4) hx hb hts hi_RX2 hown hK hP (16 + t) (z_gT ht) rfl 1 (by decide) hf_RX2_15 (fun _ h9 => h9) rfl dX2_visits_4 ?_
      refine lv_icmp_ge (tgt := 28) hx hb dX2_visits_7 (by decide) (fun c7 => ?_) (fun c7 => ?_)
      · skip
        have hi := z_ge (by omega) (by omega) c7
        have hi : i = κ 1 t := by omega
        subst hi
        refine lv_iconst (v := 0) hx hb dX2_visits_28 (by decide) ?_
        refine z_zret hx hb hr hlocks dX2_visits_29 (fun t ht hW => ⟨rfl, ht⟩) (fun _ h9 => nomatch h9) ?_ ?_
        · first | exact Or.inl rfl | exact Or.inr rfl | (split <;> simp)
        · rw [h3]; rfl
      · skip
        have hi := z_ng (by omega) (by omega) c7
        have hsi := hs i hi
        refine lv_aload_n hx hb dX2_visits_10 rfl (lv_at hl 0 rfl) ?_
        refine va_get (D := z_DD G) (ci := 2) (v := .ref (ad (22 + t))) (C := RX2) (T := TX2) (N := 4) hx hb hts hi_RX2 hown hK hP (16 + t) (z_gT ht) rfl 0 (by decide) hf_RX2_9 (fun _ h9 => h9) rfl dX2_visits_11 ?_
        refine lv_iload_n hx hb dX2_visits_14 rfl (lv_at hl 2 rfl) ?_
        refine z_iald (k := i) (f := fun j => nI (κ (2 + t) j)) hx hb hK hP (22 + t) 0 (z_gS ht) rfl (by omega) (by decide) dX2_visits_15 ?_
        refine lv_iload_n hx hb dX2_visits_16 rfl (lv_at hl 1 rfl) ?_
        refine lv_icmp_ne (tgt := 22) hx hb dX2_visits_17 (by decide) (fun c17 => ?_) (fun c17 => ?_)
        · skip
          refine lv_iinc (v := nI (i + 1)) (lv' := [(2, .int (nI (i + 1))), (0, .ref (ad (16 + t))), (1, .int (nI v))]) hx hb dX2_visits_22 hl (k := 2) rfl (z_inc _) (by decide) rfl (fun ls hl => ?_)
          refine lv_goto (tgt := 2) hx hb dX2_visits_25 (by decide) ?_
          -- back to 2
          exact ih (i + 1) (by omega) (by omega) (z_vi_f h3 (fun e => c17 (by rw [e]))) ls (lv_sub hl [1, 2, 0] rfl)
        · skip
          have hiv : κ (2 + t) i = v := (nI_eq (by omega) (by omega)).mp c17
          refine lv_iconst (v := 1) hx hb dX2_visits_20 (by decide) ?_
          refine z_zret hx hb hr hlocks dX2_visits_21 (fun t ht hW => ⟨rfl, ht⟩) (fun _ h9 => nomatch h9) ?_ ?_
          · first | exact Or.inl rfl | exact Or.inr rfl | (split <;> simp)
          · rw [z_vi_t hi hiv]; rfl
  exact lp2 (κ 1 t + 1) 0 (by omega) (by omega) rfl ls (lv_sub hl [1, 2, 0] rfl)

set_option maxHeartbeats 4000000 in
set_option maxRecDepth 100000 in
theorem c_X2_canGo (l : Launch) (G : z_GT) (ad : Nat → Nat) (σ : Nat → Nat → Int32) (κ : Nat → Nat → Nat) (t : Nat) (ht : t < 6) : Met l yX2_canGo wsX2_canGo ({ frames := 1, cells := 0, slots := 0, locals := 22 } : Room) (z_Pr G [.ref (ad (16 + t))] (z_wC G ad σ κ)) (z_Qo (some (.int (z_gc (κ 1 t) (σ 6 t))))) 0 0 (fun _ => False) := by
  refine Met.ofW (cc := cX2_canGo) (maxL := 1) (ret := (some .boolean)) (by decide) rfl ?_
  intro p e s m args below meth c s₁ B hml hw0
  obtain ⟨rfl, hX, hP⟩ := hw0
  have hK := hX.1
  have hx := B.exec
  have hb := B.bytes
  have hr := B.returns
  have hts := atoms_spec (ws := wsX2_canGo) B.pre
  have hown : s.vm.findClass RX2 = some m.cls := findClass_of_methodNamed B.named
  have hlocks := B.notSynchronized
  have hl := lv_entry ([.ref (ad (16 + t))]) (n := 1) (Nat.le_of_ble_eq_true rfl)
  rw [lg_entry_eq]
  generalize (lg_sl ([.ref (ad (16 + t))]) ++ List.replicate (1 - (lg_sl ([.ref (ad (16 + t))])).length) Slot.unset).toArray = ls at hl ⊢
  have hl : lv_has ls 1 [(0, .ref (ad (16 + t)))] := hl
  have hf_RX2_15 : (Cond.fieldLink RX2 15 "BlossomTours$Tour" "stopCount" "I").before ([.ref (ad (16 + t))] : List Value).toArray s = true := hts _ (by decide +kernel)
  have hf_RX2_29 : (Cond.fieldLink RX2 29 "BlossomTours$Tour" "minutes" "I").before ([.ref (ad (16 + t))] : List Value).toArray s = true := hts _ (by decide +kernel)
  have hi_RX2 : ∀ w ∈ u_ws RX2 TX2 4, w ∈ wsX2_canGo := by decide +kernel
  refine lv_aload_n hx hb dX2_canGo_0 rfl (lv_at hl 0 rfl) ?_
  refine va_get (D := z_DD G) (ci := 2) (v := .int (nI (κ 1 t))) (C := RX2) (T := TX2) (N := 4) hx hb hts hi_RX2 hown hK hP (16 + t) (z_gT ht) rfl 1 (by decide) hf_RX2_15 (fun _ h9 => h9) rfl dX2_canGo_1 ?_
  refine lv_if_le (tgt := 25) hx hb dX2_canGo_4 (by decide) (fun c4 => ?_) (fun c4 => ?_)
  · skip
    refine lv_iconst (v := 0) hx hb dX2_canGo_25 (by decide) ?_
    refine z_zret hx hb hr hlocks dX2_canGo_26 (fun t ht hW => ⟨rfl, ht⟩) (fun _ h9 => nomatch h9) ?_ ?_
    · first | exact Or.inl rfl | exact Or.inr rfl | (split <;> simp)
    · simp [z_gc, *]
  · skip
    refine lv_aload_n hx hb dX2_canGo_7 rfl (lv_at hl 0 rfl) ?_
    refine va_get (D := z_DD G) (ci := 2) (v := .int (σ 6 t)) (C := RX2) (T := TX2) (N := 4) hx hb hts hi_RX2 hown hK hP (16 + t) (z_gT ht) rfl 3 (by decide) hf_RX2_29 (fun _ h9 => h9) rfl dX2_canGo_8 ?_
    refine lv_iconst (v := 0) hx hb dX2_canGo_11 (by decide) ?_
    refine lv_sipush (v := 480) hx hb dX2_canGo_12 (by decide) ?_
    refine z_call (va_runSN (As := [.int (σ 6 t), .int 0, .int 480]) (rest := []) ⟨hx, hb, hml, hown, hts⟩ (c_X4_isWithin l G (σ 6 t) 0 480) ⟨va_cnB 3 hts gX2_canGo_X4_isWithin_n32 rfl rfl rfl (z_nmw hX.2 6 rfl) (hts (.initialized RX4) (by decide +kernel)) (by decide +kernel) ⟨Nat.le_of_ble_eq_true rfl, Nat.le_of_ble_eq_true rfl⟩, hts (.static yX4_isWithin) (by decide +kernel), trivial⟩ (z_prS hX z_P0) rfl rfl hl.1 rfl (lv_room (Nat.le_of_ble_eq_true rfl)) dX2_canGo_15 ⟨Nat.le_of_ble_eq_true rfl, Nat.le_of_ble_eq_true rfl⟩) (fun _ h9 => h9) ?_
    refine W.eq (g2 := F0 m 18 ls [.int (z_wi (σ 6 t) 0 480)]) rfl ?_
    refine lv_if_eq (tgt := 25) hx hb dX2_canGo_18 (by decide) (fun c18 => ?_) (fun c18 => ?_)
    · skip
      refine lv_iconst (v := 0) hx hb dX2_canGo_25 (by decide) ?_
      refine z_zret hx hb hr hlocks dX2_canGo_26 (fun t ht hW => ⟨rfl, ht⟩) (fun _ h9 => nomatch h9) ?_ ?_
      · first | exact Or.inl rfl | exact Or.inr rfl | (split <;> simp)
      · simp [z_gc, *]
    · skip
      refine lv_iconst (v := 1) hx hb dX2_canGo_21 (by decide) ?_
      refine lv_goto (tgt := 26) hx hb dX2_canGo_22 (by decide) ?_
      refine z_zret hx hb hr hlocks dX2_canGo_26 (fun t ht hW => ⟨rfl, ht⟩) (fun _ h9 => nomatch h9) ?_ ?_
      · first | exact Or.inl rfl | exact Or.inr rfl | (split <;> simp)
      · simp [z_gc, *]

set_option maxHeartbeats 4000000 in
set_option maxRecDepth 100000 in
theorem c_X1_minutesBetween (l : Launch) (G : z_GT) (ad : Nat → Nat) (σ : Nat → Nat → Int32) (κ : Nat → Nat → Nat) (a b : Nat) (ha : a < 8) (hb8 : b < 8) : Met l yX1_minutesBetween wsX1_minutesBetween ({ frames := 2, cells := 0, slots := 0, locals := 42 } : Room) (z_Pr G [.ref (ad 4), .int (nI a), .int (nI b)] (z_wC G ad σ κ)) (z_Qo (some (.int (z_mb (σ (10 + a) b))))) 0 0 (fun _ => False) := by
  refine Met.ofW (cc := cX1_minutesBetween) (maxL := 3) (ret := (some .int)) (by decide) rfl ?_
  intro p e s m args below meth c s₁ B hml hw0
  obtain ⟨rfl, hX, hP⟩ := hw0
  have hK := hX.1
  have hx := B.exec
  have hb := B.bytes
  have hr := B.returns
  have hts := atoms_spec (ws := wsX1_minutesBetween) B.pre
  have hown : s.vm.findClass RX1 = some m.cls := findClass_of_methodNamed B.named
  have hlocks := B.notSynchronized
  have hl := lv_entry ([.ref (ad 4), .int (nI a), .int (nI b)]) (n := 3) (Nat.le_of_ble_eq_true rfl)
  rw [lg_entry_eq]
  generalize (lg_sl ([.ref (ad 4), .int (nI a), .int (nI b)]) ++ List.replicate (3 - (lg_sl ([.ref (ad 4), .int (nI a), .int (nI b)])).length) Slot.unset).toArray = ls at hl ⊢
  have hl : lv_has ls 3 [(0, .ref (ad 4)), (1, .int (nI a)), (2, .int (nI b))] := hl
  have hf_RX1_11 : (Cond.fieldLink RX1 11 "BlossomTours$Roads" "ways" "[[I").before ([.ref (ad 4), .int (nI a), .int (nI b)] : List Value).toArray s = true := hts _ (by decide +kernel)
  have hi_RX1 : ∀ w ∈ u_ws RX1 TX1 2, w ∈ wsX1_minutesBetween := by decide +kernel
  refine lv_iload_n hx hb dX1_minutesBetween_0 rfl (lv_at hl 1 rfl) ?_
  refine z_call (va_runS (As := [.int (nI a)]) (rest := []) ⟨hx, hb, hml, hown, hts⟩ (c_X1_isPlace l G (nI a)) (va_cwS 1 hts gX1_minutesBetween_X1_isPlace rfl rfl rfl (by decide +kernel) ⟨Nat.le_of_ble_eq_true rfl, Nat.le_of_ble_eq_true rfl⟩) (z_prS hX z_P0) rfl rfl hl.1 rfl (lv_room (Nat.le_of_ble_eq_true rfl)) dX1_minutesBetween_1 ⟨Nat.le_of_ble_eq_true rfl, Nat.le_of_ble_eq_true rfl⟩) (fun _ h9 => h9) ?_
  refine W.eq (g2 := F0 m 4 ls [.int (z_wi (nI a) 0 7)]) rfl ?_
  refine lv_if_eq (tgt := 27) hx hb dX1_minutesBetween_4 (by decide) (fun c4 => ?_) (fun c4 => ?_)
  · skip
    exact absurd (c4.symm.trans (z_pl ha)) (by decide)
  · skip
    refine lv_iload_n hx hb dX1_minutesBetween_7 rfl (lv_at hl 2 rfl) ?_
    refine z_call (va_runS (As := [.int (nI b)]) (rest := []) ⟨hx, hb, hml, hown, hts⟩ (c_X1_isPlace l G (nI b)) (va_cwS 1 hts gX1_minutesBetween_X1_isPlace rfl rfl rfl (by decide +kernel) ⟨Nat.le_of_ble_eq_true rfl, Nat.le_of_ble_eq_true rfl⟩) (z_prS hX z_P0) rfl rfl hl.1 rfl (lv_room (Nat.le_of_ble_eq_true rfl)) dX1_minutesBetween_8 ⟨Nat.le_of_ble_eq_true rfl, Nat.le_of_ble_eq_true rfl⟩) (fun _ h9 => h9) ?_
    refine W.eq (g2 := F0 m 11 ls [.int (z_wi (nI b) 0 7)]) rfl ?_
    refine lv_if_eq (tgt := 27) hx hb dX1_minutesBetween_11 (by decide) (fun c11 => ?_) (fun c11 => ?_)
    · skip
      exact absurd (c11.symm.trans (z_pl hb8)) (by decide)
    · skip
      refine lv_aload_n hx hb dX1_minutesBetween_14 rfl (lv_at hl 0 rfl) ?_
      refine va_get (D := z_DD G) (ci := 1) (v := .ref (ad 5)) (C := RX1) (T := TX1) (N := 2) hx hb hts hi_RX1 hown hK hP 4 z_g4 rfl 0 (by decide) hf_RX1_11 (fun _ h9 => h9) rfl dX1_minutesBetween_15 ?_
      refine lv_iload_n hx hb dX1_minutesBetween_18 rfl (lv_at hl 1 rfl) ?_
      refine z_aalA (k := a) (g := fun j => ad (28 + j)) hx hb hK hP 5 3 z_g5 rfl ha (by decide) dX1_minutesBetween_19 ?_
      refine lv_iload_n hx hb dX1_minutesBetween_20 rfl (lv_at hl 2 rfl) ?_
      refine z_iald (k := b) (f := fun j => σ (10 + a) j) hx hb hK hP (28 + a) 0 (z_gR ha) rfl hb8 (by decide) dX1_minutesBetween_21 ?_
      refine lv_ldc (v := 1000000) hx hb hown (hts (.constant RX1 16 (1000000)) (by decide +kernel)) dX1_minutesBetween_22 ?_
      refine lv_icmp_lt (tgt := 29) hx hb dX1_minutesBetween_24 (by decide) (fun c24 => ?_) (fun c24 => ?_)
      · skip
        refine lv_aload_n hx hb dX1_minutesBetween_29 rfl (lv_at hl 0 rfl) ?_
        refine va_get (D := z_DD G) (ci := 1) (v := .ref (ad 5)) (C := RX1) (T := TX1) (N := 2) hx hb hts hi_RX1 hown hK hP 4 z_g4 rfl 0 (by decide) hf_RX1_11 (fun _ h9 => h9) rfl dX1_minutesBetween_30 ?_
        refine lv_iload_n hx hb dX1_minutesBetween_33 rfl (lv_at hl 1 rfl) ?_
        refine z_aalA (k := a) (g := fun j => ad (28 + j)) hx hb hK hP 5 3 z_g5 rfl ha (by decide) dX1_minutesBetween_34 ?_
        refine lv_iload_n hx hb dX1_minutesBetween_35 rfl (lv_at hl 2 rfl) ?_
        refine z_iald (k := b) (f := fun j => σ (10 + a) j) hx hb hK hP (28 + a) 0 (z_gR ha) rfl hb8 (by decide) dX1_minutesBetween_36 ?_
        refine z_iret hx hb hr hlocks dX1_minutesBetween_37 (fun t ht hW => ⟨rfl, ht⟩) (fun _ h9 => nomatch h9) ?_
        simp [z_mb, *]
      · skip
        refine lv_iconst (v := (-1)) hx hb dX1_minutesBetween_27 (by decide) ?_
        refine z_iret hx hb hr hlocks dX1_minutesBetween_28 (fun t ht hW => ⟨rfl, ht⟩) (fun _ h9 => nomatch h9) ?_
        simp [z_mb, *]
end
