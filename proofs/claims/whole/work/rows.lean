section
-- ===== PART A: goes FIRST, ahead of the names: the tables' words, and 'selects' of the private methods out of them =====
/-- a private method of a class that the tables say can be made, by its rows of tables_1 -/
def lw_okq (q : MethodName × Nat) : Prop := (q.1.cls ≠ "java/lang/invoke/MethodHandle" ∧ q.1.cls ≠ "java/lang/invoke/VarHandle") ∧ Cond.instantiable q.1.cls q.2 ∈ tables_1 ∧ Cond.privateMethod q.1 ∈ tables_1 ∧ Cond.instanceMethod q.1 ∈ tables_1
theorem lw_p0 : lw_okq (⟨"NinthDayHooded$Text", "hasRoomFor", "(I)Z"⟩, 2) := ⟨⟨by decide +kernel, by decide +kernel⟩, List.mem_of_getElem? (i := 31) (by decide +kernel), List.mem_of_getElem? (i := 399) (by decide +kernel), List.mem_of_getElem? (i := 400) (by decide +kernel)⟩
theorem lw_p1 : lw_okq (⟨"NinthDayHooded$Text", "add", "(I)V"⟩, 2) := ⟨⟨by decide +kernel, by decide +kernel⟩, List.mem_of_getElem? (i := 31) (by decide +kernel), List.mem_of_getElem? (i := 403) (by decide +kernel), List.mem_of_getElem? (i := 404) (by decide +kernel)⟩
theorem lw_p2 : lw_okq (⟨"NinthDayHooded", "townFault", "()I"⟩, 11) := ⟨⟨by decide +kernel, by decide +kernel⟩, List.mem_of_getElem? (i := 23) (by decide +kernel), List.mem_of_getElem? (i := 415) (by decide +kernel), List.mem_of_getElem? (i := 416) (by decide +kernel)⟩
theorem lw_p3 : lw_okq (⟨"NinthDayHooded$Text", "at", "(I)I"⟩, 2) := ⟨⟨by decide +kernel, by decide +kernel⟩, List.mem_of_getElem? (i := 31) (by decide +kernel), List.mem_of_getElem? (i := 422) (by decide +kernel), List.mem_of_getElem? (i := 423) (by decide +kernel)⟩
theorem lw_p4 : lw_okq (⟨"NinthDayHooded", "addLines", "()I"⟩, 11) := ⟨⟨by decide +kernel, by decide +kernel⟩, List.mem_of_getElem? (i := 23) (by decide +kernel), List.mem_of_getElem? (i := 429) (by decide +kernel), List.mem_of_getElem? (i := 430) (by decide +kernel)⟩
theorem lw_p5 : lw_okq (⟨"NinthDayHooded$Text", "startsPart", "(I)Z"⟩, 2) := ⟨⟨by decide +kernel, by decide +kernel⟩, List.mem_of_getElem? (i := 31) (by decide +kernel), List.mem_of_getElem? (i := 433) (by decide +kernel), List.mem_of_getElem? (i := 434) (by decide +kernel)⟩
theorem lw_p6 : lw_okq (⟨"NinthDayHooded$Text", "digitAt", "(I)I"⟩, 2) := ⟨⟨by decide +kernel, by decide +kernel⟩, List.mem_of_getElem? (i := 31) (by decide +kernel), List.mem_of_getElem? (i := 438) (by decide +kernel), List.mem_of_getElem? (i := 439) (by decide +kernel)⟩
theorem lw_p7 : lw_okq (⟨"NinthDayHooded", "tradesFrom", "(I)I"⟩, 11) := ⟨⟨by decide +kernel, by decide +kernel⟩, List.mem_of_getElem? (i := 23) (by decide +kernel), List.mem_of_getElem? (i := 442) (by decide +kernel), List.mem_of_getElem? (i := 443) (by decide +kernel)⟩
theorem lw_p8 : lw_okq (⟨"NinthDayHooded", "addPerson", "(III)V"⟩, 11) := ⟨⟨by decide +kernel, by decide +kernel⟩, List.mem_of_getElem? (i := 23) (by decide +kernel), List.mem_of_getElem? (i := 446) (by decide +kernel), List.mem_of_getElem? (i := 447) (by decide +kernel)⟩
theorem lw_p9 : lw_okq (⟨"NinthDayHooded$Past", "forgetUndos", "()V"⟩, 5) := ⟨⟨by decide +kernel, by decide +kernel⟩, List.mem_of_getElem? (i := 131) (by decide +kernel), List.mem_of_getElem? (i := 450) (by decide +kernel), List.mem_of_getElem? (i := 451) (by decide +kernel)⟩
theorem lw_p10 : lw_okq (⟨"NinthDayHooded$People", "has", "(I)Z"⟩, 5) := ⟨⟨by decide +kernel, by decide +kernel⟩, List.mem_of_getElem? (i := 62) (by decide +kernel), List.mem_of_getElem? (i := 458) (by decide +kernel), List.mem_of_getElem? (i := 459) (by decide +kernel)⟩
theorem lw_p11 : lw_okq (⟨"NinthDayHooded$Text", "digitsFault", "(I)I"⟩, 2) := ⟨⟨by decide +kernel, by decide +kernel⟩, List.mem_of_getElem? (i := 31) (by decide +kernel), List.mem_of_getElem? (i := 462) (by decide +kernel), List.mem_of_getElem? (i := 463) (by decide +kernel)⟩
theorem lw_p12 : lw_okq (⟨"NinthDayHooded$Rule", "read", "(LNinthDayHooded$Text;)I"⟩, 12) := ⟨⟨by decide +kernel, by decide +kernel⟩, List.mem_of_getElem? (i := 159) (by decide +kernel), List.mem_of_getElem? (i := 475) (by decide +kernel), List.mem_of_getElem? (i := 476) (by decide +kernel)⟩
theorem lw_p13 : lw_okq (⟨"NinthDayHooded$Rule", "begin", "()V"⟩, 12) := ⟨⟨by decide +kernel, by decide +kernel⟩, List.mem_of_getElem? (i := 159) (by decide +kernel), List.mem_of_getElem? (i := 479) (by decide +kernel), List.mem_of_getElem? (i := 480) (by decide +kernel)⟩
theorem lw_p14 : lw_okq (⟨"NinthDayHooded$Rule", "takesAhead", "(I)Z"⟩, 12) := ⟨⟨by decide +kernel, by decide +kernel⟩, List.mem_of_getElem? (i := 159) (by decide +kernel), List.mem_of_getElem? (i := 485) (by decide +kernel), List.mem_of_getElem? (i := 486) (by decide +kernel)⟩
theorem lw_p15 : lw_okq (⟨"NinthDayHooded$Rule", "hold", "(I)V"⟩, 12) := ⟨⟨by decide +kernel, by decide +kernel⟩, List.mem_of_getElem? (i := 159) (by decide +kernel), List.mem_of_getElem? (i := 489) (by decide +kernel), List.mem_of_getElem? (i := 490) (by decide +kernel)⟩
def lw_privs_1 : List (MethodName × Nat) := [(⟨"NinthDayHooded$Text", "hasRoomFor", "(I)Z"⟩, 2), (⟨"NinthDayHooded$Text", "add", "(I)V"⟩, 2), (⟨"NinthDayHooded", "townFault", "()I"⟩, 11), (⟨"NinthDayHooded$Text", "at", "(I)I"⟩, 2), (⟨"NinthDayHooded", "addLines", "()I"⟩, 11), (⟨"NinthDayHooded$Text", "startsPart", "(I)Z"⟩, 2), (⟨"NinthDayHooded$Text", "digitAt", "(I)I"⟩, 2), (⟨"NinthDayHooded", "tradesFrom", "(I)I"⟩, 11), (⟨"NinthDayHooded", "addPerson", "(III)V"⟩, 11), (⟨"NinthDayHooded$Past", "forgetUndos", "()V"⟩, 5), (⟨"NinthDayHooded$People", "has", "(I)Z"⟩, 5), (⟨"NinthDayHooded$Text", "digitsFault", "(I)I"⟩, 2), (⟨"NinthDayHooded$Rule", "read", "(LNinthDayHooded$Text;)I"⟩, 12), (⟨"NinthDayHooded$Rule", "begin", "()V"⟩, 12), (⟨"NinthDayHooded$Rule", "takesAhead", "(I)Z"⟩, 12), (⟨"NinthDayHooded$Rule", "hold", "(I)V"⟩, 12)]
theorem lw_r1 : ∀ q ∈ lw_privs_1, lw_okq q := List.forall_mem_cons.mpr ⟨lw_p0, List.forall_mem_cons.mpr ⟨lw_p1, List.forall_mem_cons.mpr ⟨lw_p2, List.forall_mem_cons.mpr ⟨lw_p3, List.forall_mem_cons.mpr ⟨lw_p4, List.forall_mem_cons.mpr ⟨lw_p5, List.forall_mem_cons.mpr ⟨lw_p6, List.forall_mem_cons.mpr ⟨lw_p7, List.forall_mem_cons.mpr ⟨lw_p8, List.forall_mem_cons.mpr ⟨lw_p9, List.forall_mem_cons.mpr ⟨lw_p10, List.forall_mem_cons.mpr ⟨lw_p11, List.forall_mem_cons.mpr ⟨lw_p12, List.forall_mem_cons.mpr ⟨lw_p13, List.forall_mem_cons.mpr ⟨lw_p14, List.forall_mem_cons.mpr ⟨lw_p15, fun _ h => absurd h List.not_mem_nil⟩⟩⟩⟩⟩⟩⟩⟩⟩⟩⟩⟩⟩⟩⟩⟩
theorem lw_p16 : lw_okq (⟨"NinthDayHooded$Rule", "opens", "()Z"⟩, 12) := ⟨⟨by decide +kernel, by decide +kernel⟩, List.mem_of_getElem? (i := 159) (by decide +kernel), List.mem_of_getElem? (i := 493) (by decide +kernel), List.mem_of_getElem? (i := 494) (by decide +kernel)⟩
theorem lw_p17 : lw_okq (⟨"NinthDayHooded$Rule", "put", "(I)V"⟩, 12) := ⟨⟨by decide +kernel, by decide +kernel⟩, List.mem_of_getElem? (i := 159) (by decide +kernel), List.mem_of_getElem? (i := 497) (by decide +kernel), List.mem_of_getElem? (i := 498) (by decide +kernel)⟩
theorem lw_p18 : lw_okq (⟨"NinthDayHooded$Rule", "takesBehind", "(I)Z"⟩, 12) := ⟨⟨by decide +kernel, by decide +kernel⟩, List.mem_of_getElem? (i := 159) (by decide +kernel), List.mem_of_getElem? (i := 504) (by decide +kernel), List.mem_of_getElem? (i := 505) (by decide +kernel)⟩
theorem lw_p19 : lw_okq (⟨"NinthDayHooded$Rule", "lengthens", "(I)Z"⟩, 12) := ⟨⟨by decide +kernel, by decide +kernel⟩, List.mem_of_getElem? (i := 159) (by decide +kernel), List.mem_of_getElem? (i := 508) (by decide +kernel), List.mem_of_getElem? (i := 509) (by decide +kernel)⟩
theorem lw_p20 : lw_okq (⟨"NinthDayHooded$Rule", "closes", "()Z"⟩, 12) := ⟨⟨by decide +kernel, by decide +kernel⟩, List.mem_of_getElem? (i := 159) (by decide +kernel), List.mem_of_getElem? (i := 512) (by decide +kernel), List.mem_of_getElem? (i := 513) (by decide +kernel)⟩
theorem lw_p21 : lw_okq (⟨"NinthDayHooded$Rule", "putWaiting", "(I)V"⟩, 12) := ⟨⟨by decide +kernel, by decide +kernel⟩, List.mem_of_getElem? (i := 159) (by decide +kernel), List.mem_of_getElem? (i := 516) (by decide +kernel), List.mem_of_getElem? (i := 517) (by decide +kernel)⟩
theorem lw_p22 : lw_okq (⟨"NinthDayHooded$People", "hasTwo", "(II)Z"⟩, 5) := ⟨⟨by decide +kernel, by decide +kernel⟩, List.mem_of_getElem? (i := 62) (by decide +kernel), List.mem_of_getElem? (i := 533) (by decide +kernel), List.mem_of_getElem? (i := 534) (by decide +kernel)⟩
theorem lw_p23 : lw_okq (⟨"NinthDayHooded$Guides", "find", "(LNinthDayHooded$People;LNinthDayHooded$Rule;LNinthDayHooded$State;I)V"⟩, 9) := ⟨⟨by decide +kernel, by decide +kernel⟩, List.mem_of_getElem? (i := 209) (by decide +kernel), List.mem_of_getElem? (i := 567) (by decide +kernel), List.mem_of_getElem? (i := 568) (by decide +kernel)⟩
theorem lw_p24 : lw_okq (⟨"NinthDayHooded$Guides", "setPrices", "(LNinthDayHooded$People;LNinthDayHooded$Rule;LNinthDayHooded$State;II)V"⟩, 9) := ⟨⟨by decide +kernel, by decide +kernel⟩, List.mem_of_getElem? (i := 209) (by decide +kernel), List.mem_of_getElem? (i := 571) (by decide +kernel), List.mem_of_getElem? (i := 572) (by decide +kernel)⟩
theorem lw_p25 : lw_okq (⟨"NinthDayHooded$Rule", "bringThings", "(LNinthDayHooded$People;LNinthDayHooded$State;III)V"⟩, 12) := ⟨⟨by decide +kernel, by decide +kernel⟩, List.mem_of_getElem? (i := 159) (by decide +kernel), List.mem_of_getElem? (i := 575) (by decide +kernel), List.mem_of_getElem? (i := 576) (by decide +kernel)⟩
theorem lw_p26 : lw_okq (⟨"NinthDayHooded$Rule", "price", "()I"⟩, 12) := ⟨⟨by decide +kernel, by decide +kernel⟩, List.mem_of_getElem? (i := 159) (by decide +kernel), List.mem_of_getElem? (i := 591) (by decide +kernel), List.mem_of_getElem? (i := 592) (by decide +kernel)⟩
theorem lw_p27 : lw_okq (⟨"NinthDayHooded$Guides", "cheapest", "(I)I"⟩, 9) := ⟨⟨by decide +kernel, by decide +kernel⟩, List.mem_of_getElem? (i := 209) (by decide +kernel), List.mem_of_getElem? (i := 599) (by decide +kernel), List.mem_of_getElem? (i := 600) (by decide +kernel)⟩
theorem lw_p28 : lw_okq (⟨"NinthDayHooded$Guides", "choose", "(II)V"⟩, 9) := ⟨⟨by decide +kernel, by decide +kernel⟩, List.mem_of_getElem? (i := 209) (by decide +kernel), List.mem_of_getElem? (i := 603) (by decide +kernel), List.mem_of_getElem? (i := 604) (by decide +kernel)⟩
theorem lw_p29 : lw_okq (⟨"NinthDayHooded$Row", "clear", "()V"⟩, 2) := ⟨⟨by decide +kernel, by decide +kernel⟩, List.mem_of_getElem? (i := 47) (by decide +kernel), List.mem_of_getElem? (i := 608) (by decide +kernel), List.mem_of_getElem? (i := 609) (by decide +kernel)⟩
theorem lw_p30 : lw_okq (⟨"NinthDayHooded$Guides", "price", "()I"⟩, 9) := ⟨⟨by decide +kernel, by decide +kernel⟩, List.mem_of_getElem? (i := 209) (by decide +kernel), List.mem_of_getElem? (i := 612) (by decide +kernel), List.mem_of_getElem? (i := 613) (by decide +kernel)⟩
theorem lw_p31 : lw_okq (⟨"NinthDayHooded$Row", "put", "(I)V"⟩, 2) := ⟨⟨by decide +kernel, by decide +kernel⟩, List.mem_of_getElem? (i := 47) (by decide +kernel), List.mem_of_getElem? (i := 616) (by decide +kernel), List.mem_of_getElem? (i := 617) (by decide +kernel)⟩
def lw_privs_2 : List (MethodName × Nat) := [(⟨"NinthDayHooded$Rule", "opens", "()Z"⟩, 12), (⟨"NinthDayHooded$Rule", "put", "(I)V"⟩, 12), (⟨"NinthDayHooded$Rule", "takesBehind", "(I)Z"⟩, 12), (⟨"NinthDayHooded$Rule", "lengthens", "(I)Z"⟩, 12), (⟨"NinthDayHooded$Rule", "closes", "()Z"⟩, 12), (⟨"NinthDayHooded$Rule", "putWaiting", "(I)V"⟩, 12), (⟨"NinthDayHooded$People", "hasTwo", "(II)Z"⟩, 5), (⟨"NinthDayHooded$Guides", "find", "(LNinthDayHooded$People;LNinthDayHooded$Rule;LNinthDayHooded$State;I)V"⟩, 9), (⟨"NinthDayHooded$Guides", "setPrices", "(LNinthDayHooded$People;LNinthDayHooded$Rule;LNinthDayHooded$State;II)V"⟩, 9), (⟨"NinthDayHooded$Rule", "bringThings", "(LNinthDayHooded$People;LNinthDayHooded$State;III)V"⟩, 12), (⟨"NinthDayHooded$Rule", "price", "()I"⟩, 12), (⟨"NinthDayHooded$Guides", "cheapest", "(I)I"⟩, 9), (⟨"NinthDayHooded$Guides", "choose", "(II)V"⟩, 9), (⟨"NinthDayHooded$Row", "clear", "()V"⟩, 2), (⟨"NinthDayHooded$Guides", "price", "()I"⟩, 9), (⟨"NinthDayHooded$Row", "put", "(I)V"⟩, 2)]
theorem lw_r2 : ∀ q ∈ lw_privs_2, lw_okq q := List.forall_mem_cons.mpr ⟨lw_p16, List.forall_mem_cons.mpr ⟨lw_p17, List.forall_mem_cons.mpr ⟨lw_p18, List.forall_mem_cons.mpr ⟨lw_p19, List.forall_mem_cons.mpr ⟨lw_p20, List.forall_mem_cons.mpr ⟨lw_p21, List.forall_mem_cons.mpr ⟨lw_p22, List.forall_mem_cons.mpr ⟨lw_p23, List.forall_mem_cons.mpr ⟨lw_p24, List.forall_mem_cons.mpr ⟨lw_p25, List.forall_mem_cons.mpr ⟨lw_p26, List.forall_mem_cons.mpr ⟨lw_p27, List.forall_mem_cons.mpr ⟨lw_p28, List.forall_mem_cons.mpr ⟨lw_p29, List.forall_mem_cons.mpr ⟨lw_p30, List.forall_mem_cons.mpr ⟨lw_p31, fun _ h => absurd h List.not_mem_nil⟩⟩⟩⟩⟩⟩⟩⟩⟩⟩⟩⟩⟩⟩⟩⟩
theorem lw_p32 : lw_okq (⟨"NinthDayHooded$State", "hoodedOn", "(II)I"⟩, 6) := ⟨⟨by decide +kernel, by decide +kernel⟩, List.mem_of_getElem? (i := 94) (by decide +kernel), List.mem_of_getElem? (i := 620) (by decide +kernel), List.mem_of_getElem? (i := 621) (by decide +kernel)⟩
theorem lw_p33 : lw_okq (⟨"NinthDayHooded$Guides", "nobody", "()I"⟩, 9) := ⟨⟨by decide +kernel, by decide +kernel⟩, List.mem_of_getElem? (i := 209) (by decide +kernel), List.mem_of_getElem? (i := 624) (by decide +kernel), List.mem_of_getElem? (i := 625) (by decide +kernel)⟩
theorem lw_p34 : lw_okq (⟨"NinthDayHooded$Guides", "withoutAny", "()I"⟩, 9) := ⟨⟨by decide +kernel, by decide +kernel⟩, List.mem_of_getElem? (i := 209) (by decide +kernel), List.mem_of_getElem? (i := 632) (by decide +kernel), List.mem_of_getElem? (i := 633) (by decide +kernel)⟩
theorem lw_p35 : lw_okq (⟨"NinthDayHooded$Guides", "unled", "()I"⟩, 9) := ⟨⟨by decide +kernel, by decide +kernel⟩, List.mem_of_getElem? (i := 209) (by decide +kernel), List.mem_of_getElem? (i := 636) (by decide +kernel), List.mem_of_getElem? (i := 637) (by decide +kernel)⟩
theorem lw_p36 : lw_okq (⟨"NinthDayHooded", "goDays", "(I)I"⟩, 11) := ⟨⟨by decide +kernel, by decide +kernel⟩, List.mem_of_getElem? (i := 23) (by decide +kernel), List.mem_of_getElem? (i := 648) (by decide +kernel), List.mem_of_getElem? (i := 649) (by decide +kernel)⟩
theorem lw_p37 : lw_okq (⟨"NinthDayHooded$Past", "remember", "(LNinthDayHooded$State;)V"⟩, 5) := ⟨⟨by decide +kernel, by decide +kernel⟩, List.mem_of_getElem? (i := 131) (by decide +kernel), List.mem_of_getElem? (i := 652) (by decide +kernel), List.mem_of_getElem? (i := 653) (by decide +kernel)⟩
theorem lw_p38 : lw_okq (⟨"NinthDayHooded$State", "copyFrom", "(LNinthDayHooded$State;)V"⟩, 6) := ⟨⟨by decide +kernel, by decide +kernel⟩, List.mem_of_getElem? (i := 94) (by decide +kernel), List.mem_of_getElem? (i := 656) (by decide +kernel), List.mem_of_getElem? (i := 657) (by decide +kernel)⟩
theorem lw_p39 : lw_okq (⟨"NinthDayHooded$Walk", "begin", "()V"⟩, 5) := ⟨⟨by decide +kernel, by decide +kernel⟩, List.mem_of_getElem? (i := 203) (by decide +kernel), List.mem_of_getElem? (i := 662) (by decide +kernel), List.mem_of_getElem? (i := 663) (by decide +kernel)⟩
theorem lw_p40 : lw_okq (⟨"NinthDayHooded$Walk", "passAll", "(LNinthDayHooded$People;LNinthDayHooded$Rule;LNinthDayHooded$State;I)V"⟩, 5) := ⟨⟨by decide +kernel, by decide +kernel⟩, List.mem_of_getElem? (i := 203) (by decide +kernel), List.mem_of_getElem? (i := 669) (by decide +kernel), List.mem_of_getElem? (i := 670) (by decide +kernel)⟩
theorem lw_p41 : lw_okq (⟨"NinthDayHooded$State", "openPage", "(I)V"⟩, 6) := ⟨⟨by decide +kernel, by decide +kernel⟩, List.mem_of_getElem? (i := 94) (by decide +kernel), List.mem_of_getElem? (i := 674) (by decide +kernel), List.mem_of_getElem? (i := 675) (by decide +kernel)⟩
theorem lw_p42 : lw_okq (⟨"NinthDayHooded$Walk", "followGuides", "(LNinthDayHooded$State;)V"⟩, 5) := ⟨⟨by decide +kernel, by decide +kernel⟩, List.mem_of_getElem? (i := 203) (by decide +kernel), List.mem_of_getElem? (i := 678) (by decide +kernel), List.mem_of_getElem? (i := 679) (by decide +kernel)⟩
theorem lw_p43 : lw_okq (⟨"NinthDayHooded$State", "write", "(II)V"⟩, 6) := ⟨⟨by decide +kernel, by decide +kernel⟩, List.mem_of_getElem? (i := 94) (by decide +kernel), List.mem_of_getElem? (i := 682) (by decide +kernel), List.mem_of_getElem? (i := 683) (by decide +kernel)⟩
theorem lw_p44 : lw_okq (⟨"NinthDayHooded$State", "learn", "(II)I"⟩, 6) := ⟨⟨by decide +kernel, by decide +kernel⟩, List.mem_of_getElem? (i := 94) (by decide +kernel), List.mem_of_getElem? (i := 686) (by decide +kernel), List.mem_of_getElem? (i := 687) (by decide +kernel)⟩
theorem lw_p45 : lw_okq (⟨"NinthDayHooded", "seasonFault", "()I"⟩, 11) := ⟨⟨by decide +kernel, by decide +kernel⟩, List.mem_of_getElem? (i := 23) (by decide +kernel), List.mem_of_getElem? (i := 699) (by decide +kernel), List.mem_of_getElem? (i := 700) (by decide +kernel)⟩
theorem lw_p46 : lw_okq (⟨"NinthDayHooded", "canAct", "(I)Z"⟩, 11) := ⟨⟨by decide +kernel, by decide +kernel⟩, List.mem_of_getElem? (i := 23) (by decide +kernel), List.mem_of_getElem? (i := 712) (by decide +kernel), List.mem_of_getElem? (i := 713) (by decide +kernel)⟩
theorem lw_p47 : lw_okq (⟨"NinthDayHooded", "act", "(I)V"⟩, 11) := ⟨⟨by decide +kernel, by decide +kernel⟩, List.mem_of_getElem? (i := 23) (by decide +kernel), List.mem_of_getElem? (i := 716) (by decide +kernel), List.mem_of_getElem? (i := 717) (by decide +kernel)⟩
def lw_privs_3 : List (MethodName × Nat) := [(⟨"NinthDayHooded$State", "hoodedOn", "(II)I"⟩, 6), (⟨"NinthDayHooded$Guides", "nobody", "()I"⟩, 9), (⟨"NinthDayHooded$Guides", "withoutAny", "()I"⟩, 9), (⟨"NinthDayHooded$Guides", "unled", "()I"⟩, 9), (⟨"NinthDayHooded", "goDays", "(I)I"⟩, 11), (⟨"NinthDayHooded$Past", "remember", "(LNinthDayHooded$State;)V"⟩, 5), (⟨"NinthDayHooded$State", "copyFrom", "(LNinthDayHooded$State;)V"⟩, 6), (⟨"NinthDayHooded$Walk", "begin", "()V"⟩, 5), (⟨"NinthDayHooded$Walk", "passAll", "(LNinthDayHooded$People;LNinthDayHooded$Rule;LNinthDayHooded$State;I)V"⟩, 5), (⟨"NinthDayHooded$State", "openPage", "(I)V"⟩, 6), (⟨"NinthDayHooded$Walk", "followGuides", "(LNinthDayHooded$State;)V"⟩, 5), (⟨"NinthDayHooded$State", "write", "(II)V"⟩, 6), (⟨"NinthDayHooded$State", "learn", "(II)I"⟩, 6), (⟨"NinthDayHooded", "seasonFault", "()I"⟩, 11), (⟨"NinthDayHooded", "canAct", "(I)Z"⟩, 11), (⟨"NinthDayHooded", "act", "(I)V"⟩, 11)]
theorem lw_r3 : ∀ q ∈ lw_privs_3, lw_okq q := List.forall_mem_cons.mpr ⟨lw_p32, List.forall_mem_cons.mpr ⟨lw_p33, List.forall_mem_cons.mpr ⟨lw_p34, List.forall_mem_cons.mpr ⟨lw_p35, List.forall_mem_cons.mpr ⟨lw_p36, List.forall_mem_cons.mpr ⟨lw_p37, List.forall_mem_cons.mpr ⟨lw_p38, List.forall_mem_cons.mpr ⟨lw_p39, List.forall_mem_cons.mpr ⟨lw_p40, List.forall_mem_cons.mpr ⟨lw_p41, List.forall_mem_cons.mpr ⟨lw_p42, List.forall_mem_cons.mpr ⟨lw_p43, List.forall_mem_cons.mpr ⟨lw_p44, List.forall_mem_cons.mpr ⟨lw_p45, List.forall_mem_cons.mpr ⟨lw_p46, List.forall_mem_cons.mpr ⟨lw_p47, fun _ h => absurd h List.not_mem_nil⟩⟩⟩⟩⟩⟩⟩⟩⟩⟩⟩⟩⟩⟩⟩⟩
theorem lw_p48 : lw_okq (⟨"NinthDayHooded$State", "swapHoods", "(II)V"⟩, 6) := ⟨⟨by decide +kernel, by decide +kernel⟩, List.mem_of_getElem? (i := 94) (by decide +kernel), List.mem_of_getElem? (i := 720) (by decide +kernel), List.mem_of_getElem? (i := 721) (by decide +kernel)⟩
theorem lw_p49 : lw_okq (⟨"NinthDayHooded$Past", "takeBack", "(LNinthDayHooded$State;)Z"⟩, 5) := ⟨⟨by decide +kernel, by decide +kernel⟩, List.mem_of_getElem? (i := 131) (by decide +kernel), List.mem_of_getElem? (i := 728) (by decide +kernel), List.mem_of_getElem? (i := 729) (by decide +kernel)⟩
theorem lw_p50 : lw_okq (⟨"NinthDayHooded$State", "entry", "(II)I"⟩, 6) := ⟨⟨by decide +kernel, by decide +kernel⟩, List.mem_of_getElem? (i := 94) (by decide +kernel), List.mem_of_getElem? (i := 736) (by decide +kernel), List.mem_of_getElem? (i := 737) (by decide +kernel)⟩
theorem lw_p51 : lw_okq (⟨"NinthDayHooded$State", "bookDays", "()I"⟩, 6) := ⟨⟨by decide +kernel, by decide +kernel⟩, List.mem_of_getElem? (i := 94) (by decide +kernel), List.mem_of_getElem? (i := 747) (by decide +kernel), List.mem_of_getElem? (i := 748) (by decide +kernel)⟩
theorem lw_p52 : lw_okq (⟨"NinthDayHooded$State", "hasTrade", "(II)Z"⟩, 6) := ⟨⟨by decide +kernel, by decide +kernel⟩, List.mem_of_getElem? (i := 94) (by decide +kernel), List.mem_of_getElem? (i := 761) (by decide +kernel), List.mem_of_getElem? (i := 762) (by decide +kernel)⟩
theorem lw_p53 : lw_okq (⟨"NinthDayHooded$Tasks", "add", "(II)V"⟩, 11) := ⟨⟨by decide +kernel, by decide +kernel⟩, List.mem_of_getElem? (i := 270) (by decide +kernel), List.mem_of_getElem? (i := 769) (by decide +kernel), List.mem_of_getElem? (i := 770) (by decide +kernel)⟩
theorem lw_p54 : lw_okq (⟨"NinthDayHooded$Tasks", "look", "(LNinthDayHooded$State;I)V"⟩, 11) := ⟨⟨by decide +kernel, by decide +kernel⟩, List.mem_of_getElem? (i := 270) (by decide +kernel), List.mem_of_getElem? (i := 784) (by decide +kernel), List.mem_of_getElem? (i := 785) (by decide +kernel)⟩
theorem lw_p55 : lw_okq (⟨"NinthDayHooded$Tasks", "seeing", "(I)I"⟩, 11) := ⟨⟨by decide +kernel, by decide +kernel⟩, List.mem_of_getElem? (i := 270) (by decide +kernel), List.mem_of_getElem? (i := 791) (by decide +kernel), List.mem_of_getElem? (i := 792) (by decide +kernel)⟩
theorem lw_p56 : lw_okq (⟨"NinthDayHooded$Tasks", "wanting", "(I)I"⟩, 11) := ⟨⟨by decide +kernel, by decide +kernel⟩, List.mem_of_getElem? (i := 270) (by decide +kernel), List.mem_of_getElem? (i := 796) (by decide +kernel), List.mem_of_getElem? (i := 797) (by decide +kernel)⟩
theorem lw_p57 : lw_okq (⟨"NinthDayHooded$Tasks", "wantingWith", "(II)I"⟩, 11) := ⟨⟨by decide +kernel, by decide +kernel⟩, List.mem_of_getElem? (i := 270) (by decide +kernel), List.mem_of_getElem? (i := 800) (by decide +kernel), List.mem_of_getElem? (i := 801) (by decide +kernel)⟩
theorem lw_p58 : lw_okq (⟨"NinthDayHooded$Tasks", "wantingInAll", "()I"⟩, 11) := ⟨⟨by decide +kernel, by decide +kernel⟩, List.mem_of_getElem? (i := 270) (by decide +kernel), List.mem_of_getElem? (i := 810) (by decide +kernel), List.mem_of_getElem? (i := 811) (by decide +kernel)⟩
theorem lw_p59 : lw_okq (⟨"NinthDayHooded$Tasks", "fewestMoves", "(LNinthDayHooded$State;I)I"⟩, 11) := ⟨⟨by decide +kernel, by decide +kernel⟩, List.mem_of_getElem? (i := 270) (by decide +kernel), List.mem_of_getElem? (i := 824) (by decide +kernel), List.mem_of_getElem? (i := 825) (by decide +kernel)⟩
theorem lw_p60 : lw_okq (⟨"NinthDayHooded$Tasks", "mannedBy", "(LNinthDayHooded$State;IIII)Z"⟩, 11) := ⟨⟨by decide +kernel, by decide +kernel⟩, List.mem_of_getElem? (i := 270) (by decide +kernel), List.mem_of_getElem? (i := 829) (by decide +kernel), List.mem_of_getElem? (i := 830) (by decide +kernel)⟩
theorem lw_p61 : lw_okq (⟨"NinthDayHooded$Tasks", "allManned", "()Z"⟩, 11) := ⟨⟨by decide +kernel, by decide +kernel⟩, List.mem_of_getElem? (i := 270) (by decide +kernel), List.mem_of_getElem? (i := 833) (by decide +kernel), List.mem_of_getElem? (i := 834) (by decide +kernel)⟩
theorem lw_p62 : lw_okq (⟨"NinthDayHooded$Tasks", "move", "(III)V"⟩, 11) := ⟨⟨by decide +kernel, by decide +kernel⟩, List.mem_of_getElem? (i := 270) (by decide +kernel), List.mem_of_getElem? (i := 837) (by decide +kernel), List.mem_of_getElem? (i := 838) (by decide +kernel)⟩
theorem lw_p63 : lw_okq (⟨"NinthDayHooded", "tellMoves", "(I)V"⟩, 11) := ⟨⟨by decide +kernel, by decide +kernel⟩, List.mem_of_getElem? (i := 23) (by decide +kernel), List.mem_of_getElem? (i := 841) (by decide +kernel), List.mem_of_getElem? (i := 842) (by decide +kernel)⟩
def lw_privs_4 : List (MethodName × Nat) := [(⟨"NinthDayHooded$State", "swapHoods", "(II)V"⟩, 6), (⟨"NinthDayHooded$Past", "takeBack", "(LNinthDayHooded$State;)Z"⟩, 5), (⟨"NinthDayHooded$State", "entry", "(II)I"⟩, 6), (⟨"NinthDayHooded$State", "bookDays", "()I"⟩, 6), (⟨"NinthDayHooded$State", "hasTrade", "(II)Z"⟩, 6), (⟨"NinthDayHooded$Tasks", "add", "(II)V"⟩, 11), (⟨"NinthDayHooded$Tasks", "look", "(LNinthDayHooded$State;I)V"⟩, 11), (⟨"NinthDayHooded$Tasks", "seeing", "(I)I"⟩, 11), (⟨"NinthDayHooded$Tasks", "wanting", "(I)I"⟩, 11), (⟨"NinthDayHooded$Tasks", "wantingWith", "(II)I"⟩, 11), (⟨"NinthDayHooded$Tasks", "wantingInAll", "()I"⟩, 11), (⟨"NinthDayHooded$Tasks", "fewestMoves", "(LNinthDayHooded$State;I)I"⟩, 11), (⟨"NinthDayHooded$Tasks", "mannedBy", "(LNinthDayHooded$State;IIII)Z"⟩, 11), (⟨"NinthDayHooded$Tasks", "allManned", "()Z"⟩, 11), (⟨"NinthDayHooded$Tasks", "move", "(III)V"⟩, 11), (⟨"NinthDayHooded", "tellMoves", "(I)V"⟩, 11)]
theorem lw_r4 : ∀ q ∈ lw_privs_4, lw_okq q := List.forall_mem_cons.mpr ⟨lw_p48, List.forall_mem_cons.mpr ⟨lw_p49, List.forall_mem_cons.mpr ⟨lw_p50, List.forall_mem_cons.mpr ⟨lw_p51, List.forall_mem_cons.mpr ⟨lw_p52, List.forall_mem_cons.mpr ⟨lw_p53, List.forall_mem_cons.mpr ⟨lw_p54, List.forall_mem_cons.mpr ⟨lw_p55, List.forall_mem_cons.mpr ⟨lw_p56, List.forall_mem_cons.mpr ⟨lw_p57, List.forall_mem_cons.mpr ⟨lw_p58, List.forall_mem_cons.mpr ⟨lw_p59, List.forall_mem_cons.mpr ⟨lw_p60, List.forall_mem_cons.mpr ⟨lw_p61, List.forall_mem_cons.mpr ⟨lw_p62, List.forall_mem_cons.mpr ⟨lw_p63, fun _ h => absurd h List.not_mem_nil⟩⟩⟩⟩⟩⟩⟩⟩⟩⟩⟩⟩⟩⟩⟩⟩
theorem lw_p64 : lw_okq (⟨"NinthDayHooded$State", "living", "(III)I"⟩, 6) := ⟨⟨by decide +kernel, by decide +kernel⟩, List.mem_of_getElem? (i := 94) (by decide +kernel), List.mem_of_getElem? (i := 865) (by decide +kernel), List.mem_of_getElem? (i := 866) (by decide +kernel)⟩
theorem lw_p65 : lw_okq (⟨"NinthDayHooded$Wishes", "add", "(III)V"⟩, 6) := ⟨⟨by decide +kernel, by decide +kernel⟩, List.mem_of_getElem? (i := 314) (by decide +kernel), List.mem_of_getElem? (i := 874) (by decide +kernel), List.mem_of_getElem? (i := 875) (by decide +kernel)⟩
theorem lw_p66 : lw_okq (⟨"NinthDayHooded$Wishes", "metBy", "([I)I"⟩, 6) := ⟨⟨by decide +kernel, by decide +kernel⟩, List.mem_of_getElem? (i := 314) (by decide +kernel), List.mem_of_getElem? (i := 886) (by decide +kernel), List.mem_of_getElem? (i := 887) (by decide +kernel)⟩
theorem lw_p67 : lw_okq (⟨"NinthDayHooded$Wishes", "isMet", "([II)Z"⟩, 6) := ⟨⟨by decide +kernel, by decide +kernel⟩, List.mem_of_getElem? (i := 314) (by decide +kernel), List.mem_of_getElem? (i := 890) (by decide +kernel), List.mem_of_getElem? (i := 891) (by decide +kernel)⟩
theorem lw_p68 : lw_okq (⟨"NinthDayHooded$Wishes", "canAllBeMet", "(I)Z"⟩, 6) := ⟨⟨by decide +kernel, by decide +kernel⟩, List.mem_of_getElem? (i := 314) (by decide +kernel), List.mem_of_getElem? (i := 903) (by decide +kernel), List.mem_of_getElem? (i := 904) (by decide +kernel)⟩
theorem lw_p69 : lw_okq (⟨"NinthDayHooded$Wishes", "join", "(III)V"⟩, 6) := ⟨⟨by decide +kernel, by decide +kernel⟩, List.mem_of_getElem? (i := 314) (by decide +kernel), List.mem_of_getElem? (i := 907) (by decide +kernel), List.mem_of_getElem? (i := 908) (by decide +kernel)⟩
theorem lw_p70 : lw_okq (⟨"NinthDayHooded$Wishes", "fewestColours", "(I)I"⟩, 6) := ⟨⟨by decide +kernel, by decide +kernel⟩, List.mem_of_getElem? (i := 314) (by decide +kernel), List.mem_of_getElem? (i := 911) (by decide +kernel), List.mem_of_getElem? (i := 912) (by decide +kernel)⟩
theorem lw_p71 : lw_okq (⟨"NinthDayHooded$Wishes", "coloursFrom", "(IIII)Z"⟩, 6) := ⟨⟨by decide +kernel, by decide +kernel⟩, List.mem_of_getElem? (i := 314) (by decide +kernel), List.mem_of_getElem? (i := 915) (by decide +kernel), List.mem_of_getElem? (i := 916) (by decide +kernel)⟩
theorem lw_p72 : lw_okq (⟨"NinthDayHooded$Wishes", "fits", "(I)Z"⟩, 6) := ⟨⟨by decide +kernel, by decide +kernel⟩, List.mem_of_getElem? (i := 314) (by decide +kernel), List.mem_of_getElem? (i := 920) (by decide +kernel), List.mem_of_getElem? (i := 921) (by decide +kernel)⟩
theorem lw_p73 : lw_okq (⟨"NinthDayHooded", "worthOfNine", "()I"⟩, 11) := ⟨⟨by decide +kernel, by decide +kernel⟩, List.mem_of_getElem? (i := 23) (by decide +kernel), List.mem_of_getElem? (i := 929) (by decide +kernel), List.mem_of_getElem? (i := 930) (by decide +kernel)⟩
theorem lw_p74 : lw_okq (⟨"NinthDayHooded$People", "findRing", "([I)I"⟩, 5) := ⟨⟨by decide +kernel, by decide +kernel⟩, List.mem_of_getElem? (i := 62) (by decide +kernel), List.mem_of_getElem? (i := 941) (by decide +kernel), List.mem_of_getElem? (i := 942) (by decide +kernel)⟩
theorem lw_p75 : lw_okq (⟨"NinthDayHooded$People", "goesRound", "([III)Z"⟩, 5) := ⟨⟨by decide +kernel, by decide +kernel⟩, List.mem_of_getElem? (i := 62) (by decide +kernel), List.mem_of_getElem? (i := 945) (by decide +kernel), List.mem_of_getElem? (i := 946) (by decide +kernel)⟩
theorem lw_p76 : lw_okq (⟨"NinthDayHooded$People", "wants", "([III)Z"⟩, 5) := ⟨⟨by decide +kernel, by decide +kernel⟩, List.mem_of_getElem? (i := 62) (by decide +kernel), List.mem_of_getElem? (i := 949) (by decide +kernel), List.mem_of_getElem? (i := 950) (by decide +kernel)⟩
theorem lw_p77 : lw_okq (⟨"NinthDayHooded$People", "isInRing", "(II)Z"⟩, 5) := ⟨⟨by decide +kernel, by decide +kernel⟩, List.mem_of_getElem? (i := 62) (by decide +kernel), List.mem_of_getElem? (i := 953) (by decide +kernel), List.mem_of_getElem? (i := 954) (by decide +kernel)⟩
theorem lw_p78 : lw_okq (⟨"NinthDayHooded", "tellRing", "(I)V"⟩, 11) := ⟨⟨by decide +kernel, by decide +kernel⟩, List.mem_of_getElem? (i := 23) (by decide +kernel), List.mem_of_getElem? (i := 957) (by decide +kernel), List.mem_of_getElem? (i := 958) (by decide +kernel)⟩
theorem lw_p79 : lw_okq (⟨"NinthDayHooded$People", "turnRing", "([II)V"⟩, 5) := ⟨⟨by decide +kernel, by decide +kernel⟩, List.mem_of_getElem? (i := 62) (by decide +kernel), List.mem_of_getElem? (i := 965) (by decide +kernel), List.mem_of_getElem? (i := 966) (by decide +kernel)⟩
def lw_privs_5 : List (MethodName × Nat) := [(⟨"NinthDayHooded$State", "living", "(III)I"⟩, 6), (⟨"NinthDayHooded$Wishes", "add", "(III)V"⟩, 6), (⟨"NinthDayHooded$Wishes", "metBy", "([I)I"⟩, 6), (⟨"NinthDayHooded$Wishes", "isMet", "([II)Z"⟩, 6), (⟨"NinthDayHooded$Wishes", "canAllBeMet", "(I)Z"⟩, 6), (⟨"NinthDayHooded$Wishes", "join", "(III)V"⟩, 6), (⟨"NinthDayHooded$Wishes", "fewestColours", "(I)I"⟩, 6), (⟨"NinthDayHooded$Wishes", "coloursFrom", "(IIII)Z"⟩, 6), (⟨"NinthDayHooded$Wishes", "fits", "(I)Z"⟩, 6), (⟨"NinthDayHooded", "worthOfNine", "()I"⟩, 11), (⟨"NinthDayHooded$People", "findRing", "([I)I"⟩, 5), (⟨"NinthDayHooded$People", "goesRound", "([III)Z"⟩, 5), (⟨"NinthDayHooded$People", "wants", "([III)Z"⟩, 5), (⟨"NinthDayHooded$People", "isInRing", "(II)Z"⟩, 5), (⟨"NinthDayHooded", "tellRing", "(I)V"⟩, 11), (⟨"NinthDayHooded$People", "turnRing", "([II)V"⟩, 5)]
theorem lw_r5 : ∀ q ∈ lw_privs_5, lw_okq q := List.forall_mem_cons.mpr ⟨lw_p64, List.forall_mem_cons.mpr ⟨lw_p65, List.forall_mem_cons.mpr ⟨lw_p66, List.forall_mem_cons.mpr ⟨lw_p67, List.forall_mem_cons.mpr ⟨lw_p68, List.forall_mem_cons.mpr ⟨lw_p69, List.forall_mem_cons.mpr ⟨lw_p70, List.forall_mem_cons.mpr ⟨lw_p71, List.forall_mem_cons.mpr ⟨lw_p72, List.forall_mem_cons.mpr ⟨lw_p73, List.forall_mem_cons.mpr ⟨lw_p74, List.forall_mem_cons.mpr ⟨lw_p75, List.forall_mem_cons.mpr ⟨lw_p76, List.forall_mem_cons.mpr ⟨lw_p77, List.forall_mem_cons.mpr ⟨lw_p78, List.forall_mem_cons.mpr ⟨lw_p79, fun _ h => absurd h List.not_mem_nil⟩⟩⟩⟩⟩⟩⟩⟩⟩⟩⟩⟩⟩⟩⟩⟩
theorem lw_p80 : lw_okq (⟨"NinthDayHooded$People", "mostLiked", "([I)I"⟩, 5) := ⟨⟨by decide +kernel, by decide +kernel⟩, List.mem_of_getElem? (i := 62) (by decide +kernel), List.mem_of_getElem? (i := 977) (by decide +kernel), List.mem_of_getElem? (i := 978) (by decide +kernel)⟩
theorem lw_p81 : lw_okq (⟨"NinthDayHooded$People", "everyone", "()I"⟩, 5) := ⟨⟨by decide +kernel, by decide +kernel⟩, List.mem_of_getElem? (i := 62) (by decide +kernel), List.mem_of_getElem? (i := 981) (by decide +kernel), List.mem_of_getElem? (i := 982) (by decide +kernel)⟩
theorem lw_p82 : lw_okq (⟨"NinthDayHooded$Thefts", "add", "(II)V"⟩, 4) := ⟨⟨by decide +kernel, by decide +kernel⟩, List.mem_of_getElem? (i := 341) (by decide +kernel), List.mem_of_getElem? (i := 991) (by decide +kernel), List.mem_of_getElem? (i := 992) (by decide +kernel)⟩
theorem lw_p83 : lw_okq (⟨"NinthDayHooded$Thefts", "suspected", "(ILNinthDayHooded$People;LNinthDayHooded$State;)I"⟩, 4) := ⟨⟨by decide +kernel, by decide +kernel⟩, List.mem_of_getElem? (i := 341) (by decide +kernel), List.mem_of_getElem? (i := 1003) (by decide +kernel), List.mem_of_getElem? (i := 1004) (by decide +kernel)⟩
theorem lw_p84 : lw_okq (⟨"NinthDayHooded$Thefts", "leastGang", "(LNinthDayHooded$People;LNinthDayHooded$State;)I"⟩, 4) := ⟨⟨by decide +kernel, by decide +kernel⟩, List.mem_of_getElem? (i := 341) (by decide +kernel), List.mem_of_getElem? (i := 1014) (by decide +kernel), List.mem_of_getElem? (i := 1015) (by decide +kernel)⟩
theorem lw_p85 : lw_okq (⟨"NinthDayHooded$Thefts", "explainsAll", "(I)Z"⟩, 4) := ⟨⟨by decide +kernel, by decide +kernel⟩, List.mem_of_getElem? (i := 341) (by decide +kernel), List.mem_of_getElem? (i := 1021) (by decide +kernel), List.mem_of_getElem? (i := 1022) (by decide +kernel)⟩
theorem lw_p86 : lw_okq (⟨"java/lang/Throwable", "fillInStackTrace", "(I)Ljava/lang/Throwable;"⟩, 6) := ⟨⟨by decide +kernel, by decide +kernel⟩, List.mem_of_getElem? (i := 1100) (by decide +kernel), List.mem_of_getElem? (i := 1098) (by decide +kernel), List.mem_of_getElem? (i := 1099) (by decide +kernel)⟩
theorem lw_p87 : lw_okq (⟨"NinthDayHooded$State", "openLessons", "(I)I"⟩, 6) := ⟨⟨by decide +kernel, by decide +kernel⟩, List.mem_of_getElem? (i := 94) (by decide +kernel), List.mem_of_getElem? (i := 1125) (by decide +kernel), List.mem_of_getElem? (i := 1126) (by decide +kernel)⟩
theorem lw_p88 : lw_okq (⟨"NinthDayHoodedModel", "begin", "([BII)V"⟩, 61) := ⟨⟨by decide +kernel, by decide +kernel⟩, List.mem_of_getElem? (i := 1153) (by decide +kernel), List.mem_of_getElem? (i := 1363) (by decide +kernel), List.mem_of_getElem? (i := 1364) (by decide +kernel)⟩
theorem lw_p89 : lw_okq (⟨"NinthDayHoodedModel", "fine", "()Z"⟩, 61) := ⟨⟨by decide +kernel, by decide +kernel⟩, List.mem_of_getElem? (i := 1153) (by decide +kernel), List.mem_of_getElem? (i := 1367) (by decide +kernel), List.mem_of_getElem? (i := 1368) (by decide +kernel)⟩
theorem lw_p90 : lw_okq (⟨"NinthDayHoodedModel", "fault", "(I)V"⟩, 61) := ⟨⟨by decide +kernel, by decide +kernel⟩, List.mem_of_getElem? (i := 1153) (by decide +kernel), List.mem_of_getElem? (i := 1371) (by decide +kernel), List.mem_of_getElem? (i := 1372) (by decide +kernel)⟩
theorem lw_p91 : lw_okq (⟨"NinthDayHoodedModel", "readOne", "(I)V"⟩, 61) := ⟨⟨by decide +kernel, by decide +kernel⟩, List.mem_of_getElem? (i := 1153) (by decide +kernel), List.mem_of_getElem? (i := 1375) (by decide +kernel), List.mem_of_getElem? (i := 1376) (by decide +kernel)⟩
theorem lw_p92 : lw_okq (⟨"NinthDayHoodedModel", "digit", "(I)I"⟩, 61) := ⟨⟨by decide +kernel, by decide +kernel⟩, List.mem_of_getElem? (i := 1153) (by decide +kernel), List.mem_of_getElem? (i := 1379) (by decide +kernel), List.mem_of_getElem? (i := 1380) (by decide +kernel)⟩
theorem lw_p93 : lw_okq (⟨"NinthDayHoodedModel", "here", "()I"⟩, 61) := ⟨⟨by decide +kernel, by decide +kernel⟩, List.mem_of_getElem? (i := 1153) (by decide +kernel), List.mem_of_getElem? (i := 1383) (by decide +kernel), List.mem_of_getElem? (i := 1384) (by decide +kernel)⟩
theorem lw_p94 : lw_okq (⟨"NinthDayHoodedModel", "passes", "(C)Z"⟩, 61) := ⟨⟨by decide +kernel, by decide +kernel⟩, List.mem_of_getElem? (i := 1153) (by decide +kernel), List.mem_of_getElem? (i := 1387) (by decide +kernel), List.mem_of_getElem? (i := 1388) (by decide +kernel)⟩
theorem lw_p95 : lw_okq (⟨"NinthDayHoodedModel", "come", "(III)V"⟩, 61) := ⟨⟨by decide +kernel, by decide +kernel⟩, List.mem_of_getElem? (i := 1153) (by decide +kernel), List.mem_of_getElem? (i := 1391) (by decide +kernel), List.mem_of_getElem? (i := 1392) (by decide +kernel)⟩
def lw_privs_6 : List (MethodName × Nat) := [(⟨"NinthDayHooded$People", "mostLiked", "([I)I"⟩, 5), (⟨"NinthDayHooded$People", "everyone", "()I"⟩, 5), (⟨"NinthDayHooded$Thefts", "add", "(II)V"⟩, 4), (⟨"NinthDayHooded$Thefts", "suspected", "(ILNinthDayHooded$People;LNinthDayHooded$State;)I"⟩, 4), (⟨"NinthDayHooded$Thefts", "leastGang", "(LNinthDayHooded$People;LNinthDayHooded$State;)I"⟩, 4), (⟨"NinthDayHooded$Thefts", "explainsAll", "(I)Z"⟩, 4), (⟨"java/lang/Throwable", "fillInStackTrace", "(I)Ljava/lang/Throwable;"⟩, 6), (⟨"NinthDayHooded$State", "openLessons", "(I)I"⟩, 6), (⟨"NinthDayHoodedModel", "begin", "([BII)V"⟩, 61), (⟨"NinthDayHoodedModel", "fine", "()Z"⟩, 61), (⟨"NinthDayHoodedModel", "fault", "(I)V"⟩, 61), (⟨"NinthDayHoodedModel", "readOne", "(I)V"⟩, 61), (⟨"NinthDayHoodedModel", "digit", "(I)I"⟩, 61), (⟨"NinthDayHoodedModel", "here", "()I"⟩, 61), (⟨"NinthDayHoodedModel", "passes", "(C)Z"⟩, 61), (⟨"NinthDayHoodedModel", "come", "(III)V"⟩, 61)]
theorem lw_r6 : ∀ q ∈ lw_privs_6, lw_okq q := List.forall_mem_cons.mpr ⟨lw_p80, List.forall_mem_cons.mpr ⟨lw_p81, List.forall_mem_cons.mpr ⟨lw_p82, List.forall_mem_cons.mpr ⟨lw_p83, List.forall_mem_cons.mpr ⟨lw_p84, List.forall_mem_cons.mpr ⟨lw_p85, List.forall_mem_cons.mpr ⟨lw_p86, List.forall_mem_cons.mpr ⟨lw_p87, List.forall_mem_cons.mpr ⟨lw_p88, List.forall_mem_cons.mpr ⟨lw_p89, List.forall_mem_cons.mpr ⟨lw_p90, List.forall_mem_cons.mpr ⟨lw_p91, List.forall_mem_cons.mpr ⟨lw_p92, List.forall_mem_cons.mpr ⟨lw_p93, List.forall_mem_cons.mpr ⟨lw_p94, List.forall_mem_cons.mpr ⟨lw_p95, fun _ h => absurd h List.not_mem_nil⟩⟩⟩⟩⟩⟩⟩⟩⟩⟩⟩⟩⟩⟩⟩⟩
theorem lw_p96 : lw_okq (⟨"NinthDayHoodedModel", "isOne", "(I)Z"⟩, 61) := ⟨⟨by decide +kernel, by decide +kernel⟩, List.mem_of_getElem? (i := 1153) (by decide +kernel), List.mem_of_getElem? (i := 1399) (by decide +kernel), List.mem_of_getElem? (i := 1400) (by decide +kernel)⟩
theorem lw_p97 : lw_okq (⟨"NinthDayHoodedModel", "areDigits", "(I)Z"⟩, 61) := ⟨⟨by decide +kernel, by decide +kernel⟩, List.mem_of_getElem? (i := 1153) (by decide +kernel), List.mem_of_getElem? (i := 1403) (by decide +kernel), List.mem_of_getElem? (i := 1404) (by decide +kernel)⟩
theorem lw_p98 : lw_okq (⟨"NinthDayHoodedModel", "held", "(I)I"⟩, 61) := ⟨⟨by decide +kernel, by decide +kernel⟩, List.mem_of_getElem? (i := 1153) (by decide +kernel), List.mem_of_getElem? (i := 1415) (by decide +kernel), List.mem_of_getElem? (i := 1416) (by decide +kernel)⟩
theorem lw_p99 : lw_okq (⟨"NinthDayHoodedModel", "sum", "(I)I"⟩, 61) := ⟨⟨by decide +kernel, by decide +kernel⟩, List.mem_of_getElem? (i := 1153) (by decide +kernel), List.mem_of_getElem? (i := 1419) (by decide +kernel), List.mem_of_getElem? (i := 1420) (by decide +kernel)⟩
theorem lw_p100 : lw_okq (⟨"NinthDayHoodedModel", "product", "(I)I"⟩, 61) := ⟨⟨by decide +kernel, by decide +kernel⟩, List.mem_of_getElem? (i := 1153) (by decide +kernel), List.mem_of_getElem? (i := 1423) (by decide +kernel), List.mem_of_getElem? (i := 1424) (by decide +kernel)⟩
theorem lw_p101 : lw_okq (⟨"NinthDayHoodedModel", "thing", "(I)I"⟩, 61) := ⟨⟨by decide +kernel, by decide +kernel⟩, List.mem_of_getElem? (i := 1153) (by decide +kernel), List.mem_of_getElem? (i := 1427) (by decide +kernel), List.mem_of_getElem? (i := 1428) (by decide +kernel)⟩
theorem lw_p102 : lw_okq (⟨"NinthDayHoodedModel", "need", "(C)V"⟩, 61) := ⟨⟨by decide +kernel, by decide +kernel⟩, List.mem_of_getElem? (i := 1153) (by decide +kernel), List.mem_of_getElem? (i := 1431) (by decide +kernel), List.mem_of_getElem? (i := 1432) (by decide +kernel)⟩
theorem lw_p103 : lw_okq (⟨"NinthDayHoodedModel", "valueOf", "(I[I)I"⟩, 61) := ⟨⟨by decide +kernel, by decide +kernel⟩, List.mem_of_getElem? (i := 1153) (by decide +kernel), List.mem_of_getElem? (i := 1435) (by decide +kernel), List.mem_of_getElem? (i := 1436) (by decide +kernel)⟩
theorem lw_p104 : lw_okq (⟨"NinthDayHoodedModel", "lost", "()I"⟩, 61) := ⟨⟨by decide +kernel, by decide +kernel⟩, List.mem_of_getElem? (i := 1153) (by decide +kernel), List.mem_of_getElem? (i := 1449) (by decide +kernel), List.mem_of_getElem? (i := 1450) (by decide +kernel)⟩
theorem lw_p105 : lw_okq (⟨"NinthDayHoodedModel", "areTwo", "(II)Z"⟩, 61) := ⟨⟨by decide +kernel, by decide +kernel⟩, List.mem_of_getElem? (i := 1153) (by decide +kernel), List.mem_of_getElem? (i := 1460) (by decide +kernel), List.mem_of_getElem? (i := 1461) (by decide +kernel)⟩
theorem lw_p106 : lw_okq (⟨"NinthDayHoodedModel", "costOf", "([IIII)I"⟩, 61) := ⟨⟨by decide +kernel, by decide +kernel⟩, List.mem_of_getElem? (i := 1153) (by decide +kernel), List.mem_of_getElem? (i := 1481) (by decide +kernel), List.mem_of_getElem? (i := 1482) (by decide +kernel)⟩
theorem lw_p107 : lw_okq (⟨"NinthDayHoodedModel", "findGuides", "([II)V"⟩, 61) := ⟨⟨by decide +kernel, by decide +kernel⟩, List.mem_of_getElem? (i := 1153) (by decide +kernel), List.mem_of_getElem? (i := 1489) (by decide +kernel), List.mem_of_getElem? (i := 1490) (by decide +kernel)⟩
theorem lw_p108 : lw_okq (⟨"NinthDayHoodedModel", "hoodedOn", "([II)I"⟩, 61) := ⟨⟨by decide +kernel, by decide +kernel⟩, List.mem_of_getElem? (i := 1153) (by decide +kernel), List.mem_of_getElem? (i := 1493) (by decide +kernel), List.mem_of_getElem? (i := 1494) (by decide +kernel)⟩
theorem lw_p109 : lw_okq (⟨"NinthDayHoodedModel", "goGuide", "([IIII)V"⟩, 61) := ⟨⟨by decide +kernel, by decide +kernel⟩, List.mem_of_getElem? (i := 1153) (by decide +kernel), List.mem_of_getElem? (i := 1498) (by decide +kernel), List.mem_of_getElem? (i := 1499) (by decide +kernel)⟩
theorem lw_p110 : lw_okq (⟨"NinthDayHoodedModel", "tell", "(I)V"⟩, 61) := ⟨⟨by decide +kernel, by decide +kernel⟩, List.mem_of_getElem? (i := 1153) (by decide +kernel), List.mem_of_getElem? (i := 1502) (by decide +kernel), List.mem_of_getElem? (i := 1503) (by decide +kernel)⟩
theorem lw_p111 : lw_okq (⟨"NinthDayHoodedModel", "remember", "([I)V"⟩, 61) := ⟨⟨by decide +kernel, by decide +kernel⟩, List.mem_of_getElem? (i := 1153) (by decide +kernel), List.mem_of_getElem? (i := 1518) (by decide +kernel), List.mem_of_getElem? (i := 1519) (by decide +kernel)⟩
def lw_privs_7 : List (MethodName × Nat) := [(⟨"NinthDayHoodedModel", "isOne", "(I)Z"⟩, 61), (⟨"NinthDayHoodedModel", "areDigits", "(I)Z"⟩, 61), (⟨"NinthDayHoodedModel", "held", "(I)I"⟩, 61), (⟨"NinthDayHoodedModel", "sum", "(I)I"⟩, 61), (⟨"NinthDayHoodedModel", "product", "(I)I"⟩, 61), (⟨"NinthDayHoodedModel", "thing", "(I)I"⟩, 61), (⟨"NinthDayHoodedModel", "need", "(C)V"⟩, 61), (⟨"NinthDayHoodedModel", "valueOf", "(I[I)I"⟩, 61), (⟨"NinthDayHoodedModel", "lost", "()I"⟩, 61), (⟨"NinthDayHoodedModel", "areTwo", "(II)Z"⟩, 61), (⟨"NinthDayHoodedModel", "costOf", "([IIII)I"⟩, 61), (⟨"NinthDayHoodedModel", "findGuides", "([II)V"⟩, 61), (⟨"NinthDayHoodedModel", "hoodedOn", "([II)I"⟩, 61), (⟨"NinthDayHoodedModel", "goGuide", "([IIII)V"⟩, 61), (⟨"NinthDayHoodedModel", "tell", "(I)V"⟩, 61), (⟨"NinthDayHoodedModel", "remember", "([I)V"⟩, 61)]
theorem lw_r7 : ∀ q ∈ lw_privs_7, lw_okq q := List.forall_mem_cons.mpr ⟨lw_p96, List.forall_mem_cons.mpr ⟨lw_p97, List.forall_mem_cons.mpr ⟨lw_p98, List.forall_mem_cons.mpr ⟨lw_p99, List.forall_mem_cons.mpr ⟨lw_p100, List.forall_mem_cons.mpr ⟨lw_p101, List.forall_mem_cons.mpr ⟨lw_p102, List.forall_mem_cons.mpr ⟨lw_p103, List.forall_mem_cons.mpr ⟨lw_p104, List.forall_mem_cons.mpr ⟨lw_p105, List.forall_mem_cons.mpr ⟨lw_p106, List.forall_mem_cons.mpr ⟨lw_p107, List.forall_mem_cons.mpr ⟨lw_p108, List.forall_mem_cons.mpr ⟨lw_p109, List.forall_mem_cons.mpr ⟨lw_p110, List.forall_mem_cons.mpr ⟨lw_p111, fun _ h => absurd h List.not_mem_nil⟩⟩⟩⟩⟩⟩⟩⟩⟩⟩⟩⟩⟩⟩⟩⟩
theorem lw_p112 : lw_okq (⟨"NinthDayHoodedModel", "goDay", "([I)V"⟩, 61) := ⟨⟨by decide +kernel, by decide +kernel⟩, List.mem_of_getElem? (i := 1153) (by decide +kernel), List.mem_of_getElem? (i := 1525) (by decide +kernel), List.mem_of_getElem? (i := 1526) (by decide +kernel)⟩
theorem lw_p113 : lw_okq (⟨"NinthDayHoodedModel", "learn", "([III)V"⟩, 61) := ⟨⟨by decide +kernel, by decide +kernel⟩, List.mem_of_getElem? (i := 1153) (by decide +kernel), List.mem_of_getElem? (i := 1529) (by decide +kernel), List.mem_of_getElem? (i := 1530) (by decide +kernel)⟩
theorem lw_p114 : lw_okq (⟨"NinthDayHoodedModel", "readAct", "(I)V"⟩, 61) := ⟨⟨by decide +kernel, by decide +kernel⟩, List.mem_of_getElem? (i := 1153) (by decide +kernel), List.mem_of_getElem? (i := 1545) (by decide +kernel), List.mem_of_getElem? (i := 1546) (by decide +kernel)⟩
theorem lw_p115 : lw_okq (⟨"NinthDayHoodedModel", "letter", "()I"⟩, 61) := ⟨⟨by decide +kernel, by decide +kernel⟩, List.mem_of_getElem? (i := 1153) (by decide +kernel), List.mem_of_getElem? (i := 1549) (by decide +kernel), List.mem_of_getElem? (i := 1550) (by decide +kernel)⟩
theorem lw_p116 : lw_okq (⟨"NinthDayHoodedModel", "act", "(I)Z"⟩, 61) := ⟨⟨by decide +kernel, by decide +kernel⟩, List.mem_of_getElem? (i := 1153) (by decide +kernel), List.mem_of_getElem? (i := 1553) (by decide +kernel), List.mem_of_getElem? (i := 1554) (by decide +kernel)⟩
theorem lw_p117 : lw_okq (⟨"NinthDayHoodedModel", "lineOf", "(II)I"⟩, 61) := ⟨⟨by decide +kernel, by decide +kernel⟩, List.mem_of_getElem? (i := 1153) (by decide +kernel), List.mem_of_getElem? (i := 1568) (by decide +kernel), List.mem_of_getElem? (i := 1569) (by decide +kernel)⟩
theorem lw_p118 : lw_okq (⟨"NinthDayHoodedModel", "ask", "()V"⟩, 61) := ⟨⟨by decide +kernel, by decide +kernel⟩, List.mem_of_getElem? (i := 1153) (by decide +kernel), List.mem_of_getElem? (i := 1599) (by decide +kernel), List.mem_of_getElem? (i := 1600) (by decide +kernel)⟩
theorem lw_p119 : lw_okq (⟨"NinthDayHoodedModel", "wanting", "(I)I"⟩, 61) := ⟨⟨by decide +kernel, by decide +kernel⟩, List.mem_of_getElem? (i := 1153) (by decide +kernel), List.mem_of_getElem? (i := 1603) (by decide +kernel), List.mem_of_getElem? (i := 1604) (by decide +kernel)⟩
theorem lw_p120 : lw_okq (⟨"NinthDayHoodedModel", "place", "(I)Z"⟩, 61) := ⟨⟨by decide +kernel, by decide +kernel⟩, List.mem_of_getElem? (i := 1153) (by decide +kernel), List.mem_of_getElem? (i := 1607) (by decide +kernel), List.mem_of_getElem? (i := 1608) (by decide +kernel)⟩
theorem lw_p121 : lw_okq (⟨"NinthDayHoodedModel", "tellMends", "()I"⟩, 61) := ⟨⟨by decide +kernel, by decide +kernel⟩, List.mem_of_getElem? (i := 1153) (by decide +kernel), List.mem_of_getElem? (i := 1623) (by decide +kernel), List.mem_of_getElem? (i := 1624) (by decide +kernel)⟩
theorem lw_p122 : lw_okq (⟨"NinthDayHoodedModel", "findMends", "()I"⟩, 61) := ⟨⟨by decide +kernel, by decide +kernel⟩, List.mem_of_getElem? (i := 1153) (by decide +kernel), List.mem_of_getElem? (i := 1627) (by decide +kernel), List.mem_of_getElem? (i := 1628) (by decide +kernel)⟩
theorem lw_p123 : lw_okq (⟨"NinthDayHoodedModel", "allWanting", "()I"⟩, 61) := ⟨⟨by decide +kernel, by decide +kernel⟩, List.mem_of_getElem? (i := 1153) (by decide +kernel), List.mem_of_getElem? (i := 1631) (by decide +kernel), List.mem_of_getElem? (i := 1632) (by decide +kernel)⟩
theorem lw_p124 : lw_okq (⟨"NinthDayHoodedModel", "mendsWith", "(I)Z"⟩, 61) := ⟨⟨by decide +kernel, by decide +kernel⟩, List.mem_of_getElem? (i := 1153) (by decide +kernel), List.mem_of_getElem? (i := 1635) (by decide +kernel), List.mem_of_getElem? (i := 1636) (by decide +kernel)⟩
theorem lw_p125 : lw_okq (⟨"NinthDayHoodedModel", "metBy", "([I)I"⟩, 61) := ⟨⟨by decide +kernel, by decide +kernel⟩, List.mem_of_getElem? (i := 1153) (by decide +kernel), List.mem_of_getElem? (i := 1671) (by decide +kernel), List.mem_of_getElem? (i := 1672) (by decide +kernel)⟩
theorem lw_p126 : lw_okq (⟨"NinthDayHoodedModel", "goColour", "(II)V"⟩, 61) := ⟨⟨by decide +kernel, by decide +kernel⟩, List.mem_of_getElem? (i := 1153) (by decide +kernel), List.mem_of_getElem? (i := 1683) (by decide +kernel), List.mem_of_getElem? (i := 1684) (by decide +kernel)⟩
theorem lw_p127 : lw_okq (⟨"NinthDayHoodedModel", "tellRing", "()I"⟩, 61) := ⟨⟨by decide +kernel, by decide +kernel⟩, List.mem_of_getElem? (i := 1153) (by decide +kernel), List.mem_of_getElem? (i := 1699) (by decide +kernel), List.mem_of_getElem? (i := 1700) (by decide +kernel)⟩
def lw_privs_8 : List (MethodName × Nat) := [(⟨"NinthDayHoodedModel", "goDay", "([I)V"⟩, 61), (⟨"NinthDayHoodedModel", "learn", "([III)V"⟩, 61), (⟨"NinthDayHoodedModel", "readAct", "(I)V"⟩, 61), (⟨"NinthDayHoodedModel", "letter", "()I"⟩, 61), (⟨"NinthDayHoodedModel", "act", "(I)Z"⟩, 61), (⟨"NinthDayHoodedModel", "lineOf", "(II)I"⟩, 61), (⟨"NinthDayHoodedModel", "ask", "()V"⟩, 61), (⟨"NinthDayHoodedModel", "wanting", "(I)I"⟩, 61), (⟨"NinthDayHoodedModel", "place", "(I)Z"⟩, 61), (⟨"NinthDayHoodedModel", "tellMends", "()I"⟩, 61), (⟨"NinthDayHoodedModel", "findMends", "()I"⟩, 61), (⟨"NinthDayHoodedModel", "allWanting", "()I"⟩, 61), (⟨"NinthDayHoodedModel", "mendsWith", "(I)Z"⟩, 61), (⟨"NinthDayHoodedModel", "metBy", "([I)I"⟩, 61), (⟨"NinthDayHoodedModel", "goColour", "(II)V"⟩, 61), (⟨"NinthDayHoodedModel", "tellRing", "()I"⟩, 61)]
theorem lw_r8 : ∀ q ∈ lw_privs_8, lw_okq q := List.forall_mem_cons.mpr ⟨lw_p112, List.forall_mem_cons.mpr ⟨lw_p113, List.forall_mem_cons.mpr ⟨lw_p114, List.forall_mem_cons.mpr ⟨lw_p115, List.forall_mem_cons.mpr ⟨lw_p116, List.forall_mem_cons.mpr ⟨lw_p117, List.forall_mem_cons.mpr ⟨lw_p118, List.forall_mem_cons.mpr ⟨lw_p119, List.forall_mem_cons.mpr ⟨lw_p120, List.forall_mem_cons.mpr ⟨lw_p121, List.forall_mem_cons.mpr ⟨lw_p122, List.forall_mem_cons.mpr ⟨lw_p123, List.forall_mem_cons.mpr ⟨lw_p124, List.forall_mem_cons.mpr ⟨lw_p125, List.forall_mem_cons.mpr ⟨lw_p126, List.forall_mem_cons.mpr ⟨lw_p127, fun _ h => absurd h List.not_mem_nil⟩⟩⟩⟩⟩⟩⟩⟩⟩⟩⟩⟩⟩⟩⟩⟩
theorem lw_p128 : lw_okq (⟨"NinthDayHoodedModel", "findRing", "([I)Z"⟩, 61) := ⟨⟨by decide +kernel, by decide +kernel⟩, List.mem_of_getElem? (i := 1153) (by decide +kernel), List.mem_of_getElem? (i := 1703) (by decide +kernel), List.mem_of_getElem? (i := 1704) (by decide +kernel)⟩
theorem lw_p129 : lw_okq (⟨"NinthDayHoodedModel", "goRing", "([III)Z"⟩, 61) := ⟨⟨by decide +kernel, by decide +kernel⟩, List.mem_of_getElem? (i := 1153) (by decide +kernel), List.mem_of_getElem? (i := 1707) (by decide +kernel), List.mem_of_getElem? (i := 1708) (by decide +kernel)⟩
theorem lw_p130 : lw_okq (⟨"NinthDayHoodedModel", "wants", "([III)Z"⟩, 61) := ⟨⟨by decide +kernel, by decide +kernel⟩, List.mem_of_getElem? (i := 1153) (by decide +kernel), List.mem_of_getElem? (i := 1711) (by decide +kernel), List.mem_of_getElem? (i := 1712) (by decide +kernel)⟩
theorem lw_p131 : lw_okq (⟨"NinthDayHoodedModel", "turnRing", "([I)V"⟩, 61) := ⟨⟨by decide +kernel, by decide +kernel⟩, List.mem_of_getElem? (i := 1153) (by decide +kernel), List.mem_of_getElem? (i := 1719) (by decide +kernel), List.mem_of_getElem? (i := 1720) (by decide +kernel)⟩
theorem lw_p132 : lw_okq (⟨"NinthDayHoodedModel", "suspectsOf", "(I)I"⟩, 61) := ⟨⟨by decide +kernel, by decide +kernel⟩, List.mem_of_getElem? (i := 1153) (by decide +kernel), List.mem_of_getElem? (i := 1743) (by decide +kernel), List.mem_of_getElem? (i := 1744) (by decide +kernel)⟩
theorem lw_p133 : lw_okq (⟨"NinthDayHoodedModel", "witnesses", "(II)I"⟩, 61) := ⟨⟨by decide +kernel, by decide +kernel⟩, List.mem_of_getElem? (i := 1153) (by decide +kernel), List.mem_of_getElem? (i := 1755) (by decide +kernel), List.mem_of_getElem? (i := 1756) (by decide +kernel)⟩
def lw_privs_9 : List (MethodName × Nat) := [(⟨"NinthDayHoodedModel", "findRing", "([I)Z"⟩, 61), (⟨"NinthDayHoodedModel", "goRing", "([III)Z"⟩, 61), (⟨"NinthDayHoodedModel", "wants", "([III)Z"⟩, 61), (⟨"NinthDayHoodedModel", "turnRing", "([I)V"⟩, 61), (⟨"NinthDayHoodedModel", "suspectsOf", "(I)I"⟩, 61), (⟨"NinthDayHoodedModel", "witnesses", "(II)I"⟩, 61)]
theorem lw_r9 : ∀ q ∈ lw_privs_9, lw_okq q := List.forall_mem_cons.mpr ⟨lw_p128, List.forall_mem_cons.mpr ⟨lw_p129, List.forall_mem_cons.mpr ⟨lw_p130, List.forall_mem_cons.mpr ⟨lw_p131, List.forall_mem_cons.mpr ⟨lw_p132, List.forall_mem_cons.mpr ⟨lw_p133, fun _ h => absurd h List.not_mem_nil⟩⟩⟩⟩⟩⟩
def lw_privs : List (MethodName × Nat) := lw_privs_1 ++ (lw_privs_2 ++ (lw_privs_3 ++ (lw_privs_4 ++ (lw_privs_5 ++ (lw_privs_6 ++ (lw_privs_7 ++ (lw_privs_8 ++ (lw_privs_9))))))))
def lw_tbl : List Cond := k2_sels lw_privs ++ tables_1
theorem lw_privs_ok : ∀ q ∈ lw_privs, lw_okq q := by
  show ∀ q ∈ lw_privs_1 ++ (lw_privs_2 ++ (lw_privs_3 ++ (lw_privs_4 ++ (lw_privs_5 ++ (lw_privs_6 ++ (lw_privs_7 ++ (lw_privs_8 ++ (lw_privs_9)))))))), lw_okq q
  exact List.forall_mem_append.mpr ⟨lw_r1, List.forall_mem_append.mpr ⟨lw_r2, List.forall_mem_append.mpr ⟨lw_r3, List.forall_mem_append.mpr ⟨lw_r4, List.forall_mem_append.mpr ⟨lw_r5, List.forall_mem_append.mpr ⟨lw_r6, List.forall_mem_append.mpr ⟨lw_r7, List.forall_mem_append.mpr ⟨lw_r8, lw_r9⟩⟩⟩⟩⟩⟩⟩⟩
-- ===== end of PART A; then your names; then what follows =====
end
section
def RX0 : String := "NinthDayHooded$Guides"
def TX0 : u_T := fun k => match k with
  | 0 => ("NinthDayHooded$Guides", "hooded", "[I", true)
  | 1 => ("NinthDayHooded$Guides", "best", "[I", true)
  | 2 => ("NinthDayHooded$Guides", "chosen", "[I", true)
  | 3 => ("NinthDayHooded$Guides", "leading", "[I", true)
  | 4 => ("NinthDayHooded$Guides", "prices", "[I", true)
  | 5 => ("NinthDayHooded$Guides", "atLeast", "[I", true)
  | 6 => ("NinthDayHooded$Guides", "n", "I", false)
  | 7 => ("NinthDayHooded$Guides", "crowd", "I", false)
  | _ => ("NinthDayHooded$Guides", "worth", "I", false)
def tyX0 : Nat → FieldType := fun k => match k with
  | 0 => .array .int
  | 1 => .array .int
  | 2 => .array .int
  | 3 => .array .int
  | 4 => .array .int
  | 5 => .array .int
  | 6 => .int
  | 7 => .int
  | _ => .int
theorem nmX0 : ∀ a, a < 9 → ∀ b, b < 9 → a ≠ b → (TX0 a).2.1 ≠ (TX0 b).2.1 := by decide +kernel
theorem tyX0_ok : ∀ k, k < 9 → parseFieldDescriptor (TX0 k).2.2.1 = some (tyX0 k) := by decide +kernel
def RX1 : String := "NinthDayHooded$Past"
def TX1 : u_T := fun k => match k with
  | 0 => ("NinthDayHooded$Past", "before", "[LNinthDayHooded$State;", true)
  | 1 => ("NinthDayHooded$Past", "kept", "[LNinthDayHooded$State;", true)
  | 2 => ("NinthDayHooded$Past", "keptCrowd", "[I", true)
  | 3 => ("NinthDayHooded$Past", "next", "I", false)
  | _ => ("NinthDayHooded$Past", "undos", "I", false)
def tyX1 : Nat → FieldType := fun k => match k with
  | 0 => .array (.object "NinthDayHooded$State")
  | 1 => .array (.object "NinthDayHooded$State")
  | 2 => .array .int
  | 3 => .int
  | _ => .int
theorem nmX1 : ∀ a, a < 5 → ∀ b, b < 5 → a ≠ b → (TX1 a).2.1 ≠ (TX1 b).2.1 := by decide +kernel
theorem tyX1_ok : ∀ k, k < 5 → parseFieldDescriptor (TX1 k).2.2.1 = some (tyX1 k) := by decide +kernel
def RX2 : String := "NinthDayHooded$People"
def TX2 : u_T := fun k => match k with
  | 0 => ("NinthDayHooded$People", "trust", "[I", true)
  | 1 => ("NinthDayHooded$People", "likes", "[I", true)
  | 2 => ("NinthDayHooded$People", "ring", "[I", true)
  | 3 => ("NinthDayHooded$People", "most", "[I", true)
  | _ => ("NinthDayHooded$People", "n", "I", false)
def tyX2 : Nat → FieldType := fun k => match k with
  | 0 => .array .int
  | 1 => .array .int
  | 2 => .array .int
  | 3 => .array .int
  | _ => .int
theorem nmX2 : ∀ a, a < 5 → ∀ b, b < 5 → a ≠ b → (TX2 a).2.1 ≠ (TX2 b).2.1 := by decide +kernel
theorem tyX2_ok : ∀ k, k < 5 → parseFieldDescriptor (TX2 k).2.2.1 = some (tyX2 k) := by decide +kernel
def RX3 : String := "NinthDayHooded$Row"
def TX3 : u_T := fun k => match k with
  | 0 => ("NinthDayHooded$Row", "numbers", "[I", true)
  | _ => ("NinthDayHooded$Row", "size", "I", false)
def tyX3 : Nat → FieldType := fun k => match k with
  | 0 => .array .int
  | _ => .int
theorem nmX3 : ∀ a, a < 2 → ∀ b, b < 2 → a ≠ b → (TX3 a).2.1 ≠ (TX3 b).2.1 := by decide +kernel
theorem tyX3_ok : ∀ k, k < 2 → parseFieldDescriptor (TX3 k).2.2.1 = some (tyX3 k) := by decide +kernel
def RX4 : String := "NinthDayHooded$Rule"
def TX4 : u_T := fun k => match k with
  | 0 => ("NinthDayHooded$Rule", "code", "[I", true)
  | 1 => ("NinthDayHooded$Rule", "draft", "[I", true)
  | 2 => ("NinthDayHooded$Rule", "waiting", "[I", true)
  | 3 => ("NinthDayHooded$Rule", "stack", "[I", true)
  | 4 => ("NinthDayHooded$Rule", "things", "[I", true)
  | 5 => ("NinthDayHooded$Rule", "compared", "[Z", true)
  | 6 => ("NinthDayHooded$Rule", "size", "I", false)
  | 7 => ("NinthDayHooded$Rule", "drafted", "I", false)
  | 8 => ("NinthDayHooded$Rule", "waits", "I", false)
  | 9 => ("NinthDayHooded$Rule", "depth", "I", false)
  | 10 => ("NinthDayHooded$Rule", "digits", "I", false)
  | _ => ("NinthDayHooded$Rule", "wantsThing", "Z", false)
def tyX4 : Nat → FieldType := fun k => match k with
  | 0 => .array .int
  | 1 => .array .int
  | 2 => .array .int
  | 3 => .array .int
  | 4 => .array .int
  | 5 => .array .boolean
  | 6 => .int
  | 7 => .int
  | 8 => .int
  | 9 => .int
  | 10 => .int
  | _ => .boolean
theorem nmX4 : ∀ a, a < 12 → ∀ b, b < 12 → a ≠ b → (TX4 a).2.1 ≠ (TX4 b).2.1 := by decide +kernel
theorem tyX4_ok : ∀ k, k < 12 → parseFieldDescriptor (TX4 k).2.2.1 = some (tyX4 k) := by decide +kernel
def RX5 : String := "NinthDayHooded$State"
def TX5 : u_T := fun k => match k with
  | 0 => ("NinthDayHooded$State", "hood", "[I", true)
  | 1 => ("NinthDayHooded$State", "street", "[I", true)
  | 2 => ("NinthDayHooded$State", "trades", "[I", true)
  | 3 => ("NinthDayHooded$State", "lessons", "[I", true)
  | 4 => ("NinthDayHooded$State", "book", "[J", true)
  | _ => ("NinthDayHooded$State", "now", "I", false)
def tyX5 : Nat → FieldType := fun k => match k with
  | 0 => .array .int
  | 1 => .array .int
  | 2 => .array .int
  | 3 => .array .int
  | 4 => .array .long
  | _ => .int
theorem nmX5 : ∀ a, a < 6 → ∀ b, b < 6 → a ≠ b → (TX5 a).2.1 ≠ (TX5 b).2.1 := by decide +kernel
theorem tyX5_ok : ∀ k, k < 6 → parseFieldDescriptor (TX5 k).2.2.1 = some (tyX5 k) := by decide +kernel
def RX6 : String := "NinthDayHooded$Tasks"
def TX6 : u_T := fun k => match k with
  | 0 => ("NinthDayHooded$Tasks", "trade", "[I", true)
  | 1 => ("NinthDayHooded$Tasks", "need", "[I", true)
  | 2 => ("NinthDayHooded$Tasks", "needOf", "[I", true)
  | 3 => ("NinthDayHooded$Tasks", "able", "[I", true)
  | 4 => ("NinthDayHooded$Tasks", "known", "[I", true)
  | 5 => ("NinthDayHooded$Tasks", "hooded", "[I", true)
  | 6 => ("NinthDayHooded$Tasks", "moved", "[I", true)
  | 7 => ("NinthDayHooded$Tasks", "movedTo", "[I", true)
  | 8 => ("NinthDayHooded$Tasks", "n", "I", false)
  | 9 => ("NinthDayHooded$Tasks", "crowd", "I", false)
  | _ => ("NinthDayHooded$Tasks", "wanted", "I", false)
def tyX6 : Nat → FieldType := fun k => match k with
  | 0 => .array .int
  | 1 => .array .int
  | 2 => .array .int
  | 3 => .array .int
  | 4 => .array .int
  | 5 => .array .int
  | 6 => .array .int
  | 7 => .array .int
  | 8 => .int
  | 9 => .int
  | _ => .int
theorem nmX6 : ∀ a, a < 11 → ∀ b, b < 11 → a ≠ b → (TX6 a).2.1 ≠ (TX6 b).2.1 := by decide +kernel
theorem tyX6_ok : ∀ k, k < 11 → parseFieldDescriptor (TX6 k).2.2.1 = some (tyX6 k) := by decide +kernel
def RX7 : String := "NinthDayHooded$Text"
def TX7 : u_T := fun k => match k with
  | 0 => ("NinthDayHooded$Text", "signs", "[I", true)
  | _ => ("NinthDayHooded$Text", "length", "I", false)
def tyX7 : Nat → FieldType := fun k => match k with
  | 0 => .array .int
  | _ => .int
theorem nmX7 : ∀ a, a < 2 → ∀ b, b < 2 → a ≠ b → (TX7 a).2.1 ≠ (TX7 b).2.1 := by decide +kernel
theorem tyX7_ok : ∀ k, k < 2 → parseFieldDescriptor (TX7 k).2.2.1 = some (tyX7 k) := by decide +kernel
def RX8 : String := "NinthDayHooded$Thefts"
def TX8 : u_T := fun k => match k with
  | 0 => ("NinthDayHooded$Thefts", "robbed", "[I", true)
  | 1 => ("NinthDayHooded$Thefts", "when", "[I", true)
  | 2 => ("NinthDayHooded$Thefts", "who", "[I", true)
  | _ => ("NinthDayHooded$Thefts", "n", "I", false)
def tyX8 : Nat → FieldType := fun k => match k with
  | 0 => .array .int
  | 1 => .array .int
  | 2 => .array .int
  | _ => .int
theorem nmX8 : ∀ a, a < 4 → ∀ b, b < 4 → a ≠ b → (TX8 a).2.1 ≠ (TX8 b).2.1 := by decide +kernel
theorem tyX8_ok : ∀ k, k < 4 → parseFieldDescriptor (TX8 k).2.2.1 = some (tyX8 k) := by decide +kernel
def RX9 : String := "NinthDayHooded$Walk"
def TX9 : u_T := fun k => match k with
  | 0 => ("NinthDayHooded$Walk", "guides", "LNinthDayHooded$Guides;", true)
  | 1 => ("NinthDayHooded$Walk", "leadings", "[I", true)
  | 2 => ("NinthDayHooded$Walk", "led", "I", false)
  | 3 => ("NinthDayHooded$Walk", "price", "I", false)
  | _ => ("NinthDayHooded$Walk", "learnt", "I", false)
def tyX9 : Nat → FieldType := fun k => match k with
  | 0 => .object "NinthDayHooded$Guides"
  | 1 => .array .int
  | 2 => .int
  | 3 => .int
  | _ => .int
theorem nmX9 : ∀ a, a < 5 → ∀ b, b < 5 → a ≠ b → (TX9 a).2.1 ≠ (TX9 b).2.1 := by decide +kernel
theorem tyX9_ok : ∀ k, k < 5 → parseFieldDescriptor (TX9 k).2.2.1 = some (tyX9 k) := by decide +kernel
def RX10 : String := "NinthDayHooded$Wishes"
def TX10 : u_T := fun k => match k with
  | 0 => ("NinthDayHooded$Wishes", "one", "[I", true)
  | 1 => ("NinthDayHooded$Wishes", "other", "[I", true)
  | 2 => ("NinthDayHooded$Wishes", "same", "[I", true)
  | 3 => ("NinthDayHooded$Wishes", "colour", "[I", true)
  | 4 => ("NinthDayHooded$Wishes", "kin", "[I", true)
  | _ => ("NinthDayHooded$Wishes", "n", "I", false)
def tyX10 : Nat → FieldType := fun k => match k with
  | 0 => .array .int
  | 1 => .array .int
  | 2 => .array .int
  | 3 => .array .int
  | 4 => .array .int
  | _ => .int
theorem nmX10 : ∀ a, a < 6 → ∀ b, b < 6 → a ≠ b → (TX10 a).2.1 ≠ (TX10 b).2.1 := by decide +kernel
theorem tyX10_ok : ∀ k, k < 6 → parseFieldDescriptor (TX10 k).2.2.1 = some (tyX10 k) := by decide +kernel
def RX11 : String := "NinthDayHooded"
def TX11 : u_T := fun k => match k with
  | 0 => ("NinthDayHooded", "text", "LNinthDayHooded$Text;", true)
  | 1 => ("NinthDayHooded", "row", "LNinthDayHooded$Row;", true)
  | 2 => ("NinthDayHooded", "people", "LNinthDayHooded$People;", true)
  | 3 => ("NinthDayHooded", "state", "LNinthDayHooded$State;", true)
  | 4 => ("NinthDayHooded", "sketch", "LNinthDayHooded$State;", true)
  | 5 => ("NinthDayHooded", "past", "LNinthDayHooded$Past;", true)
  | 6 => ("NinthDayHooded", "rule", "LNinthDayHooded$Rule;", true)
  | 7 => ("NinthDayHooded", "walk", "LNinthDayHooded$Walk;", true)
  | 8 => ("NinthDayHooded", "tasks", "LNinthDayHooded$Tasks;", true)
  | 9 => ("NinthDayHooded", "wishes", "LNinthDayHooded$Wishes;", true)
  | _ => ("NinthDayHooded", "thefts", "LNinthDayHooded$Thefts;", true)
def tyX11 : Nat → FieldType := fun k => match k with
  | 0 => .object "NinthDayHooded$Text"
  | 1 => .object "NinthDayHooded$Row"
  | 2 => .object "NinthDayHooded$People"
  | 3 => .object "NinthDayHooded$State"
  | 4 => .object "NinthDayHooded$State"
  | 5 => .object "NinthDayHooded$Past"
  | 6 => .object "NinthDayHooded$Rule"
  | 7 => .object "NinthDayHooded$Walk"
  | 8 => .object "NinthDayHooded$Tasks"
  | 9 => .object "NinthDayHooded$Wishes"
  | _ => .object "NinthDayHooded$Thefts"
theorem nmX11 : ∀ a, a < 11 → ∀ b, b < 11 → a ≠ b → (TX11 a).2.1 ≠ (TX11 b).2.1 := by decide +kernel
theorem tyX11_ok : ∀ k, k < 11 → parseFieldDescriptor (TX11 k).2.2.1 = some (tyX11 k) := by decide +kernel
def RX12 : String := "NinthDayHoodedModel"
def TX12 : u_T := fun k => match k with
  | 0 => ("NinthDayHoodedModel", "now", "[I", true)
  | 1 => ("NinthDayHoodedModel", "people", "I", false)
  | 2 => ("NinthDayHoodedModel", "trust", "[I", true)
  | 3 => ("NinthDayHoodedModel", "likes", "[I", true)
  | 4 => ("NinthDayHoodedModel", "text", "[B", true)
  | 5 => ("NinthDayHoodedModel", "typed", "I", false)
  | 6 => ("NinthDayHoodedModel", "row", "[I", true)
  | 7 => ("NinthDayHoodedModel", "rowMany", "I", false)
  | 8 => ("NinthDayHoodedModel", "thrown", "I", false)
  | 9 => ("NinthDayHoodedModel", "read", "[B", false)
  | 10 => ("NinthDayHoodedModel", "length", "I", false)
  | 11 => ("NinthDayHoodedModel", "top", "I", false)
  | 12 => ("NinthDayHoodedModel", "at", "I", false)
  | 13 => ("NinthDayHoodedModel", "wrong", "I", false)
  | 14 => ("NinthDayHoodedModel", "comes", "[I", true)
  | 15 => ("NinthDayHoodedModel", "rule", "[B", true)
  | 16 => ("NinthDayHoodedModel", "ruleSize", "I", false)
  | 17 => ("NinthDayHoodedModel", "askedState", "[I", false)
  | 18 => ("NinthDayHoodedModel", "askedOne", "I", false)
  | 19 => ("NinthDayHoodedModel", "askedGuide", "I", false)
  | 20 => ("NinthDayHoodedModel", "askedDay", "I", false)
  | 21 => ("NinthDayHoodedModel", "guide", "[I", true)
  | 22 => ("NinthDayHoodedModel", "bestGuide", "[I", true)
  | 23 => ("NinthDayHoodedModel", "leadsNow", "[I", true)
  | 24 => ("NinthDayHoodedModel", "costs", "[I", true)
  | 25 => ("NinthDayHoodedModel", "hooded", "I", false)
  | 26 => ("NinthDayHoodedModel", "leastAlone", "I", false)
  | 27 => ("NinthDayHoodedModel", "leastCost", "I", false)
  | 28 => ("NinthDayHoodedModel", "ledNow", "I", false)
  | 29 => ("NinthDayHoodedModel", "learnt", "I", false)
  | 30 => ("NinthDayHoodedModel", "undos", "[I", true)
  | 31 => ("NinthDayHoodedModel", "undoMany", "I", false)
  | 32 => ("NinthDayHoodedModel", "aside", "[I", true)
  | 33 => ("NinthDayHoodedModel", "acts", "[I", true)
  | 34 => ("NinthDayHoodedModel", "seasonLed", "I", false)
  | 35 => ("NinthDayHoodedModel", "counts", "[I", true)
  | 36 => ("NinthDayHoodedModel", "then", "[I", true)
  | 37 => ("NinthDayHoodedModel", "tasks", "[I", true)
  | 38 => ("NinthDayHoodedModel", "taskMany", "I", false)
  | 39 => ("NinthDayHoodedModel", "hoods", "[I", true)
  | 40 => ("NinthDayHoodedModel", "skills", "[I", true)
  | 41 => ("NinthDayHoodedModel", "askedMany", "I", false)
  | 42 => ("NinthDayHoodedModel", "placed", "[I", true)
  | 43 => ("NinthDayHoodedModel", "tried", "I", false)
  | 44 => ("NinthDayHoodedModel", "changed", "[I", true)
  | 45 => ("NinthDayHoodedModel", "wishes", "[I", true)
  | 46 => ("NinthDayHoodedModel", "wishMany", "I", false)
  | 47 => ("NinthDayHoodedModel", "colour", "[I", true)
  | 48 => ("NinthDayHoodedModel", "bestColour", "[I", true)
  | 49 => ("NinthDayHoodedModel", "fewestColours", "I", false)
  | 50 => ("NinthDayHoodedModel", "ring", "[I", true)
  | 51 => ("NinthDayHoodedModel", "ringMany", "I", false)
  | 52 => ("NinthDayHoodedModel", "given", "[I", true)
  | 53 => ("NinthDayHoodedModel", "thefts", "[I", true)
  | 54 => ("NinthDayHoodedModel", "theftMany", "I", false)
  | 55 => ("NinthDayHoodedModel", "seeing", "I", false)
  | 56 => ("NinthDayHoodedModel", "blind", "I", false)
  | 57 => ("NinthDayHoodedModel", "came", "I", false)
  | 58 => ("NinthDayHoodedModel", "kept", "[I", true)
  | 59 => ("NinthDayHoodedModel", "isKept", "[Z", true)
  | _ => ("NinthDayHoodedModel", "keptCame", "[I", true)
def tyX12 : Nat → FieldType := fun k => match k with
  | 0 => .array .int
  | 1 => .int
  | 2 => .array .int
  | 3 => .array .int
  | 4 => .array .byte
  | 5 => .int
  | 6 => .array .int
  | 7 => .int
  | 8 => .int
  | 9 => .array .byte
  | 10 => .int
  | 11 => .int
  | 12 => .int
  | 13 => .int
  | 14 => .array .int
  | 15 => .array .byte
  | 16 => .int
  | 17 => .array .int
  | 18 => .int
  | 19 => .int
  | 20 => .int
  | 21 => .array .int
  | 22 => .array .int
  | 23 => .array .int
  | 24 => .array .int
  | 25 => .int
  | 26 => .int
  | 27 => .int
  | 28 => .int
  | 29 => .int
  | 30 => .array .int
  | 31 => .int
  | 32 => .array .int
  | 33 => .array .int
  | 34 => .int
  | 35 => .array .int
  | 36 => .array .int
  | 37 => .array .int
  | 38 => .int
  | 39 => .array .int
  | 40 => .array .int
  | 41 => .int
  | 42 => .array .int
  | 43 => .int
  | 44 => .array .int
  | 45 => .array .int
  | 46 => .int
  | 47 => .array .int
  | 48 => .array .int
  | 49 => .int
  | 50 => .array .int
  | 51 => .int
  | 52 => .array .int
  | 53 => .array .int
  | 54 => .int
  | 55 => .int
  | 56 => .int
  | 57 => .int
  | 58 => .array .int
  | 59 => .array .boolean
  | _ => .array .int
theorem nmX12 : ∀ a, a < 61 → ∀ b, b < 61 → a ≠ b → (TX12 a).2.1 ≠ (TX12 b).2.1 := by decide +kernel
theorem tyX12_ok : ∀ k, k < 61 → parseFieldDescriptor (TX12 k).2.2.1 = some (tyX12 k) := by decide +kernel
-- own words
abbrev xe_cl : List vw_C := [(RX0, TX0, 9), (RX1, TX1, 5), (RX2, TX2, 5), (RX3, TX3, 2), (RX4, TX4, 12), (RX5, TX5, 6), (RX6, TX6, 11), (RX7, TX7, 2), (RX8, TX8, 4), (RX9, TX9, 5), (RX10, TX10, 6), (RX11, TX11, 11), (RX12, TX12, 61)]
def xe_ty (ci : Nat) : Nat → FieldType := match ci with
  | 0 => tyX0
  | 1 => tyX1
  | 2 => tyX2
  | 3 => tyX3
  | 4 => tyX4
  | 5 => tyX5
  | 6 => tyX6
  | 7 => tyX7
  | 8 => tyX8
  | 9 => tyX9
  | 10 => tyX10
  | 11 => tyX11
  | _ => tyX12
/-- the blank object of a class -/
def xe_dflt (ci : Nat) : List Value := match ci with
  | 0 => [.null, .null, .null, .null, .null, .null, .int 0, .int 0, .int 0]
  | 1 => [.null, .null, .null, .int 0, .int 0]
  | 2 => [.null, .null, .null, .null, .int 0]
  | 3 => [.null, .int 0]
  | 4 => [.null, .null, .null, .null, .null, .null, .int 0, .int 0, .int 0, .int 0, .int 0, .int 0]
  | 5 => [.null, .null, .null, .null, .null, .int 0]
  | 6 => [.null, .null, .null, .null, .null, .null, .null, .null, .int 0, .int 0, .int 0]
  | 7 => [.null, .int 0]
  | 8 => [.null, .null, .null, .int 0]
  | 9 => [.null, .null, .int 0, .int 0, .int 0]
  | 10 => [.null, .null, .null, .null, .null, .int 0]
  | 11 => [.null, .null, .null, .null, .null, .null, .null, .null, .null, .null, .null]
  | _ => [.null, .int 0, .null, .null, .null, .int 0, .null, .int 0, .int 0, .null, .int 0, .int 0, .int 0, .int 0, .null, .null, .int 0, .null, .int 0, .int 0, .int 0, .null, .null, .null, .null, .int 0, .int 0, .int 0, .int 0, .int 0, .null, .int 0, .null, .null, .int 0, .null, .null, .null, .int 0, .null, .null, .int 0, .null, .int 0, .null, .null, .int 0, .null, .null, .int 0, .null, .int 0, .null, .null, .int 0, .int 0, .int 0, .int 0, .null, .null, .null]
/-- how many places the law's own making fills, the script's among them -/
def xe_Z : Nat := 178
end
section
/-! THE PROGRAM LOGIC: an interpreter of resolved instructions over a memory of places, as a least fixed point. -/
abbrev xe_M : Type := Nat → va_E
abbrev xe_K : Type := Nat → List Value → List Value → Nat → Nat → Nat → xe_M → Prop
abbrev xe_Q : Type := Option Value → Nat → xe_M → Prop
abbrev xe_C : Type := Nat → List Value → Nat → xe_M → xe_Q → Prop
/-- a method: name, bytes, locals, answer, its class's number, kind (0 static, 1 instance, 2 constructor, 3 instance that may throw, 4 static with a table), arguments, cells, slots, resolved code, the places of its instructions -/
abbrev xe_I : Type := MethodName × ByteArray × Nat × Option FieldType × Nat × Nat × Nat × Nat × Nat × List Instr × List Nat
def xe_iy (f : xe_I) : MethodName := f.1
def xe_ib (f : xe_I) : ByteArray := f.2.1
def xe_iL (f : xe_I) : Nat := f.2.2.1
def xe_ir (f : xe_I) : Option FieldType := f.2.2.2.1
def xe_ic (f : xe_I) : Nat := f.2.2.2.2.1
def xe_ik (f : xe_I) : Nat := f.2.2.2.2.2.1
def xe_in (f : xe_I) : Nat := f.2.2.2.2.2.2.1
def xe_im (f : xe_I) : Nat := f.2.2.2.2.2.2.2.1
def xe_is (f : xe_I) : Nat := f.2.2.2.2.2.2.2.2.1
def xe_code (f : xe_I) : List Instr := f.2.2.2.2.2.2.2.2.2.1
def xe_pcs (f : xe_I) : List Nat := f.2.2.2.2.2.2.2.2.2.2
def xe_lg (v : Value) : Bool := match v with
  | .long _ => true
  | _ => false
/-- a value of one slot may be put at k -/
def xe_s1 (dl : List Value) (k : Nat) : Bool := decide (k < dl.length) && (k == 0 || !(xe_lg (dl.getD (k - 1) .null)))
def xe_s2 (dl : List Value) (k : Nat) : Bool := decide (k + 1 < dl.length) && (k == 0 || !(xe_lg (dl.getD (k - 1) .null)))
/-- an argument: an int or a reference -/
def xe_c1 (v : Value) : Bool := match v with
  | .int _ => true
  | .ref _ => true
  | _ => false
def xe_cat (r : List Value) : Nat := (r.map fun v => v.category).sum
def xe_b (c : ClassFile.Cond) (x y : Int32) : Prop := match c with
  | .eq => x = y
  | .ne => ¬ x = y
  | .lt => x < y
  | .ge => y ≤ x
  | .gt => y < x
  | .le => x ≤ y
/-- one resolved instruction: what must hold, and where it goes on -/
def xe_ins (T : List xe_I) (C : xe_C) (Q : xe_Q) (K : xe_K) (i : Nat) (dl st : List Value) (kc ks z : Nat) (M : xe_M) (ins : Instr) : Prop := match ins with
  | .sipush v => K (i + 1) dl (.int (Int32.ofInt v) :: st) kc ks z M
  | .lconst n => n = 0 ∧ K (i + 1) dl (.long 0 :: st) kc ks z M
  | .aconst_null => K (i + 1) dl (.null :: st) kc ks z M
  | .iload k => ∃ x, dl[k]? = some (.int x) ∧ K (i + 1) dl (.int x :: st) kc ks z M
  | .lload k => ∃ x, dl[k]? = some (.long x) ∧ K (i + 1) dl (.long x :: st) kc ks z M
  | .aload k => ∃ x, dl[k]? = some (.ref x) ∧ K (i + 1) dl (.ref x :: st) kc ks z M
  | .istore k => ∃ x r, st = .int x :: r ∧ xe_s1 dl k = true ∧ K (i + 1) (dl.set k (.int x)) r kc ks z M
  | .astore k => ∃ x r, st = .ref x :: r ∧ xe_s1 dl k = true ∧ K (i + 1) (dl.set k (.ref x)) r kc ks z M
  | .lstore k => ∃ x r, st = .long x :: r ∧ xe_s2 dl k = true ∧ K (i + 1) ((dl.set k (.long x)).set (k + 1) (.double 0)) r kc ks z M
  | .iinc k n => ∃ x, dl[k]? = some (.int x) ∧ xe_s1 dl k = true ∧ K (i + 1) (dl.set k (.int (x + Int32.ofInt n))) st kc ks z M
  | .iadd => ∃ x y r, st = .int y :: .int x :: r ∧ K (i + 1) dl (.int (x + y) :: r) kc ks z M
  | .isub => ∃ x y r, st = .int y :: .int x :: r ∧ K (i + 1) dl (.int (x - y) :: r) kc ks z M
  | .imul => ∃ x y r, st = .int y :: .int x :: r ∧ K (i + 1) dl (.int (x * y) :: r) kc ks z M
  | .iand => ∃ x y r, st = .int y :: .int x :: r ∧ K (i + 1) dl (.int (x &&& y) :: r) kc ks z M
  | .ior => ∃ x y r, st = .int y :: .int x :: r ∧ K (i + 1) dl (.int (x ||| y) :: r) kc ks z M
  | .ixor => ∃ x y r, st = .int y :: .int x :: r ∧ K (i + 1) dl (.int (x ^^^ y) :: r) kc ks z M
  | .idiv => ∃ x y r, st = .int y :: .int x :: r ∧ ¬ y = 0 ∧ K (i + 1) dl (.int (x / y) :: r) kc ks z M
  | .irem => ∃ x y r, st = .int y :: .int x :: r ∧ ¬ y = 0 ∧ K (i + 1) dl (.int (x - x / y * y) :: r) kc ks z M
  | .ishl => ∃ x y r, st = .int y :: .int x :: r ∧ K (i + 1) dl (.int (x <<< (y &&& 31)) :: r) kc ks z M
  | .ishr => ∃ x y r, st = .int y :: .int x :: r ∧ K (i + 1) dl (.int (x >>> (y &&& 31)) :: r) kc ks z M
  | .iushr => ∃ x y r, st = .int y :: .int x :: r ∧ K (i + 1) dl (.int (x.toUInt32 >>> (y.toUInt32 &&& Int32.toUInt32 31)).toInt32 :: r) kc ks z M
  | .ineg => ∃ x r, st = .int x :: r ∧ K (i + 1) dl (.int (-x) :: r) kc ks z M
  | .i2b => ∃ x r, st = .int x :: r ∧ K (i + 1) dl (.int x.toInt8.toInt32 :: r) kc ks z M
  | .i2s => ∃ x r, st = .int x :: r ∧ K (i + 1) dl (.int x.toInt16.toInt32 :: r) kc ks z M
  | .i2l => ∃ x r, st = .int x :: r ∧ K (i + 1) dl (.long x.toInt64 :: r) kc ks z M
  | .l2i => ∃ x r, st = .long x :: r ∧ K (i + 1) dl (.int x.toInt32 :: r) kc ks z M
  | .lor => ∃ x y r, st = .long y :: .long x :: r ∧ K (i + 1) dl (.long (x ||| y) :: r) kc ks z M
  | .lxor => ∃ x y r, st = .long y :: .long x :: r ∧ K (i + 1) dl (.long (x ^^^ y) :: r) kc ks z M
  | .lcmp => ∃ x y r, st = .long y :: .long x :: r ∧ K (i + 1) dl (.int (lg_cmp x y) :: r) kc ks z M
  | .lshl => ∃ x y r, st = .int y :: .long x :: r ∧ K (i + 1) dl (.long (x <<< (y.toInt64 &&& 63)) :: r) kc ks z M
  | .lushr => ∃ x y r, st = .int y :: .long x :: r ∧ K (i + 1) dl (.long (x.toUInt64 >>> (y.toInt64.toUInt64 &&& Int64.toUInt64 63)).toInt64 :: r) kc ks z M
  | .dup => ∃ v r, st = v :: r ∧ v.category = 1 ∧ K (i + 1) dl (v :: v :: r) kc ks z M
  | .pop => ∃ v r, st = v :: r ∧ v.category = 1 ∧ K (i + 1) dl r kc ks z M
  | .dup_x1 => ∃ v w r, st = v :: w :: r ∧ v.category = 1 ∧ w.category = 1 ∧ K (i + 1) dl (v :: w :: v :: r) kc ks z M
  | .dup2 => ∃ v w r, st = v :: w :: r ∧ v.category = 1 ∧ w.category = 1 ∧ K (i + 1) dl (v :: w :: v :: w :: r) kc ks z M
  | .goto t => K t.toNat dl st kc ks z M
  | .ifCond c t => ∃ x r, st = .int x :: r ∧ (xe_b c x 0 → K t.toNat dl r kc ks z M) ∧ (¬ xe_b c x 0 → K (i + 1) dl r kc ks z M)
  | .if_icmp c t => ∃ x y r, st = .int y :: .int x :: r ∧ (xe_b c x y → K t.toNat dl r kc ks z M) ∧ (¬ xe_b c x y → K (i + 1) dl r kc ks z M)
  | .ifnonnull t => (∃ a r, st = .ref a :: r ∧ K t.toNat dl r kc ks z M) ∨ ∃ r, st = .null :: r ∧ K (i + 1) dl r kc ks z M
  | .tableswitch d lo hi os => ∃ x r, st = .int x :: r ∧ ((x.toInt < lo ∨ hi < x.toInt) → K d.toNat dl r kc ks z M) ∧ (¬ x.toInt < lo → ¬ hi < x.toInt → ∃ t, os[(x.toInt - lo).toNat]? = some t ∧ K t.toNat dl r kc ks z M)
  | .lookupswitch d ps => ∃ x r, st = .int x :: r ∧ K (Op.lookupswitch.offset ps.toList d x.toInt).toNat dl r kc ks z M
  | .getfield n => ∃ a fs v r, st = .ref a :: r ∧ 0 < a ∧ a < z ∧ M a = .inr (n / 64, fs) ∧ fs[n % 64]? = some v ∧ K (i + 1) dl (v :: r) kc ks z M
  | .putfield n => ∃ a fs v r, st = v :: .ref a :: r ∧ 0 < a ∧ a < z ∧ M a = .inr (n / 64, fs) ∧ n % 64 < fs.length ∧ fits (xe_ty (n / 64) (n % 64)) v = true ∧ K (i + 1) dl r kc ks z (va_up M a (.inr (n / 64, fs.set (n % 64) v)))
  | .iaload => ∃ a j n f r, st = .int j :: .ref a :: r ∧ a < z ∧ M a = .inl (1, n, .inl f) ∧ vp_in j n ∧ K (i + 1) dl (.int (f j.toNatClampNeg) :: r) kc ks z M
  | .baload => ∃ a j t n f r, st = .int j :: .ref a :: r ∧ 0 < a ∧ a < z ∧ (t = 0 ∨ t = 3) ∧ M a = .inl (t, n, .inl f) ∧ vp_in j n ∧ K (i + 1) dl (.int (f j.toNatClampNeg) :: r) kc ks z M
  | .laload => ∃ a j n f r, st = .int j :: .ref a :: r ∧ 0 < a ∧ a < z ∧ M a = .inl (2, n, .inr (.inl f)) ∧ vp_in j n ∧ K (i + 1) dl (.long (f j.toNatClampNeg) :: r) kc ks z M
  | .aaload => ∃ a j n f r, st = .int j :: .ref a :: r ∧ 0 < a ∧ a < z ∧ M a = .inl (4, n, .inr (.inr (.inr (.inr f)))) ∧ vp_in j n ∧ K (i + 1) dl (va_rf (f j.toNatClampNeg) :: r) kc ks z M
  | .iastore => ∃ a j x n f r, st = .int x :: .int j :: .ref a :: r ∧ 0 < a ∧ a < z ∧ M a = .inl (1, n, .inl f) ∧ vp_in j n ∧ K (i + 1) dl r kc ks z (va_up M a (.inl (1, n, .inl (upd f j.toNatClampNeg x))))
  | .bastore => ∃ a j x t n f r, st = .int x :: .int j :: .ref a :: r ∧ 0 < a ∧ a < z ∧ ((t = 0 ∧ x.toInt8.toInt32 = x) ∨ (t = 3 ∧ (x = 0 ∨ x = 1))) ∧ M a = .inl (t, n, .inl f) ∧ vp_in j n ∧ K (i + 1) dl r kc ks z (va_up M a (.inl (t, n, .inl (upd f j.toNatClampNeg x))))
  | .lastore => ∃ a j x n f r, st = .long x :: .int j :: .ref a :: r ∧ 0 < a ∧ a < z ∧ M a = .inl (2, n, .inr (.inl f)) ∧ vp_in j n ∧ K (i + 1) dl r kc ks z (va_up M a (.inl (2, n, .inr (.inl (vp_updL f j.toNatClampNeg x)))))
  | .aastore => ∃ a j q n f fs r, st = .ref q :: .int j :: .ref a :: r ∧ 0 < a ∧ a < z ∧ 0 < q ∧ q < z ∧ M q = .inr (5, fs) ∧ M a = .inl (4, n, .inr (.inr (.inr (.inr f)))) ∧ vp_in j n ∧ K (i + 1) dl r kc ks z (va_up M a (.inl (4, n, .inr (.inr (.inr (.inr (va_up f j.toNatClampNeg (some q))))))))
  | .arraylength => ∃ a t n x r, st = .ref a :: r ∧ a < z ∧ t < 5 ∧ M a = .inl (t, n, x) ∧ (a = 0 → t = 1) ∧ K (i + 1) dl (.int (Int32.ofNat n) :: r) kc ks z M
  | .monitorenter => ∃ a0 a sp dp n n0 n1 f g r, st = .int n :: .int dp :: .ref a :: .int sp :: .ref a0 :: r ∧ 0 < a0 ∧ a0 < z ∧ 0 < a ∧ a < z ∧ xe_cat r ≤ 8 ∧ M a0 = .inl (1, n0, .inl f) ∧ M a = .inl (1, n1, .inl g) ∧ ¬ sp < 0 ∧ ¬ dp < 0 ∧ ¬ n < 0 ∧ sp.toNatClampNeg + n.toNatClampNeg ≤ n0 ∧ dp.toNatClampNeg + n.toNatClampNeg ≤ n1 ∧ xe_Z ≤ z ∧ K (i + 1) dl r kc ks z (va_up M a (.inl (1, n1, .inl (va_cpy f g sp.toNatClampNeg dp.toNatClampNeg n.toNatClampNeg))))
  | .monitorexit => ∃ a0 a sp dp n n0 n1 f g r, st = .int n :: .int dp :: .ref a :: .int sp :: .ref a0 :: r ∧ 0 < a0 ∧ a0 < z ∧ 0 < a ∧ a < z ∧ xe_cat r ≤ 8 ∧ M a0 = .inl (2, n0, .inr (.inl f)) ∧ M a = .inl (2, n1, .inr (.inl g)) ∧ ¬ sp < 0 ∧ ¬ dp < 0 ∧ ¬ n < 0 ∧ sp.toNatClampNeg + n.toNatClampNeg ≤ n0 ∧ dp.toNatClampNeg + n.toNatClampNeg ≤ n1 ∧ xe_Z ≤ z ∧ K (i + 1) dl r kc ks z (va_up M a (.inl (2, n1, .inr (.inl (va_cpy f g sp.toNatClampNeg dp.toNatClampNeg n.toNatClampNeg)))))
  | .nop => ∃ a r, st = .ref a :: r ∧ xe_cat r ≤ 8 ∧ K (i + 1) dl r kc ks z M
  | .invokevirtual g => ∃ inf As a fs r, T[g]? = some inf ∧ xe_ik inf = 1 ∧ st = As.reverse ++ .ref a :: r ∧ As.length = xe_in inf ∧ As.all xe_c1 = true ∧ 0 < a ∧ a < z ∧ M a = .inr (xe_ic inf, fs) ∧ xe_cat r ≤ 8 ∧ xe_im inf ≤ kc ∧ xe_is inf ≤ ks ∧ C g (.ref a :: As) z M (fun v z' M' => K (i + 1) dl (v.toList ++ r) (kc - xe_im inf) (ks - xe_is inf) z' M')
  | .invokespecial g => ∃ inf As a fs r, T[g]? = some inf ∧ xe_ik inf = 2 ∧ st = As.reverse ++ .ref a :: r ∧ As.length = xe_in inf ∧ As.all xe_c1 = true ∧ 0 < a ∧ a < z ∧ M a = .inr (xe_ic inf, fs) ∧ xe_cat r ≤ 8 ∧ xe_im inf ≤ kc ∧ xe_is inf ≤ ks ∧ C g (.ref a :: As) z M (fun v z' M' => K (i + 1) dl (v.toList ++ r) (kc - xe_im inf) (ks - xe_is inf) z' M')
  | .invokestatic g => ∃ inf As r, T[g]? = some inf ∧ (xe_ik inf = 0 ∨ xe_ik inf = 4) ∧ st = As.reverse ++ r ∧ As.length = xe_in inf ∧ As.all xe_c1 = true ∧ xe_cat r ≤ 8 ∧ xe_im inf ≤ kc ∧ xe_is inf ≤ ks ∧ C g As z M (fun v z' M' => K (i + 1) dl (v.toList ++ r) (kc - xe_im inf) (ks - xe_is inf) z' M')
  | .new c => ∃ r, xe_cl[c]? = some r ∧ z < xe_Z ∧ 1 ≤ kc ∧ r.2.2 ≤ ks ∧ K (i + 1) dl (.ref z :: st) (kc - 1) (ks - r.2.2) (z + 1) (va_up M z (.inr (c, xe_dflt c)))
  | .newarray t => ∃ n r, st = .int n :: r ∧ ¬ n < 0 ∧ n.toNatClampNeg ≤ 10000 ∧ z < xe_Z ∧ 1 ≤ kc ∧ n.toNatClampNeg ≤ ks ∧ K (i + 1) dl (.ref z :: r) (kc - 1) (ks - n.toNatClampNeg) (z + 1) (va_up M z (match t with | .byte => .inl (0, n.toNatClampNeg, .inl (fun _ => 0)) | .boolean => .inl (3, n.toNatClampNeg, .inl (fun _ => 0)) | .long => .inl (2, n.toNatClampNeg, .inr (.inl (fun _ => 0))) | _ => .inl (1, n.toNatClampNeg, .inl (fun _ => 0))))
  | .anewarray _ => ∃ n r, st = .int n :: r ∧ ¬ n < 0 ∧ n.toNatClampNeg ≤ 10000 ∧ z < xe_Z ∧ 1 ≤ kc ∧ n.toNatClampNeg ≤ ks ∧ K (i + 1) dl (.ref z :: r) (kc - 1) (ks - n.toNatClampNeg) (z + 1) (va_up M z (.inl (4, n.toNatClampNeg, .inr (.inr (.inr (.inr (fun _ => none)))))))
  | .invokedynamic g => ∃ inf As a fs r, T[g]? = some inf ∧ xe_ik inf = 3 ∧ st = As.reverse ++ .ref a :: r ∧ As.length = xe_in inf ∧ As.all xe_c1 = true ∧ 0 < a ∧ a < z ∧ M a = .inr (xe_ic inf, fs) ∧ xe_cat r ≤ 8 ∧ xe_im inf ≤ kc ∧ xe_is inf ≤ ks ∧ C g (.ref a :: As) z M (fun v z' M' => (v = some (.double 0) → K (i + 5) (List.replicate dl.length (.double 0)) [] (kc - xe_im inf) (ks - xe_is inf) z' M') ∧ (v ≠ some (.double 0) → K (i + 1) dl (v.toList ++ r) (kc - xe_im inf) (ks - xe_is inf) z' M'))
  | .athrow => xe_cat st ≤ 8 ∧ 1 ≤ kc ∧ 6 ≤ ks ∧ xe_Z ≤ z ∧ Q (some (.double 0)) z M
  | .ireturn => ∃ x, st = [.int x] ∧ Q (some (.int x)) z M
  | .freturn => ∃ x, st = [.int x] ∧ (x = 0 ∨ x = 1) ∧ Q (some (.int x)) z M
  | .return_ => st = [] ∧ Q none z M
  | _ => False
def xe_step (T : List xe_I) (C : xe_C) (code : List Instr) (Q : xe_Q) (K : xe_K) : xe_K := fun i dl st kc ks z M => ∃ ins, code[i]? = some ins ∧ xe_ins T C Q K i dl st kc ks z M ins
/-- from here the body comes to an end with Q -/
def xe_Ev (T : List xe_I) (C : xe_C) (code : List Instr) (Q : xe_Q) : xe_K := fun i dl st kc ks z M => ∀ X : xe_K, (∀ i dl st kc ks z M, xe_step T C code Q X i dl st kc ks z M → X i dl st kc ks z M) → X i dl st kc ks z M
def xe_entry (n : Nat) (args : List Value) : List Value := args ++ List.replicate (n - args.length) (.double 0)
/-- a call, at most d deep -/
def xe_Call (T : List xe_I) : Nat → xe_C
  | 0 => fun _ _ _ _ _ => False
  | d + 1 => fun g args z M Q => ∃ inf, T[g]? = some inf ∧ xe_Ev T (xe_Call T d) (xe_code inf) Q 0 (xe_entry (xe_iL inf) args) [] (xe_im inf) (xe_is inf) z M
/-- the places in the heap -/
def xe_ad (b base k : Nat) : Nat := match k with
  | 0 => b
  | j + 1 => base + j
def xe_v (b base : Nat) (v : Value) : Value := match v with
  | .ref k => .ref (xe_ad b base k)
  | w => w
def xe_x (b base : Nat) (x : (Nat → Int32) ⊕ (Nat → Int64) ⊕ (Nat → UInt32) ⊕ (Nat → UInt64) ⊕ (Nat → Option Nat)) : (Nat → Int32) ⊕ (Nat → Int64) ⊕ (Nat → UInt32) ⊕ (Nat → UInt64) ⊕ (Nat → Option Nat) := match x with
  | .inr (.inr (.inr (.inr f))) => .inr (.inr (.inr (.inr (fun i => (f i).map (xe_ad b base)))))
  | y => y
def xe_c (ty : Nat → ClassId) (b base : Nat) (e : va_E) : va_E := match e with
  | .inl (t, n, x) => .inl (ty t, n, xe_x b base x)
  | .inr (ci, fs) => .inr (ci, fs.map (xe_v b base))
def xe_W (ty : Nat → ClassId) (b base z : Nat) (M : xe_M) : va_W := (List.range (z - 1)).map (fun k => (base + k, xe_c ty b base (M (k + 1))))
theorem xe_W_get {ty : Nat → ClassId} {b base z : Nat} {M : xe_M} {k : Nat} (h : k + 1 < z) : (xe_W ty b base z M)[k]? = some (base + k, xe_c ty b base (M (k + 1))) := by
  unfold xe_W
  rw [List.getElem?_map, List.getElem?_range (by omega)]
  rfl
theorem xe_W_len {ty : Nat → ClassId} {b base z : Nat} {M : xe_M} : (xe_W ty b base z M).length = z - 1 := by simp [xe_W]
theorem xe_W_set {ty : Nat → ClassId} {b base z : Nat} {M : xe_M} {k : Nat} (e : va_E) : (xe_W ty b base z M).set k (base + k, xe_c ty b base e) = xe_W ty b base z (va_up M (k + 1) e) := by
  apply List.ext_getElem?
  intro j
  by_cases hj : j + 1 < z
  · rw [xe_W_get hj]
    by_cases hk : j = k
    · subst hk
      rw [List.getElem?_set_self (by rw [xe_W_len]; omega)]
      simp [va_up]
    · rw [List.getElem?_set_ne (Ne.symm hk), xe_W_get hj, va_up_ne _ _ (by omega)]
  · rw [List.getElem?_eq_none (by rw [List.length_set, xe_W_len]; omega), List.getElem?_eq_none (by rw [xe_W_len]; omega)]
theorem xe_W_push {ty : Nat → ClassId} {b base z : Nat} {M : xe_M} (hz : 1 ≤ z) (e : va_E) : xe_W ty b base z M ++ [(base + (z - 1), xe_c ty b base e)] = xe_W ty b base (z + 1) (va_up M z e) := by
  apply List.ext_getElem?
  intro j
  by_cases hj : j + 1 < z
  · rw [List.getElem?_append_left (by rw [xe_W_len]; omega), xe_W_get hj, xe_W_get (by omega), va_up_ne _ _ (by omega)]
  · by_cases hj2 : j + 1 = z
    · subst hj2
      rw [List.getElem?_append_right (by rw [xe_W_len]; omega), xe_W_get (by omega), xe_W_len]
      simp [va_up]
    · rw [List.getElem?_eq_none (by rw [List.length_append, xe_W_len]; simp; omega), List.getElem?_eq_none (by rw [xe_W_len]; omega)]
theorem xe_W_D {ty : Nat → ClassId} {b base z : Nat} {M : xe_M} : va_D (fun q => base ≤ q) (xe_W ty b base z M) := by
  have key : ∀ (k : Nat) (q : Nat × va_E), (xe_W ty b base z M)[k]? = some q → q.1 = base + k := by
    intro k q hq
    have hl := (List.getElem?_eq_some_iff.mp hq).1
    rw [xe_W_len] at hl
    rw [xe_W_get (by omega)] at hq
    cases hq
    rfl
  refine ⟨fun i j x y hx hy hxy => ?_, fun k q hq => ?_⟩
  · have h1 := key i x hx
    have h2 := key j y hy
    omega
  · show base ≤ q.1
    rw [key k q hq]
    omega
/-- rules of the least fixed point -/
theorem xe_mono {T : List xe_I} {C : xe_C} (hC : ∀ g a z M (P P' : xe_Q), (∀ v z M, P v z M → P' v z M) → C g a z M P → C g a z M P') {Q : xe_Q} {K K' : xe_K} (hK : ∀ i dl st kc ks z M, K i dl st kc ks z M → K' i dl st kc ks z M) {i : Nat} {dl st : List Value} {kc ks z : Nat} {M : xe_M} {ins : Instr} (h : xe_ins T C Q K i dl st kc ks z M ins) : xe_ins T C Q K' i dl st kc ks z M ins := by
  unfold xe_ins at h ⊢
  split at h
  all_goals first
    | exact hK _ _ _ _ _ _ _ h
    | exact h.elim
    | exact h
    | exact ⟨h.1, hK _ _ _ _ _ _ _ h.2⟩
    | (obtain ⟨x, h1, h⟩ := h; exact ⟨x, h1, hK _ _ _ _ _ _ _ h⟩)
    | (obtain ⟨x, r, h1, h⟩ := h; exact ⟨x, r, h1, hK _ _ _ _ _ _ _ h⟩)
    | (obtain ⟨x, r, h1, h2, h⟩ := h; exact ⟨x, r, h1, h2, hK _ _ _ _ _ _ _ h⟩)
    | (obtain ⟨x, h1, h2, h⟩ := h; exact ⟨x, h1, h2, hK _ _ _ _ _ _ _ h⟩)
    | (obtain ⟨x, y, r, h1, h⟩ := h; exact ⟨x, y, r, h1, hK _ _ _ _ _ _ _ h⟩)
    | (obtain ⟨x, y, r, h1, h2, h⟩ := h; exact ⟨x, y, r, h1, h2, hK _ _ _ _ _ _ _ h⟩)
    | (obtain ⟨x, y, r, h1, h2, h3, h⟩ := h; exact ⟨x, y, r, h1, h2, h3, hK _ _ _ _ _ _ _ h⟩)
    | (obtain ⟨x, r, h1, h2, h⟩ := h; exact ⟨x, r, h1, fun q => hK _ _ _ _ _ _ _ (h2 q), fun q => hK _ _ _ _ _ _ _ (h q)⟩)
    | (obtain ⟨x, y, r, h1, h2, h⟩ := h; exact ⟨x, y, r, h1, fun q => hK _ _ _ _ _ _ _ (h2 q), fun q => hK _ _ _ _ _ _ _ (h q)⟩)
    | (rcases h with ⟨a, r, h1, h⟩ | ⟨r, h1, h⟩
       · exact Or.inl ⟨a, r, h1, hK _ _ _ _ _ _ _ h⟩
       · exact Or.inr ⟨r, h1, hK _ _ _ _ _ _ _ h⟩)
    | (obtain ⟨x, r, h1, h2, h⟩ := h; exact ⟨x, r, h1, fun q => hK _ _ _ _ _ _ _ (h2 q), fun q q' => (h q q').elim fun t ht => ⟨t, ht.1, hK _ _ _ _ _ _ _ ht.2⟩⟩)
    | (obtain ⟨a1, a2, a3, a4, h1, h2, h3, h4, h5, h⟩ := h; exact ⟨a1, a2, a3, a4, h1, h2, h3, h4, h5, hK _ _ _ _ _ _ _ h⟩)
    | (obtain ⟨a1, a2, a3, a4, h1, h2, h3, h4, h5, h6, h⟩ := h; exact ⟨a1, a2, a3, a4, h1, h2, h3, h4, h5, h6, hK _ _ _ _ _ _ _ h⟩)
    | (obtain ⟨a1, a2, a3, a4, a5, h1, h2, h3, h4, h⟩ := h; exact ⟨a1, a2, a3, a4, a5, h1, h2, h3, h4, hK _ _ _ _ _ _ _ h⟩)
    | (obtain ⟨a1, a2, a3, a4, a5, h1, h2, h3, h4, h5, h⟩ := h; exact ⟨a1, a2, a3, a4, a5, h1, h2, h3, h4, h5, hK _ _ _ _ _ _ _ h⟩)
    | (obtain ⟨a1, a2, a3, a4, a5, a6, h1, h2, h3, h4, h5, h⟩ := h; exact ⟨a1, a2, a3, a4, a5, a6, h1, h2, h3, h4, h5, hK _ _ _ _ _ _ _ h⟩)
    | (obtain ⟨a1, a2, a3, a4, a5, a6, h1, h2, h3, h4, h5, h6, h⟩ := h; exact ⟨a1, a2, a3, a4, a5, a6, h1, h2, h3, h4, h5, h6, hK _ _ _ _ _ _ _ h⟩)
    | (obtain ⟨a1, a2, a3, a4, a5, a6, a7, h1, h2, h3, h4, h5, h6, h⟩ := h; exact ⟨a1, a2, a3, a4, a5, a6, a7, h1, h2, h3, h4, h5, h6, hK _ _ _ _ _ _ _ h⟩)
    | (obtain ⟨a1, a2, a3, a4, a5, a6, a7, h1, h2, h3, h4, h5, h6, h7, h8, h⟩ := h; exact ⟨a1, a2, a3, a4, a5, a6, a7, h1, h2, h3, h4, h5, h6, h7, h8, hK _ _ _ _ _ _ _ h⟩)
    | (obtain ⟨a1, a2, a3, a4, a5, a6, a7, a8, a9, a10, h1, h2, h3, h4, h5, h6, h7, h8, h9, h10, h11, h12, h13, h14, h⟩ := h; exact ⟨a1, a2, a3, a4, a5, a6, a7, a8, a9, a10, h1, h2, h3, h4, h5, h6, h7, h8, h9, h10, h11, h12, h13, h14, hK _ _ _ _ _ _ _ h⟩)
    | (obtain ⟨a1, a2, a3, a4, a5, h1, h2, h3, h4, h5, h6, h7, h8, h9, h10, h11, h⟩ := h; exact ⟨a1, a2, a3, a4, a5, h1, h2, h3, h4, h5, h6, h7, h8, h9, h10, h11, hC _ _ _ _ _ _ (fun v z M q => hK _ _ _ _ _ _ _ q) h⟩)
    | (obtain ⟨a1, a2, a3, a4, a5, h1, h2, h3, h4, h5, h6, h7, h8, h9, h10, h11, h⟩ := h; exact ⟨a1, a2, a3, a4, a5, h1, h2, h3, h4, h5, h6, h7, h8, h9, h10, h11, hC _ _ _ _ _ _ (fun v z M q => ⟨fun w => hK _ _ _ _ _ _ _ (q.1 w), fun w => hK _ _ _ _ _ _ _ (q.2 w)⟩) h⟩)
    | (obtain ⟨a1, a2, a3, h1, h2, h3, h4, h5, h6, h7, h8, h⟩ := h; exact ⟨a1, a2, a3, h1, h2, h3, h4, h5, h6, h7, h8, hC _ _ _ _ _ _ (fun v z M q => hK _ _ _ _ _ _ _ q) h⟩)
    | (obtain ⟨a1, h1, h2, h3, h4, h⟩ := h; exact ⟨a1, h1, h2, h3, h4, hK _ _ _ _ _ _ _ h⟩)
    | (obtain ⟨a1, a2, h1, h2, h3, h4, h5, h6, h⟩ := h; exact ⟨a1, a2, h1, h2, h3, h4, h5, h6, hK _ _ _ _ _ _ _ h⟩)
theorem xe_Qmono {T : List xe_I} {C : xe_C} {Q Q' : xe_Q} (hQ : ∀ v z M, Q v z M → Q' v z M) {K : xe_K} {i : Nat} {dl st : List Value} {kc ks z : Nat} {M : xe_M} {ins : Instr} (h : xe_ins T C Q K i dl st kc ks z M ins) : xe_ins T C Q' K i dl st kc ks z M ins := by
  unfold xe_ins at h ⊢
  split at h
  all_goals first
    | exact h
    | (obtain ⟨x, h1, h⟩ := h; exact ⟨x, h1, hQ _ _ _ h⟩)
    | (obtain ⟨x, h1, h2, h⟩ := h; exact ⟨x, h1, h2, hQ _ _ _ h⟩)
    | exact ⟨h.1, hQ _ _ _ h.2⟩
    | exact ⟨h.1, h.2.1, h.2.2.1, h.2.2.2.1, hQ _ _ _ h.2.2.2.2⟩
theorem xe_Ev_Q {T : List xe_I} {C : xe_C} {code : List Instr} {Q Q' : xe_Q} (hQ : ∀ v z M, Q v z M → Q' v z M) {i : Nat} {dl st : List Value} {kc ks z : Nat} {M : xe_M} (h : xe_Ev T C code Q i dl st kc ks z M) : xe_Ev T C code Q' i dl st kc ks z M := fun X hX => h X (fun i dl st kc ks z M q => hX i dl st kc ks z M (q.elim fun ins hi => ⟨ins, hi.1, xe_Qmono hQ hi.2⟩))
theorem xe_Call_Q {T : List xe_I} : ∀ (d : Nat) (g : Nat) (a : List Value) (z : Nat) (M : xe_M) (P P' : xe_Q), (∀ v z M, P v z M → P' v z M) → xe_Call T d g a z M P → xe_Call T d g a z M P'
  | 0, _, _, _, _, _, _, _, h => h.elim
  | d + 1, g, a, z, M, P, P', hP, h => h.elim fun inf hi => ⟨inf, hi.1, xe_Ev_Q hP hi.2⟩
theorem xe_Ev_step {T : List xe_I} {d : Nat} {code : List Instr} {Q : xe_Q} {i : Nat} {dl st : List Value} {kc ks z : Nat} {M : xe_M} (h : xe_step T (xe_Call T d) code Q (xe_Ev T (xe_Call T d) code Q) i dl st kc ks z M) : xe_Ev T (xe_Call T d) code Q i dl st kc ks z M := by
  intro X hX
  obtain ⟨ins, h1, h2⟩ := h
  exact hX _ _ _ _ _ _ _ ⟨ins, h1, xe_mono (xe_Call_Q d) (fun i dl st kc ks z M q => q X hX) h2⟩
end
section
/-! WHAT THE TABLES AND THE BYTES MUST SAY of a resolved method. -/
def xe_good : List Cond := lw_tbl.filter goodWord
def xe_isN (w : Cond) : Bool := match w with
  | .fieldLinkNest .. => true
  | .methodLinkNest .. => true
  | _ => false
def xe_nest : List Cond := tables_1.filter xe_isN
/-- a class's tables -/
theorem xe_clok : ∀ (ci : Nat) (r : vw_C), xe_cl[ci]? = some r → (∀ k, k < r.2.2 → parseFieldDescriptor (r.2.1 k).2.2.1 = some (xe_ty ci k)) ∧ (∀ a, a < r.2.2 → ∀ b, b < r.2.2 → a ≠ b → (r.2.1 a).2.1 ≠ (r.2.1 b).2.1) ∧ ∀ j, j < r.2.2 → defaultValue (xe_ty ci j) = vp_V (xe_dflt ci) j := by
  intro ci r h
  match ci, h with
  | 0, h => cases h; exact ⟨tyX0_ok, nmX0, by decide +kernel⟩
  | 1, h => cases h; exact ⟨tyX1_ok, nmX1, by decide +kernel⟩
  | 2, h => cases h; exact ⟨tyX2_ok, nmX2, by decide +kernel⟩
  | 3, h => cases h; exact ⟨tyX3_ok, nmX3, by decide +kernel⟩
  | 4, h => cases h; exact ⟨tyX4_ok, nmX4, by decide +kernel⟩
  | 5, h => cases h; exact ⟨tyX5_ok, nmX5, by decide +kernel⟩
  | 6, h => cases h; exact ⟨tyX6_ok, nmX6, by decide +kernel⟩
  | 7, h => cases h; exact ⟨tyX7_ok, nmX7, by decide +kernel⟩
  | 8, h => cases h; exact ⟨tyX8_ok, nmX8, by decide +kernel⟩
  | 9, h => cases h; exact ⟨tyX9_ok, nmX9, by decide +kernel⟩
  | 10, h => cases h; exact ⟨tyX10_ok, nmX10, by decide +kernel⟩
  | 11, h => cases h; exact ⟨tyX11_ok, nmX11, by decide +kernel⟩
  | 12, h => cases h; exact ⟨tyX12_ok, nmX12, by decide +kernel⟩
  | n + 13, h => simp [xe_cl] at h
/-- constant pool: fields (entry, class, place), methods (entry, number), ints (entry, value), classes (entry, number), arraycopy, Object's constructor -/
abbrev xe_cp : Type := List (Nat × Nat × Nat) × List (Nat × Nat) × List (Nat × Int) × List (Nat × Nat) × List Nat × List Nat
def xe_okF (own : String) (idx ci k : Nat) : Prop := ∃ r, xe_cl[ci]? = some r ∧ k < r.2.2 ∧ (r.2.1 k).1 = r.1 ∧ (∀ w ∈ u_ws r.1 r.2.1 r.2.2, w ∈ xe_good) ∧ (Cond.fieldLink own idx r.1 (r.2.1 k).2.1 (r.2.1 k).2.2.1 ∈ xe_good ∨ ∃ host, Cond.fieldLinkNest own idx r.1 (r.2.1 k).2.1 (r.2.1 k).2.2.1 host ∈ xe_nest)
def xe_okM (own : String) (idx : Nat) (y : MethodName) : Prop := Cond.methodLink own idx y ∈ xe_good ∨ ∃ host, Cond.methodLinkNest own idx y host ∈ xe_nest
def xe_okC (own : String) (idx ci : Nat) : Prop := ∃ r, xe_cl[ci]? = some r ∧ (∀ w ∈ u_ws r.1 r.2.1 r.2.2, w ∈ xe_good) ∧ Cond.classLink own idx r.1 ∈ xe_good ∧ Cond.instantiable r.1 r.2.2 ∈ xe_good ∧ Cond.initialized r.1 ∈ xe_good
def xe_cpok (own : String) (T : List xe_I) (cp : xe_cp) : Prop := (∀ q ∈ cp.1, xe_okF own q.1 q.2.1 q.2.2) ∧ (∀ q ∈ cp.2.1, ∀ inf, T[q.2]? = some inf → xe_okM own q.1 (xe_iy inf)) ∧ (∀ q ∈ cp.2.2.1, Cond.constant own q.1 (Int32.ofInt q.2) ∈ xe_good) ∧ (∀ q ∈ cp.2.2.2.1, xe_okC own q.1 q.2) ∧ (∀ q ∈ cp.2.2.2.2.1, Cond.methodLink own q arraycopyName ∈ xe_good) ∧ (∀ q ∈ cp.2.2.2.2.2, Cond.methodLink own q objectInit ∈ xe_good)
/-- a resolved instruction against the bytes -/
def xe_D (bs : ByteArray) (pc : Nat) (r : Instr) (n : Nat) : Bool := decide (decode bs pc = .ok (r, n))
def xe_nx (bs : ByteArray) (pcs : List Nat) (i : Nat) (r : Instr) (n : Nat) : Bool := xe_D bs (pcs.getD i 0) r n && decide (pcs.getD (i + 1) 0 = pcs.getD i 0 + n)
def xe_jm (pcs : List Nat) (i : Nat) (t : Int) : Int := ((pcs.getD t.toNat 0 : Nat) : Int) - ((pcs.getD i 0 : Nat) : Int)
def xe_Dv (bs : ByteArray) (pc : Nat) (r : Instr) : Bool := match decode bs pc with
  | .ok (q, _) => decide (q = r)
  | _ => false
def xe_chk (cp : xe_cp) (bs : ByteArray) (kind : Nat) (own : String) (ret : Option FieldType) (pcs : List Nat) (i : Nat) (ins : Instr) : Bool := match ins with
  | .sipush v => xe_nx bs pcs i (.iconst v) 1 || (xe_nx bs pcs i (.bipush v) 2 && decide ((Int8.ofInt v).toInt32 = Int32.ofInt v)) || (xe_nx bs pcs i (.sipush v) 3 && decide ((Int16.ofInt v).toInt32 = Int32.ofInt v)) || cp.2.2.1.any (fun q => decide (q.2 = v) && (xe_nx bs pcs i (.ldc q.1) 2 || xe_nx bs pcs i (.ldc_w q.1) 3))
  | .lconst n => xe_nx bs pcs i (.lconst n) 1
  | .iload k => (decide (k < 4) && xe_nx bs pcs i (.iload_n (Fin.ofNat 4 k)) 1) || xe_nx bs pcs i (.iload k) 2
  | .lload k => (decide (k < 4) && xe_nx bs pcs i (.lload_n (Fin.ofNat 4 k)) 1) || xe_nx bs pcs i (.lload k) 2
  | .aload k => (decide (k < 4) && xe_nx bs pcs i (.aload_n (Fin.ofNat 4 k)) 1) || xe_nx bs pcs i (.aload k) 2
  | .istore k => (decide (k < 4) && xe_nx bs pcs i (.istore_n (Fin.ofNat 4 k)) 1) || xe_nx bs pcs i (.istore k) 2
  | .lstore k => (decide (k < 4) && xe_nx bs pcs i (.lstore_n (Fin.ofNat 4 k)) 1) || xe_nx bs pcs i (.lstore k) 2
  | .astore k => (decide (k < 4) && xe_nx bs pcs i (.astore_n (Fin.ofNat 4 k)) 1) || xe_nx bs pcs i (.astore k) 2
  | .iinc k n => xe_nx bs pcs i (.iinc k n) 3
  | .goto t => xe_D bs (pcs.getD i 0) (.goto (xe_jm pcs i t)) 3
  | .ifCond c t => xe_nx bs pcs i (.ifCond c (xe_jm pcs i t)) 3
  | .if_icmp c t => xe_nx bs pcs i (.if_icmp c (xe_jm pcs i t)) 3
  | .ifnonnull t => xe_nx bs pcs i (.ifnonnull (xe_jm pcs i t)) 3
  | .tableswitch d lo hi os => xe_Dv bs (pcs.getD i 0) (.tableswitch (xe_jm pcs i d) lo hi (os.map (xe_jm pcs i)))
  | .lookupswitch d ps => xe_Dv bs (pcs.getD i 0) (.lookupswitch (xe_jm pcs i d) (ps.map (fun q => (q.1, xe_jm pcs i q.2)))) && (ps.toList.zip (ps.toList.drop 1)).all (fun (a, next) => a.1 < next.1)
  | .getfield n => cp.1.any (fun q => decide (q.2.1 = n / 64 ∧ q.2.2 = n % 64) && xe_nx bs pcs i (.getfield q.1) 3)
  | .putfield n => cp.1.any (fun q => decide (q.2.1 = n / 64 ∧ q.2.2 = n % 64) && xe_nx bs pcs i (.putfield q.1) 3 && (match xe_cl[n / 64]? with | some r => !(r.2.1 (n % 64)).2.2.2 || (decide (kind = 2) && decide (r.1 = own)) | none => false))
  | .monitorenter => cp.2.2.2.2.1.any (fun q => xe_nx bs pcs i (.invokestatic q) 3)
  | .monitorexit => cp.2.2.2.2.1.any (fun q => xe_nx bs pcs i (.invokestatic q) 3)
  | .nop => cp.2.2.2.2.2.any (fun q => xe_nx bs pcs i (.invokespecial q) 3)
  | .invokevirtual g => cp.2.1.any (fun q => decide (q.2 = g) && xe_nx bs pcs i (.invokevirtual q.1) 3)
  | .invokespecial g => cp.2.1.any (fun q => decide (q.2 = g) && xe_nx bs pcs i (.invokespecial q.1) 3)
  | .invokestatic g => cp.2.1.any (fun q => decide (q.2 = g) && xe_nx bs pcs i (.invokestatic q.1) 3)
  | .new c => cp.2.2.2.1.any (fun q => decide (q.2 = c) && xe_nx bs pcs i (.new q.1) 3)
  | .anewarray _ => cp.2.2.2.1.any (fun q => decide (q.2 = 5) && xe_nx bs pcs i (.anewarray q.1) 3)
  | .newarray t => xe_nx bs pcs i (.newarray t) 2 && (decide (t = .byte) || decide (t = .int) || decide (t = .long) || decide (t = .boolean))
  | .athrow => decide (kind = 3) && xe_D bs (pcs.getD i 0) (.new 159) 3 && xe_D bs (pcs.getD i 0 + 3) .dup 1 && xe_D bs (pcs.getD i 0 + 4) (.invokespecial 161) 3 && xe_D bs (pcs.getD i 0 + 7) .athrow 1
  | .invokedynamic _ => decide (kind = 4)
  | .swap => decide (kind = 3)
  | .ireturn => xe_D bs (pcs.getD i 0) .ireturn 1 && decide (ret = some .int)
  | .freturn => xe_D bs (pcs.getD i 0) .ireturn 1 && decide (ret = some .boolean)
  | .return_ => xe_D bs (pcs.getD i 0) .return_ 1 && decide (ret = none)
  | r => xe_nx bs pcs i r 1
def xe_ok (T : List xe_I) (inf : xe_I) : Prop :=
  Cond.code (xe_iy inf) (xe_ib inf) (xe_iL inf) (xe_ir inf) ∈ xe_good ∧ Cond.initialized (xe_iy inf).cls ∈ xe_good ∧ plainFor (xe_iy inf) = true ∧
  ((xe_iy inf).cls ≠ "java/lang/invoke/MethodHandle" ∧ (xe_iy inf).cls ≠ "java/lang/invoke/VarHandle" ∧ (parseMethodDescriptor (xe_iy inf).desc).map (fun d => d.parameters.length) = some (xe_in inf)) ∧
  xe_iL inf ≤ 45 ∧ xe_in inf + (if xe_ik inf = 0 then 0 else 1) ≤ xe_iL inf ∧
  (xe_ik inf = 1 ∨ xe_ik inf = 3 → Cond.instanceMethod (xe_iy inf) ∈ xe_good ∧ Cond.selects (xe_iy inf).cls (xe_iy inf) (xe_iy inf) ∈ xe_good ∧ ∃ r, xe_cl[xe_ic inf]? = some r ∧ r.1 = (xe_iy inf).cls) ∧
  (xe_ik inf = 2 → Cond.instanceMethod (xe_iy inf) ∈ xe_good ∧ (xe_iy inf).name = "<init>" ∧ xe_ir inf = none) ∧
  (xe_ik inf = 0 → Cond.static (xe_iy inf) ∈ xe_good) ∧
  (xe_pcs inf).getD 0 0 = 0 ∧
  ∃ cp, xe_cpok (xe_iy inf).cls T cp ∧ ∀ i ins, (xe_code inf)[i]? = some ins → xe_chk cp (xe_ib inf) (xe_ik inf) (xe_iy inf).cls (xe_ir inf) (xe_pcs inf) i ins = true
theorem xe_good_w {w : Cond} (h : w ∈ xe_good) : (w.onTables && w.keeps) = true ∨ ∃ ty, w = .arrayClass ty := good_of_word (List.mem_filter.mp h).2
theorem xe_good_in : GoodIn xe_good xe_good := fun _ h => ⟨h, xe_good_w h⟩
end
section
/-! THE METHODS, resolved: by program out of the listing. -/
/-- java/lang/Integer.bitCount(I)I -/
def xm_c0 : List Instr := [.iload 0, .iload 0, .sipush 1, .iushr, .sipush 1431655765, .iand, .isub, .istore 0, .iload 0, .sipush 858993459, .iand, .iload 0, .sipush 2, .iushr, .sipush 858993459, .iand, .iadd, .istore 0, .iload 0, .iload 0, .sipush 4, .iushr, .iadd, .sipush 252645135, .iand, .istore 0, .iload 0, .iload 0, .sipush 8, .iushr, .iadd, .istore 0, .iload 0, .iload 0, .sipush 16, .iushr, .iadd, .istore 0, .iload 0, .sipush 63, .iand, .ireturn]
def xm_p0 : List Nat := [0, 1, 2, 3, 4, 7, 8, 9, 10, 11, 14, 15, 16, 17, 18, 21, 22, 23, 24, 25, 26, 27, 28, 29, 32, 33, 34, 35, 36, 38, 39, 40, 41, 42, 43, 45, 46, 47, 48, 49, 51, 52]
def xm_i0 : xe_I := (⟨"java/lang/Integer", "bitCount", "(I)I"⟩, prog_17_method_49_code, 1, (Option.some Jvm.ClassFile.FieldType.int), 99, 0, 1, 0, 0, xm_c0, xm_p0)
/-- java/lang/Integer.numberOfTrailingZeros(I)I -/
def xm_c1 : List Instr := [.iload 0, .sipush (-1), .ixor, .iload 0, .sipush 1, .isub, .iand, .istore 0, .iload 0, .ifCond .gt 14, .iload 0, .sipush 32, .iand, .ireturn, .sipush 1, .istore 1, .iload 0, .sipush 65536, .if_icmp .le 24, .iinc 1 16, .iload 0, .sipush 16, .iushr, .istore 0, .iload 0, .sipush 256, .if_icmp .le 32, .iinc 1 8, .iload 0, .sipush 8, .iushr, .istore 0, .iload 0, .sipush 16, .if_icmp .le 40, .iinc 1 4, .iload 0, .sipush 4, .iushr, .istore 0, .iload 0, .sipush 4, .if_icmp .le 48, .iinc 1 2, .iload 0, .sipush 2, .iushr, .istore 0, .iload 1, .iload 0, .sipush 1, .iushr, .iadd, .ireturn]
def xm_p1 : List Nat := [0, 1, 2, 3, 4, 5, 6, 7, 8, 9, 12, 13, 15, 16, 17, 18, 19, 20, 23, 26, 29, 30, 32, 33, 34, 35, 38, 41, 44, 45, 47, 48, 49, 50, 52, 55, 58, 59, 60, 61, 62, 63, 64, 67, 70, 71, 72, 73, 74, 75, 76, 77, 78, 79]
def xm_i1 : xe_I := (⟨"java/lang/Integer", "numberOfTrailingZeros", "(I)I"⟩, prog_17_method_48_code, 2, (Option.some Jvm.ClassFile.FieldType.int), 99, 0, 1, 0, 0, xm_c1, xm_p1)
/-- java/lang/Math.abs(I)I -/
def xm_c2 : List Instr := [.iload 0, .ifCond .ge 5, .iload 0, .ineg, .goto 6, .iload 0, .ireturn]
def xm_p2 : List Nat := [0, 1, 4, 5, 6, 9, 10]
def xm_i2 : xe_I := (⟨"java/lang/Math", "abs", "(I)I"⟩, prog_18_method_59_code, 1, (Option.some Jvm.ClassFile.FieldType.int), 99, 0, 1, 0, 0, xm_c2, xm_p2)
/-- java/lang/Math.floorMod(II)I -/
def xm_c3 : List Instr := [.iload 0, .iload 1, .irem, .istore 2, .iload 0, .iload 1, .ixor, .ifCond .ge 14, .iload 2, .ifCond .eq 14, .iload 2, .iload 1, .iadd, .ireturn, .iload 2, .ireturn]
def xm_p3 : List Nat := [0, 1, 2, 3, 4, 5, 6, 7, 10, 11, 14, 15, 16, 17, 18, 19]
def xm_i3 : xe_I := (⟨"java/lang/Math", "floorMod", "(II)I"⟩, prog_18_method_50_code, 3, (Option.some Jvm.ClassFile.FieldType.int), 99, 0, 2, 0, 0, xm_c3, xm_p3)
/-- java/lang/Math.max(II)I -/
def xm_c4 : List Instr := [.iload 0, .iload 1, .if_icmp .lt 5, .iload 0, .goto 6, .iload 1, .ireturn]
def xm_p4 : List Nat := [0, 1, 2, 5, 6, 9, 10]
def xm_i4 : xe_I := (⟨"java/lang/Math", "max", "(II)I"⟩, prog_18_method_65_code, 2, (Option.some Jvm.ClassFile.FieldType.int), 99, 0, 2, 0, 0, xm_c4, xm_p4)
/-- java/lang/Math.min(II)I -/
def xm_c5 : List Instr := [.iload 0, .iload 1, .if_icmp .gt 5, .iload 0, .goto 6, .iload 1, .ireturn]
def xm_p5 : List Nat := [0, 1, 2, 5, 6, 9, 10]
def xm_i5 : xe_I := (⟨"java/lang/Math", "min", "(II)I"⟩, prog_18_method_69_code, 2, (Option.some Jvm.ClassFile.FieldType.int), 99, 0, 2, 0, 0, xm_c5, xm_p5)
/-- java/util/Arrays.fill([II)V -/
def xm_c6 : List Instr := [.sipush 0, .istore 2, .aload 0, .arraylength, .istore 3, .iload 2, .iload 3, .if_icmp .ge 14, .aload 0, .iload 2, .iload 1, .iastore, .iinc 2 1, .goto 5, .return_]
def xm_p6 : List Nat := [0, 1, 2, 3, 4, 5, 6, 7, 10, 11, 12, 13, 14, 17, 20]
def xm_i6 : xe_I := (⟨"java/util/Arrays", "fill", "([II)V"⟩, prog_22_method_103_code, 4, (Option.none : Option Jvm.ClassFile.FieldType), 99, 0, 2, 0, 0, xm_c6, xm_p6)
/-- NinthDayHooded$Guides.<init>()V -/
def xm_c7 : List Instr := [.aload 0, .nop, .aload 0, .sipush 9, .newarray .int, .putfield 0, .aload 0, .sipush 9, .newarray .int, .putfield 1, .aload 0, .sipush 9, .newarray .int, .putfield 2, .aload 0, .sipush 9, .newarray .int, .putfield 3, .aload 0, .sipush 81, .newarray .int, .putfield 4, .aload 0, .sipush 10, .newarray .int, .putfield 5, .aload 0, .sipush 0, .putfield 6, .aload 0, .sipush 0, .putfield 7, .aload 0, .sipush 0, .putfield 8, .return_]
def xm_p7 : List Nat := [0, 1, 4, 5, 7, 9, 12, 13, 15, 17, 20, 21, 23, 25, 28, 29, 31, 33, 36, 37, 39, 41, 44, 45, 47, 49, 52, 53, 54, 57, 58, 59, 62, 63, 64, 67]
def xm_i7 : xe_I := (⟨"NinthDayHooded$Guides", "<init>", "()V"⟩, prog_2_method_1_code, 1, (Option.none : Option Jvm.ClassFile.FieldType), 0, 2, 0, 6, 127, xm_c7, xm_p7)
/-- NinthDayHooded$Guides.find(LNinthDayHooded$People;LNinthDayHooded$Rule;LNinthDayHooded$State;I)V -/
def xm_c8 : List Instr := [.aload 0, .aload 1, .getfield 132, .putfield 7, .aload 0, .sipush 0, .putfield 6, .sipush 0, .istore 5, .iload 5, .aload 0, .getfield 7, .if_icmp .ge 40, .aload 0, .getfield 3, .iload 5, .sipush 0, .iastore, .aload 3, .getfield 320, .iload 5, .iaload, .iload 4, .sipush 9, .irem, .if_icmp .ne 38, .aload 0, .getfield 0, .aload 0, .getfield 6, .iload 5, .iastore, .aload 0, .dup, .getfield 6, .sipush 1, .iadd, .putfield 6, .iinc 5 1, .goto 9, .sipush 0, .istore 5, .iload 5, .aload 0, .getfield 6, .if_icmp .ge 55, .aload 0, .aload 1, .aload 2, .aload 3, .iload 5, .iload 4, .invokevirtual 9, .iinc 5 1, .goto 42, .aload 0, .getfield 5, .aload 0, .getfield 6, .sipush 0, .iastore, .aload 0, .getfield 6, .sipush 1, .isub, .istore 5, .iload 5, .ifCond .lt 84, .aload 0, .getfield 5, .iload 5, .aload 0, .getfield 5, .iload 5, .sipush 1, .iadd, .iaload, .aload 0, .iload 5, .invokevirtual 10, .iadd, .iastore, .iinc 5 (-1), .goto 66, .aload 0, .aload 0, .getfield 6, .sipush 1000, .imul, .sipush 1, .iadd, .putfield 8, .aload 0, .sipush 0, .sipush 0, .invokevirtual 11, .return_]
def xm_p8 : List Nat := [0, 1, 2, 5, 8, 9, 10, 13, 14, 16, 18, 19, 22, 25, 26, 29, 31, 32, 33, 34, 37, 39, 40, 42, 44, 45, 48, 49, 52, 53, 56, 58, 59, 60, 61, 64, 65, 66, 69, 72, 75, 76, 78, 80, 81, 84, 87, 88, 89, 90, 91, 93, 95, 98, 101, 104, 105, 108, 109, 112, 113, 114, 115, 118, 119, 120, 122, 124, 127, 128, 131, 133, 134, 137, 139, 140, 141, 142, 143, 145, 148, 149, 150, 153, 156, 157, 158, 161, 164, 165, 166, 167, 170, 171, 172, 173, 176]
def xm_i8 : xe_I := (⟨"NinthDayHooded$Guides", "find", "(LNinthDayHooded$People;LNinthDayHooded$Rule;LNinthDayHooded$State;I)V"⟩, prog_2_method_2_code, 6, (Option.none : Option Jvm.ClassFile.FieldType), 0, 1, 4, 0, 0, xm_c8, xm_p8)
/-- NinthDayHooded$Guides.setPrices(LNinthDayHooded$People;LNinthDayHooded$Rule;LNinthDayHooded$State;II)V -/
def xm_c9 : List Instr := [.aload 0, .getfield 0, .iload 4, .iaload, .istore 6, .sipush 0, .istore 7, .iload 7, .aload 0, .getfield 7, .if_icmp .ge 51, .sipush (-1), .istore 8, .aload 3, .getfield 320, .iload 7, .iaload, .iload 5, .sipush 9, .irem, .if_icmp .eq 40, .aload 1, .getfield 128, .iload 6, .sipush 9, .imul, .iload 7, .iadd, .iaload, .ifCond .le 40, .aload 2, .aload 1, .aload 3, .iload 6, .iload 7, .iload 5, .invokevirtual 46, .aload 2, .invokevirtual 47, .istore 8, .aload 0, .getfield 4, .iload 4, .sipush 9, .imul, .iload 7, .iadd, .iload 8, .iastore, .iinc 7 1, .goto 7, .return_]
def xm_p9 : List Nat := [0, 1, 4, 6, 7, 9, 10, 12, 14, 15, 18, 21, 22, 24, 25, 28, 30, 31, 33, 35, 36, 39, 40, 43, 45, 47, 48, 50, 51, 52, 55, 56, 57, 58, 60, 62, 64, 67, 68, 71, 73, 74, 77, 79, 81, 82, 84, 85, 87, 88, 91, 94]
def xm_i9 : xe_I := (⟨"NinthDayHooded$Guides", "setPrices", "(LNinthDayHooded$People;LNinthDayHooded$Rule;LNinthDayHooded$State;II)V"⟩, prog_2_method_3_code, 9, (Option.none : Option Jvm.ClassFile.FieldType), 0, 1, 5, 0, 0, xm_c9, xm_p9)
/-- NinthDayHooded$Guides.cheapest(I)I -/
def xm_c10 : List Instr := [.sipush 1000, .istore 2, .sipush 0, .istore 3, .iload 3, .aload 0, .getfield 7, .if_icmp .ge 27, .aload 0, .getfield 4, .iload 1, .sipush 9, .imul, .iload 3, .iadd, .iaload, .istore 4, .iload 4, .sipush (-1), .if_icmp .eq 25, .iload 4, .iload 2, .if_icmp .ge 25, .iload 4, .istore 2, .iinc 3 1, .goto 4, .iload 2, .ireturn]
def xm_p10 : List Nat := [0, 3, 4, 5, 6, 7, 8, 11, 14, 15, 18, 19, 21, 22, 23, 24, 25, 27, 29, 30, 33, 35, 36, 39, 41, 42, 45, 48, 49]
def xm_i10 : xe_I := (⟨"NinthDayHooded$Guides", "cheapest", "(I)I"⟩, prog_2_method_4_code, 5, (Option.some Jvm.ClassFile.FieldType.int), 0, 1, 1, 0, 0, xm_c10, xm_p10)
/-- NinthDayHooded$Guides.choose(II)V -/
def xm_c11 : List Instr := [.iload 2, .aload 0, .getfield 5, .iload 1, .iaload, .iadd, .aload 0, .getfield 8, .if_icmp .lt 10, .return_, .iload 1, .aload 0, .getfield 6, .if_icmp .lt 27, .aload 0, .iload 2, .putfield 8, .aload 0, .getfield 2, .sipush 0, .aload 0, .getfield 1, .sipush 0, .aload 0, .getfield 6, .monitorenter, .return_, .sipush 0, .istore 3, .iload 3, .aload 0, .getfield 7, .if_icmp .ge 82, .aload 0, .getfield 4, .iload 1, .sipush 9, .imul, .iload 3, .iadd, .iaload, .istore 4, .iload 4, .sipush (-1), .if_icmp .eq 80, .aload 0, .getfield 3, .iload 3, .iaload, .sipush 2, .if_icmp .ge 80, .aload 0, .getfield 3, .iload 3, .dup2, .iaload, .sipush 1, .iadd, .iastore, .aload 0, .getfield 2, .iload 1, .iload 3, .iastore, .aload 0, .iload 1, .sipush 1, .iadd, .iload 2, .iload 4, .iadd, .invokevirtual 11, .aload 0, .getfield 3, .iload 3, .dup2, .iaload, .sipush 1, .isub, .iastore, .iinc 3 1, .goto 29, .aload 0, .getfield 2, .iload 1, .sipush (-1), .iastore, .aload 0, .iload 1, .sipush 1, .iadd, .iload 2, .sipush 1000, .iadd, .invokevirtual 11, .return_]
def xm_p11 : List Nat := [0, 1, 2, 5, 6, 7, 8, 9, 12, 15, 16, 17, 18, 21, 24, 25, 26, 29, 30, 33, 34, 35, 38, 39, 40, 43, 46, 47, 48, 49, 50, 51, 54, 57, 58, 61, 62, 64, 65, 66, 67, 68, 70, 72, 73, 76, 77, 80, 81, 82, 83, 86, 87, 90, 91, 92, 93, 94, 95, 96, 97, 100, 101, 102, 103, 104, 105, 106, 107, 108, 110, 111, 114, 115, 118, 119, 120, 121, 122, 123, 124, 127, 130, 131, 134, 135, 136, 137, 138, 139, 140, 141, 142, 145, 146, 149]
def xm_i11 : xe_I := (⟨"NinthDayHooded$Guides", "choose", "(II)V"⟩, prog_2_method_5_code, 5, (Option.none : Option Jvm.ClassFile.FieldType), 0, 1, 2, 0, 0, xm_c11, xm_p11)
/-- NinthDayHooded$Guides.nobody()I -/
def xm_c12 : List Instr := [.aload 0, .getfield 8, .sipush 1000, .idiv, .ireturn]
def xm_p12 : List Nat := [0, 1, 4, 7, 8]
def xm_i12 : xe_I := (⟨"NinthDayHooded$Guides", "nobody", "()I"⟩, prog_2_method_6_code, 1, (Option.some Jvm.ClassFile.FieldType.int), 0, 1, 0, 0, 0, xm_c12, xm_p12)
/-- NinthDayHooded$Guides.price()I -/
def xm_c13 : List Instr := [.aload 0, .getfield 8, .sipush 1000, .irem, .ireturn]
def xm_p13 : List Nat := [0, 1, 4, 7, 8]
def xm_i13 : xe_I := (⟨"NinthDayHooded$Guides", "price", "()I"⟩, prog_2_method_7_code, 1, (Option.some Jvm.ClassFile.FieldType.int), 0, 1, 0, 0, 0, xm_c13, xm_p13)
/-- NinthDayHooded$Guides.unled()I -/
def xm_c14 : List Instr := [.sipush 0, .istore 1, .sipush 0, .istore 2, .iload 2, .aload 0, .getfield 6, .if_icmp .ge 27, .iload 1, .aload 0, .getfield 1, .iload 2, .iaload, .sipush (-1), .if_icmp .ne 22, .sipush 1, .aload 0, .getfield 0, .iload 2, .iaload, .ishl, .goto 23, .sipush 0, .ior, .istore 1, .iinc 2 1, .goto 4, .iload 1, .ireturn]
def xm_p14 : List Nat := [0, 1, 2, 3, 4, 5, 6, 9, 12, 13, 14, 17, 18, 19, 20, 23, 24, 25, 28, 29, 30, 31, 34, 35, 36, 37, 40, 43, 44]
def xm_i14 : xe_I := (⟨"NinthDayHooded$Guides", "unled", "()I"⟩, prog_2_method_8_code, 3, (Option.some Jvm.ClassFile.FieldType.int), 0, 1, 0, 0, 0, xm_c14, xm_p14)
/-- NinthDayHooded$Guides.withoutAny()I -/
def xm_c15 : List Instr := [.sipush 0, .istore 1, .sipush 0, .istore 2, .iload 2, .aload 0, .getfield 6, .if_icmp .ge 26, .iload 1, .aload 0, .iload 2, .invokevirtual 10, .sipush 1000, .if_icmp .ne 21, .sipush 1, .aload 0, .getfield 0, .iload 2, .iaload, .ishl, .goto 22, .sipush 0, .ior, .istore 1, .iinc 2 1, .goto 4, .iload 1, .ireturn]
def xm_p15 : List Nat := [0, 1, 2, 3, 4, 5, 6, 9, 12, 13, 14, 15, 18, 21, 24, 25, 26, 29, 30, 31, 32, 35, 36, 37, 38, 41, 44, 45]
def xm_i15 : xe_I := (⟨"NinthDayHooded$Guides", "withoutAny", "()I"⟩, prog_2_method_9_code, 3, (Option.some Jvm.ClassFile.FieldType.int), 0, 1, 0, 0, 0, xm_c15, xm_p15)
/-- NinthDayHooded$Past.<init>()V -/
def xm_c16 : List Instr := [.aload 0, .nop, .aload 0, .sipush 12, .anewarray 5, .putfield 64, .aload 0, .sipush 2, .anewarray 5, .putfield 65, .aload 0, .sipush 2, .newarray .int, .putfield 66, .aload 0, .sipush 0, .putfield 67, .aload 0, .sipush 0, .putfield 68, .sipush 0, .istore 1, .iload 1, .sipush 12, .if_icmp .ge 34, .aload 0, .getfield 64, .iload 1, .new 5, .dup, .invokespecial 49, .aastore, .iinc 1 1, .goto 22, .sipush 0, .istore 1, .iload 1, .sipush 2, .if_icmp .ge 53, .aload 0, .getfield 65, .iload 1, .new 5, .dup, .invokespecial 49, .aastore, .aload 0, .getfield 66, .iload 1, .sipush (-1), .iastore, .iinc 1 1, .goto 36, .return_]
def xm_p16 : List Nat := [0, 1, 4, 5, 7, 10, 13, 14, 15, 18, 21, 22, 23, 25, 28, 29, 30, 33, 34, 35, 38, 39, 40, 41, 43, 46, 47, 50, 51, 54, 55, 58, 59, 62, 65, 66, 67, 68, 69, 72, 73, 76, 77, 80, 81, 84, 85, 86, 89, 90, 91, 92, 95, 98]
def xm_i16 : xe_I := (⟨"NinthDayHooded$Past", "<init>", "()V"⟩, prog_3_method_1_code, 2, (Option.none : Option Jvm.ClassFile.FieldType), 1, 2, 0, 87, 1654, xm_c16, xm_p16)
/-- NinthDayHooded$Past.remember(LNinthDayHooded$State;)V -/
def xm_c17 : List Instr := [.aload 0, .getfield 64, .aload 0, .getfield 67, .aaload, .aload 1, .invokevirtual 50, .aload 0, .aload 0, .getfield 67, .sipush 1, .iadd, .sipush 12, .irem, .putfield 67, .aload 0, .aload 0, .getfield 68, .sipush 1, .iadd, .sipush 12, .invokestatic 5, .putfield 68, .return_]
def xm_p17 : List Nat := [0, 1, 4, 5, 8, 9, 10, 13, 14, 15, 18, 19, 20, 22, 23, 26, 27, 28, 31, 32, 33, 35, 38, 41]
def xm_i17 : xe_I := (⟨"NinthDayHooded$Past", "remember", "(LNinthDayHooded$State;)V"⟩, prog_3_method_2_code, 2, (Option.none : Option Jvm.ClassFile.FieldType), 1, 1, 1, 0, 0, xm_c17, xm_p17)
/-- NinthDayHooded$Past.takeBack(LNinthDayHooded$State;)Z -/
def xm_c18 : List Instr := [.aload 0, .getfield 68, .ifCond .ne 5, .sipush 0, .freturn, .aload 0, .dup, .getfield 68, .sipush 1, .isub, .putfield 68, .aload 0, .aload 0, .getfield 67, .sipush 12, .iadd, .sipush 1, .isub, .sipush 12, .irem, .putfield 67, .aload 1, .aload 0, .getfield 64, .aload 0, .getfield 67, .aaload, .invokevirtual 50, .sipush 1, .freturn]
def xm_p18 : List Nat := [0, 1, 4, 7, 8, 9, 10, 11, 14, 15, 16, 19, 20, 21, 24, 26, 27, 28, 29, 31, 32, 35, 36, 37, 40, 41, 44, 45, 48, 49]
def xm_i18 : xe_I := (⟨"NinthDayHooded$Past", "takeBack", "(LNinthDayHooded$State;)Z"⟩, prog_3_method_3_code, 2, (Option.some Jvm.ClassFile.FieldType.boolean), 1, 1, 1, 0, 0, xm_c18, xm_p18)
/-- NinthDayHooded$Past.forgetUndos()V -/
def xm_c19 : List Instr := [.aload 0, .sipush 0, .putfield 68, .return_]
def xm_p19 : List Nat := [0, 1, 2, 5]
def xm_i19 : xe_I := (⟨"NinthDayHooded$Past", "forgetUndos", "()V"⟩, prog_3_method_4_code, 1, (Option.none : Option Jvm.ClassFile.FieldType), 1, 1, 0, 0, 0, xm_c19, xm_p19)
/-- NinthDayHooded$People.<init>()V -/
def xm_c20 : List Instr := [.aload 0, .nop, .aload 0, .sipush 81, .newarray .int, .putfield 128, .aload 0, .sipush 81, .newarray .int, .putfield 129, .aload 0, .sipush 4, .newarray .int, .putfield 130, .aload 0, .sipush 512, .newarray .int, .putfield 131, .aload 0, .sipush 0, .putfield 132, .sipush 0, .istore 1, .iload 1, .sipush 81, .if_icmp .ge 33, .aload 0, .getfield 128, .iload 1, .sipush 1, .iastore, .iinc 1 1, .goto 23, .return_]
def xm_p20 : List Nat := [0, 1, 4, 5, 7, 9, 12, 13, 15, 17, 20, 21, 22, 24, 27, 28, 31, 33, 36, 37, 38, 41, 42, 43, 44, 46, 49, 50, 53, 54, 55, 56, 59, 62]
def xm_i20 : xe_I := (⟨"NinthDayHooded$People", "<init>", "()V"⟩, prog_4_method_1_code, 2, (Option.none : Option Jvm.ClassFile.FieldType), 2, 2, 0, 4, 678, xm_c20, xm_p20)
/-- NinthDayHooded$People.has(I)Z -/
def xm_c21 : List Instr := [.iload 1, .ifCond .lt 8, .iload 1, .aload 0, .getfield 132, .if_icmp .ge 8, .sipush 1, .goto 9, .sipush 0, .freturn]
def xm_p21 : List Nat := [0, 1, 4, 5, 6, 9, 12, 13, 16, 17]
def xm_i21 : xe_I := (⟨"NinthDayHooded$People", "has", "(I)Z"⟩, prog_4_method_2_code, 2, (Option.some Jvm.ClassFile.FieldType.boolean), 2, 1, 1, 0, 0, xm_c21, xm_p21)
/-- NinthDayHooded$People.hasTwo(II)Z -/
def xm_c22 : List Instr := [.aload 0, .iload 1, .invokevirtual 21, .ifCond .eq 13, .aload 0, .iload 2, .invokevirtual 21, .ifCond .eq 13, .iload 1, .iload 2, .if_icmp .eq 13, .sipush 1, .goto 14, .sipush 0, .freturn]
def xm_p22 : List Nat := [0, 1, 2, 5, 8, 9, 10, 13, 16, 17, 18, 21, 22, 25, 26]
def xm_i22 : xe_I := (⟨"NinthDayHooded$People", "hasTwo", "(II)Z"⟩, prog_4_method_3_code, 3, (Option.some Jvm.ClassFile.FieldType.boolean), 2, 1, 2, 0, 0, xm_c22, xm_p22)
/-- NinthDayHooded$People.everyone()I -/
def xm_c23 : List Instr := [.sipush 1, .aload 0, .getfield 132, .ishl, .sipush 1, .isub, .ireturn]
def xm_p23 : List Nat := [0, 1, 2, 5, 6, 7, 8]
def xm_i23 : xe_I := (⟨"NinthDayHooded$People", "everyone", "()I"⟩, prog_4_method_4_code, 1, (Option.some Jvm.ClassFile.FieldType.int), 2, 1, 0, 0, 0, xm_c23, xm_p23)
/-- NinthDayHooded$People.findRing([I)I -/
def xm_c24 : List Instr := [.sipush 2, .istore 2, .iload 2, .sipush 4, .if_icmp .gt 28, .sipush 0, .istore 3, .iload 3, .aload 0, .getfield 132, .if_icmp .ge 26, .aload 0, .getfield 130, .sipush 0, .iload 3, .iastore, .aload 0, .aload 1, .sipush 1, .iload 2, .invokevirtual 25, .ifCond .eq 24, .iload 2, .ireturn, .iinc 3 1, .goto 7, .iinc 2 1, .goto 2, .sipush 0, .ireturn]
def xm_p24 : List Nat := [0, 1, 2, 3, 4, 7, 8, 9, 10, 11, 14, 17, 18, 21, 22, 23, 24, 25, 26, 27, 28, 31, 34, 35, 36, 39, 42, 45, 48, 49]
def xm_i24 : xe_I := (⟨"NinthDayHooded$People", "findRing", "([I)I"⟩, prog_4_method_5_code, 4, (Option.some Jvm.ClassFile.FieldType.int), 2, 1, 1, 0, 0, xm_c24, xm_p24)
/-- NinthDayHooded$People.goesRound([III)Z -/
def xm_c25 : List Instr := [.iload 2, .iload 3, .if_icmp .lt 17, .aload 0, .aload 1, .aload 0, .getfield 130, .iload 3, .sipush 1, .isub, .iaload, .aload 0, .getfield 130, .sipush 0, .iaload, .invokevirtual 27, .freturn, .aload 0, .getfield 130, .sipush 0, .iaload, .sipush 1, .iadd, .istore 4, .iload 4, .aload 0, .getfield 132, .if_icmp .ge 61, .aload 0, .iload 4, .iload 2, .invokevirtual 26, .ifCond .ne 59, .aload 0, .aload 1, .aload 0, .getfield 130, .iload 2, .sipush 1, .isub, .iaload, .iload 4, .invokevirtual 27, .ifCond .eq 59, .aload 0, .getfield 130, .iload 2, .iload 4, .iastore, .aload 0, .aload 1, .iload 2, .sipush 1, .iadd, .iload 3, .invokevirtual 25, .ifCond .eq 59, .sipush 1, .freturn, .iinc 4 1, .goto 24, .sipush 0, .freturn]
def xm_p25 : List Nat := [0, 1, 2, 5, 6, 7, 8, 11, 12, 13, 14, 15, 16, 19, 20, 21, 24, 25, 26, 29, 30, 31, 32, 33, 35, 37, 38, 41, 44, 45, 47, 48, 51, 54, 55, 56, 57, 60, 61, 62, 63, 64, 66, 69, 72, 73, 76, 77, 79, 80, 81, 82, 83, 84, 85, 86, 89, 92, 93, 94, 97, 100, 101]
def xm_i25 : xe_I := (⟨"NinthDayHooded$People", "goesRound", "([III)Z"⟩, prog_4_method_6_code, 5, (Option.some Jvm.ClassFile.FieldType.boolean), 2, 1, 3, 0, 0, xm_c25, xm_p25)
/-- NinthDayHooded$People.isInRing(II)Z -/
def xm_c26 : List Instr := [.sipush 0, .istore 3, .iload 3, .iload 2, .if_icmp .ge 15, .aload 0, .getfield 130, .iload 3, .iaload, .iload 1, .if_icmp .ne 13, .sipush 1, .freturn, .iinc 3 1, .goto 2, .sipush 0, .freturn]
def xm_p26 : List Nat := [0, 1, 2, 3, 4, 7, 8, 11, 12, 13, 14, 17, 18, 19, 22, 25, 26]
def xm_i26 : xe_I := (⟨"NinthDayHooded$People", "isInRing", "(II)Z"⟩, prog_4_method_7_code, 4, (Option.some Jvm.ClassFile.FieldType.boolean), 2, 1, 2, 0, 0, xm_c26, xm_p26)
/-- NinthDayHooded$People.wants([III)Z -/
def xm_c27 : List Instr := [.aload 0, .getfield 129, .iload 2, .sipush 9, .imul, .aload 1, .iload 3, .iaload, .iadd, .iaload, .aload 0, .getfield 129, .iload 2, .sipush 9, .imul, .aload 1, .iload 2, .iaload, .iadd, .iaload, .if_icmp .le 23, .sipush 1, .goto 24, .sipush 0, .freturn]
def xm_p27 : List Nat := [0, 1, 4, 5, 7, 8, 9, 10, 11, 12, 13, 14, 17, 18, 20, 21, 22, 23, 24, 25, 26, 29, 30, 33, 34]
def xm_i27 : xe_I := (⟨"NinthDayHooded$People", "wants", "([III)Z"⟩, prog_4_method_8_code, 4, (Option.some Jvm.ClassFile.FieldType.boolean), 2, 1, 3, 0, 0, xm_c27, xm_p27)
/-- NinthDayHooded$People.turnRing([II)V -/
def xm_c28 : List Instr := [.aload 1, .aload 0, .getfield 130, .sipush 0, .iaload, .iaload, .istore 3, .sipush 0, .istore 4, .iload 4, .sipush 1, .iadd, .iload 2, .if_icmp .ge 30, .aload 1, .aload 0, .getfield 130, .iload 4, .iaload, .aload 1, .aload 0, .getfield 130, .iload 4, .sipush 1, .iadd, .iaload, .iaload, .iastore, .iinc 4 1, .goto 9, .aload 1, .aload 0, .getfield 130, .iload 2, .sipush 1, .isub, .iaload, .iload 3, .iastore, .return_]
def xm_p28 : List Nat := [0, 1, 2, 5, 6, 7, 8, 9, 10, 12, 14, 15, 16, 17, 20, 21, 22, 25, 27, 28, 29, 30, 33, 35, 36, 37, 38, 39, 40, 43, 46, 47, 48, 51, 52, 53, 54, 55, 56, 57]
def xm_i28 : xe_I := (⟨"NinthDayHooded$People", "turnRing", "([II)V"⟩, prog_4_method_9_code, 5, (Option.none : Option Jvm.ClassFile.FieldType), 2, 1, 2, 0, 0, xm_c28, xm_p28)
/-- NinthDayHooded$People.mostLiked([I)I -/
def xm_c29 : List Instr := [.aload 0, .getfield 131, .sipush 0, .sipush 0, .iastore, .sipush 1, .istore 2, .iload 2, .aload 0, .invokevirtual 23, .if_icmp .gt 61, .iload 2, .invokestatic 0, .sipush 1, .isub, .istore 3, .sipush 0, .istore 4, .sipush 0, .istore 5, .iload 5, .aload 0, .getfield 132, .if_icmp .ge 54, .iload 2, .iload 5, .ishr, .sipush 1, .iand, .ifCond .eq 52, .iload 4, .aload 0, .getfield 131, .iload 2, .sipush 1, .iload 5, .ishl, .ixor, .iaload, .aload 0, .getfield 129, .iload 3, .sipush 9, .imul, .aload 1, .iload 5, .iaload, .iadd, .iaload, .iadd, .invokestatic 4, .istore 4, .iinc 5 1, .goto 20, .aload 0, .getfield 131, .iload 2, .iload 4, .iastore, .iinc 2 1, .goto 7, .aload 0, .getfield 131, .aload 0, .invokevirtual 23, .iaload, .ireturn]
def xm_p29 : List Nat := [0, 1, 4, 5, 6, 7, 8, 9, 10, 11, 14, 17, 18, 21, 22, 23, 24, 25, 27, 28, 30, 32, 33, 36, 39, 40, 42, 43, 44, 45, 48, 50, 51, 54, 55, 56, 58, 59, 60, 61, 62, 65, 66, 68, 69, 70, 72, 73, 74, 75, 76, 79, 81, 84, 87, 88, 91, 92, 94, 95, 98, 101, 102, 105, 106, 109, 110]
def xm_i29 : xe_I := (⟨"NinthDayHooded$People", "mostLiked", "([I)I"⟩, prog_4_method_10_code, 6, (Option.some Jvm.ClassFile.FieldType.int), 2, 1, 1, 0, 0, xm_c29, xm_p29)
/-- NinthDayHooded$Row.<init>()V -/
def xm_c30 : List Instr := [.aload 0, .nop, .aload 0, .sipush 12, .newarray .int, .putfield 192, .aload 0, .sipush 0, .putfield 193, .return_]
def xm_p30 : List Nat := [0, 1, 4, 5, 7, 9, 12, 13, 14, 17]
def xm_i30 : xe_I := (⟨"NinthDayHooded$Row", "<init>", "()V"⟩, prog_5_method_1_code, 1, (Option.none : Option Jvm.ClassFile.FieldType), 3, 2, 0, 1, 12, xm_c30, xm_p30)
/-- NinthDayHooded$Row.clear()V -/
def xm_c31 : List Instr := [.aload 0, .sipush 0, .putfield 193, .return_]
def xm_p31 : List Nat := [0, 1, 2, 5]
def xm_i31 : xe_I := (⟨"NinthDayHooded$Row", "clear", "()V"⟩, prog_5_method_2_code, 1, (Option.none : Option Jvm.ClassFile.FieldType), 3, 1, 0, 0, 0, xm_c31, xm_p31)
/-- NinthDayHooded$Row.put(I)V -/
def xm_c32 : List Instr := [.aload 0, .getfield 193, .sipush 12, .if_icmp .ge 16, .aload 0, .getfield 192, .aload 0, .getfield 193, .iload 1, .iastore, .aload 0, .dup, .getfield 193, .sipush 1, .iadd, .putfield 193, .return_]
def xm_p32 : List Nat := [0, 1, 4, 6, 9, 10, 13, 14, 17, 18, 19, 20, 21, 24, 25, 26, 29]
def xm_i32 : xe_I := (⟨"NinthDayHooded$Row", "put", "(I)V"⟩, prog_5_method_3_code, 2, (Option.none : Option Jvm.ClassFile.FieldType), 3, 1, 1, 0, 0, xm_c32, xm_p32)
/-- NinthDayHooded$Rule.<init>()V -/
def xm_c33 : List Instr := [.aload 0, .nop, .aload 0, .sipush 40, .newarray .int, .putfield 256, .aload 0, .sipush 40, .newarray .int, .putfield 257, .aload 0, .sipush 40, .newarray .int, .putfield 258, .aload 0, .sipush 40, .newarray .int, .putfield 259, .aload 0, .sipush 7, .newarray .int, .putfield 260, .aload 0, .sipush 5, .newarray .boolean, .putfield 261, .aload 0, .sipush 0, .putfield 262, .aload 0, .sipush 0, .putfield 263, .aload 0, .sipush 0, .putfield 264, .aload 0, .sipush 0, .putfield 265, .aload 0, .sipush 0, .putfield 266, .aload 0, .sipush 1, .putfield 267, .return_]
def xm_p33 : List Nat := [0, 1, 4, 5, 7, 9, 12, 13, 15, 17, 20, 21, 23, 25, 28, 29, 31, 33, 36, 37, 39, 41, 44, 45, 46, 48, 51, 52, 53, 56, 57, 58, 61, 62, 63, 66, 67, 68, 71, 72, 73, 76, 77, 78, 81]
def xm_i33 : xe_I := (⟨"NinthDayHooded$Rule", "<init>", "()V"⟩, prog_6_method_1_code, 1, (Option.none : Option Jvm.ClassFile.FieldType), 4, 2, 0, 6, 172, xm_c33, xm_p33)
/-- NinthDayHooded$Rule.read(LNinthDayHooded$Text;)I -/
def xm_c34 : List Instr := [.aload 0, .invokevirtual 35, .aload 1, .getfield 449, .sipush 40, .invokestatic 5, .istore 2, .sipush 0, .istore 3, .iload 3, .iload 2, .if_icmp .ge 33, .aload 0, .getfield 267, .ifCond .eq 21, .aload 0, .aload 1, .iload 3, .invokevirtual 75, .invokevirtual 36, .goto 26, .aload 0, .aload 1, .iload 3, .invokevirtual 75, .invokevirtual 38, .istore 4, .iload 4, .ifCond .ne 31, .iload 3, .ireturn, .iinc 3 1, .goto 9, .aload 1, .getfield 449, .sipush 40, .if_icmp .le 39, .sipush 40, .ireturn, .aload 0, .getfield 267, .ifCond .ne 45, .aload 0, .getfield 265, .ifCond .le 51, .aload 1, .getfield 449, .ifCond .le 51, .aload 1, .getfield 449, .ireturn, .aload 0, .sipush 0, .invokevirtual 43, .aload 0, .getfield 257, .sipush 0, .aload 0, .getfield 256, .sipush 0, .sipush 40, .monitorenter, .aload 0, .aload 0, .getfield 263, .putfield 262, .sipush (-1), .ireturn]
def xm_p34 : List Nat := [0, 1, 4, 5, 8, 10, 13, 14, 15, 16, 17, 18, 21, 22, 25, 28, 29, 30, 31, 34, 37, 40, 41, 42, 43, 46, 49, 51, 53, 56, 57, 58, 61, 64, 65, 68, 70, 73, 75, 76, 77, 80, 83, 84, 87, 90, 91, 94, 97, 98, 101, 102, 103, 104, 107, 108, 111, 112, 113, 116, 117, 119, 122, 123, 124, 127, 130, 131]
def xm_i34 : xe_I := (⟨"NinthDayHooded$Rule", "read", "(LNinthDayHooded$Text;)I"⟩, prog_6_method_2_code, 5, (Option.some Jvm.ClassFile.FieldType.int), 4, 1, 1, 0, 0, xm_c34, xm_p34)
/-- NinthDayHooded$Rule.begin()V -/
def xm_c35 : List Instr := [.aload 0, .sipush 0, .putfield 263, .aload 0, .sipush 0, .putfield 264, .aload 0, .sipush 0, .putfield 265, .aload 0, .sipush 0, .putfield 266, .aload 0, .sipush 1, .putfield 267, .aload 0, .getfield 261, .sipush 0, .sipush 0, .bastore, .return_]
def xm_p35 : List Nat := [0, 1, 2, 5, 6, 7, 10, 11, 12, 15, 16, 17, 20, 21, 22, 25, 26, 29, 30, 31, 32]
def xm_i35 : xe_I := (⟨"NinthDayHooded$Rule", "begin", "()V"⟩, prog_6_method_3_code, 1, (Option.none : Option Jvm.ClassFile.FieldType), 4, 1, 0, 0, 0, xm_c35, xm_p35)
/-- NinthDayHooded$Rule.takesAhead(I)Z -/
def xm_c36 : List Instr := [.iload 1, .sipush 45, .if_icmp .ne 8, .aload 0, .sipush 256, .invokevirtual 42, .sipush 1, .freturn, .iload 1, .sipush 40, .if_icmp .ne 14, .aload 0, .invokevirtual 37, .freturn, .iload 1, .sipush 48, .if_icmp .lt 29, .iload 1, .sipush 57, .if_icmp .gt 29, .aload 0, .iload 1, .sipush 48, .isub, .invokevirtual 41, .aload 0, .sipush 1, .putfield 266, .goto 45, .iload 1, .invokestatic 45, .sipush (-1), .if_icmp .eq 43, .aload 0, .sipush (-1), .iload 1, .invokestatic 45, .isub, .invokevirtual 41, .aload 0, .sipush 0, .putfield 266, .goto 45, .sipush 0, .freturn, .aload 0, .sipush 0, .putfield 267, .sipush 1, .freturn]
def xm_p36 : List Nat := [0, 1, 3, 6, 7, 10, 13, 14, 15, 16, 18, 21, 22, 25, 26, 27, 29, 32, 33, 35, 38, 39, 40, 42, 43, 46, 47, 48, 51, 54, 55, 58, 59, 62, 63, 64, 65, 68, 69, 72, 73, 74, 77, 80, 81, 82, 83, 84, 87, 88]
def xm_i36 : xe_I := (⟨"NinthDayHooded$Rule", "takesAhead", "(I)Z"⟩, prog_6_method_4_code, 2, (Option.some Jvm.ClassFile.FieldType.boolean), 4, 1, 1, 0, 0, xm_c36, xm_p36)
/-- NinthDayHooded$Rule.opens()Z -/
def xm_c37 : List Instr := [.aload 0, .getfield 265, .sipush 4, .if_icmp .ne 6, .sipush 0, .freturn, .aload 0, .sipush 40, .invokevirtual 42, .aload 0, .dup, .getfield 265, .sipush 1, .iadd, .putfield 265, .aload 0, .getfield 261, .aload 0, .getfield 265, .sipush 0, .bastore, .sipush 1, .freturn]
def xm_p37 : List Nat := [0, 1, 4, 5, 8, 9, 10, 11, 13, 16, 17, 18, 21, 22, 23, 26, 27, 30, 31, 34, 35, 36, 37]
def xm_i37 : xe_I := (⟨"NinthDayHooded$Rule", "opens", "()Z"⟩, prog_6_method_5_code, 1, (Option.some Jvm.ClassFile.FieldType.boolean), 4, 1, 0, 0, 0, xm_c37, xm_p37)
/-- NinthDayHooded$Rule.takesBehind(I)Z -/
def xm_c38 : List Instr := [.iload 1, .sipush 48, .if_icmp .lt 12, .iload 1, .sipush 57, .if_icmp .gt 12, .aload 0, .iload 1, .sipush 48, .isub, .invokevirtual 39, .freturn, .iload 1, .sipush 41, .if_icmp .ne 18, .aload 0, .invokevirtual 40, .freturn, .iload 1, .invokestatic 44, .istore 2, .iload 2, .ifCond .eq 32, .iload 2, .sipush 1, .if_icmp .ne 34, .aload 0, .getfield 261, .aload 0, .getfield 265, .baload, .ifCond .eq 34, .sipush 0, .freturn, .iload 2, .sipush 1, .if_icmp .ne 43, .aload 0, .getfield 261, .aload 0, .getfield 265, .sipush 1, .bastore, .aload 0, .iload 2, .invokevirtual 43, .aload 0, .iload 1, .invokevirtual 42, .aload 0, .sipush 1, .putfield 267, .sipush 1, .freturn]
def xm_p38 : List Nat := [0, 1, 3, 6, 7, 9, 12, 13, 14, 16, 17, 20, 21, 22, 24, 27, 28, 31, 32, 33, 36, 37, 38, 41, 42, 43, 46, 47, 50, 51, 54, 55, 58, 59, 60, 61, 62, 65, 66, 69, 70, 73, 74, 75, 76, 77, 80, 81, 82, 85, 86, 87, 90, 91]
def xm_i38 : xe_I := (⟨"NinthDayHooded$Rule", "takesBehind", "(I)Z"⟩, prog_6_method_6_code, 3, (Option.some Jvm.ClassFile.FieldType.boolean), 4, 1, 1, 0, 0, xm_c38, xm_p38)
/-- NinthDayHooded$Rule.lengthens(I)Z -/
def xm_c39 : List Instr := [.aload 0, .getfield 266, .ifCond .eq 10, .aload 0, .getfield 266, .sipush 3, .if_icmp .eq 10, .aload 0, .getfield 263, .ifCond .ne 12, .sipush 0, .freturn, .aload 0, .getfield 257, .aload 0, .getfield 263, .sipush 1, .isub, .aload 0, .getfield 257, .aload 0, .getfield 263, .sipush 1, .isub, .iaload, .sipush 10, .imul, .iload 1, .iadd, .iastore, .aload 0, .dup, .getfield 266, .sipush 1, .iadd, .putfield 266, .sipush 1, .freturn]
def xm_p39 : List Nat := [0, 1, 4, 7, 8, 11, 12, 15, 16, 19, 22, 23, 24, 25, 28, 29, 32, 33, 34, 35, 38, 39, 42, 43, 44, 45, 47, 48, 49, 50, 51, 52, 53, 56, 57, 58, 61, 62]
def xm_i39 : xe_I := (⟨"NinthDayHooded$Rule", "lengthens", "(I)Z"⟩, prog_6_method_7_code, 2, (Option.some Jvm.ClassFile.FieldType.boolean), 4, 1, 1, 0, 0, xm_c39, xm_p39)
/-- NinthDayHooded$Rule.closes()Z -/
def xm_c40 : List Instr := [.aload 0, .getfield 265, .ifCond .ne 5, .sipush 0, .freturn, .aload 0, .sipush 0, .invokevirtual 43, .aload 0, .sipush 0, .aload 0, .getfield 264, .sipush 1, .isub, .invokestatic 4, .putfield 264, .aload 0, .dup, .getfield 265, .sipush 1, .isub, .putfield 265, .aload 0, .sipush 0, .putfield 266, .sipush 1, .freturn]
def xm_p40 : List Nat := [0, 1, 4, 7, 8, 9, 10, 11, 14, 15, 16, 17, 20, 21, 22, 25, 28, 29, 30, 33, 34, 35, 38, 39, 40, 43, 44]
def xm_i40 : xe_I := (⟨"NinthDayHooded$Rule", "closes", "()Z"⟩, prog_6_method_8_code, 1, (Option.some Jvm.ClassFile.FieldType.boolean), 4, 1, 0, 0, 0, xm_c40, xm_p40)
/-- NinthDayHooded$Rule.put(I)V -/
def xm_c41 : List Instr := [.aload 0, .getfield 263, .sipush 40, .if_icmp .ge 16, .aload 0, .getfield 257, .aload 0, .getfield 263, .iload 1, .iastore, .aload 0, .dup, .getfield 263, .sipush 1, .iadd, .putfield 263, .return_]
def xm_p41 : List Nat := [0, 1, 4, 6, 9, 10, 13, 14, 17, 18, 19, 20, 21, 24, 25, 26, 29]
def xm_i41 : xe_I := (⟨"NinthDayHooded$Rule", "put", "(I)V"⟩, prog_6_method_9_code, 2, (Option.none : Option Jvm.ClassFile.FieldType), 4, 1, 1, 0, 0, xm_c41, xm_p41)
/-- NinthDayHooded$Rule.hold(I)V -/
def xm_c42 : List Instr := [.aload 0, .getfield 264, .sipush 40, .if_icmp .ge 16, .aload 0, .getfield 258, .aload 0, .getfield 264, .iload 1, .iastore, .aload 0, .dup, .getfield 264, .sipush 1, .iadd, .putfield 264, .return_]
def xm_p42 : List Nat := [0, 1, 4, 6, 9, 10, 13, 14, 17, 18, 19, 20, 21, 24, 25, 26, 29]
def xm_i42 : xe_I := (⟨"NinthDayHooded$Rule", "hold", "(I)V"⟩, prog_6_method_10_code, 2, (Option.none : Option Jvm.ClassFile.FieldType), 4, 1, 1, 0, 0, xm_c42, xm_p42)
/-- NinthDayHooded$Rule.putWaiting(I)V -/
def xm_c43 : List Instr := [.aload 0, .getfield 264, .ifCond .le 37, .aload 0, .getfield 258, .aload 0, .getfield 264, .sipush 1, .isub, .iaload, .sipush 40, .if_icmp .eq 37, .aload 0, .getfield 258, .aload 0, .getfield 264, .sipush 1, .isub, .iaload, .invokestatic 44, .iload 1, .if_icmp .lt 37, .aload 0, .dup, .getfield 264, .sipush 1, .isub, .putfield 264, .aload 0, .aload 0, .getfield 258, .aload 0, .getfield 264, .iaload, .ineg, .invokevirtual 41, .goto 0, .return_]
def xm_p43 : List Nat := [0, 1, 4, 7, 8, 11, 12, 15, 16, 17, 18, 20, 23, 24, 27, 28, 31, 32, 33, 34, 37, 38, 41, 42, 43, 46, 47, 48, 51, 52, 53, 56, 57, 60, 61, 62, 65, 68]
def xm_i43 : xe_I := (⟨"NinthDayHooded$Rule", "putWaiting", "(I)V"⟩, prog_6_method_11_code, 2, (Option.none : Option Jvm.ClassFile.FieldType), 4, 1, 1, 0, 0, xm_c43, xm_p43)
/-- NinthDayHooded$Rule.strengthOf(I)I -/
def xm_c44 : List Instr := [.iload 0, .lookupswitch 10 #[(42, 6), (43, 4), (45, 4), (47, 6), (60, 2), (61, 2), (62, 2), (256, 8)], .sipush 1, .ireturn, .sipush 2, .ireturn, .sipush 3, .ireturn, .sipush 4, .ireturn, .sipush 0, .ireturn]
def xm_p44 : List Nat := [0, 1, 76, 77, 78, 79, 80, 81, 82, 83, 84, 85]
def xm_i44 : xe_I := (⟨"NinthDayHooded$Rule", "strengthOf", "(I)I"⟩, prog_6_method_12_code, 1, (Option.some Jvm.ClassFile.FieldType.int), 4, 0, 1, 0, 0, xm_c44, xm_p44)
/-- NinthDayHooded$Rule.thingOf(I)I -/
def xm_c45 : List Instr := [.iload 0, .tableswitch 16 100 117 #[10, 16, 16, 16, 16, 12, 14, 8, 16, 16, 16, 16, 16, 16, 6, 16, 2, 4], .sipush 0, .ireturn, .sipush 1, .ireturn, .sipush 2, .ireturn, .sipush 3, .ireturn, .sipush 4, .ireturn, .sipush 5, .ireturn, .sipush 6, .ireturn, .sipush (-1), .ireturn]
def xm_p45 : List Nat := [0, 1, 88, 89, 90, 91, 92, 93, 94, 95, 96, 97, 98, 99, 100, 102, 103, 104]
def xm_i45 : xe_I := (⟨"NinthDayHooded$Rule", "thingOf", "(I)I"⟩, prog_6_method_13_code, 1, (Option.some Jvm.ClassFile.FieldType.int), 4, 0, 1, 0, 0, xm_c45, xm_p45)
/-- NinthDayHooded$Rule.bringThings(LNinthDayHooded$People;LNinthDayHooded$State;III)V -/
def xm_c46 : List Instr := [.aload 0, .getfield 260, .sipush 0, .aload 1, .getfield 128, .iload 3, .sipush 9, .imul, .iload 4, .iadd, .iaload, .iastore, .aload 0, .getfield 260, .sipush 1, .aload 1, .getfield 128, .iload 4, .sipush 9, .imul, .iload 3, .iadd, .iaload, .iastore, .aload 0, .getfield 260, .sipush 2, .aload 2, .getfield 321, .iload 3, .iaload, .aload 2, .getfield 321, .iload 4, .iaload, .invokestatic 177, .iastore, .aload 0, .getfield 260, .sipush 3, .aload 2, .getfield 322, .iload 4, .iaload, .aload 2, .getfield 322, .iload 3, .iaload, .sipush (-1), .ixor, .iand, .invokestatic 0, .iastore, .aload 0, .getfield 260, .sipush 4, .iload 5, .sipush 9, .irem, .iastore, .aload 0, .getfield 260, .sipush 5, .iload 3, .iastore, .aload 0, .getfield 260, .sipush 6, .iload 4, .iastore, .return_]
def xm_p46 : List Nat := [0, 1, 4, 5, 6, 9, 10, 12, 13, 15, 16, 17, 18, 19, 22, 23, 24, 27, 29, 31, 32, 33, 34, 35, 36, 37, 40, 41, 42, 45, 46, 47, 48, 51, 53, 54, 57, 58, 59, 62, 63, 64, 67, 69, 70, 71, 74, 75, 76, 77, 78, 79, 82, 83, 84, 87, 88, 90, 92, 93, 94, 95, 98, 99, 100, 101, 102, 105, 107, 109, 110]
def xm_i46 : xe_I := (⟨"NinthDayHooded$Rule", "bringThings", "(LNinthDayHooded$People;LNinthDayHooded$State;III)V"⟩, prog_6_method_14_code, 6, (Option.none : Option Jvm.ClassFile.FieldType), 4, 1, 5, 0, 0, xm_c46, xm_p46)
/-- NinthDayHooded$Rule.price()I -/
def xm_c47 : List Instr := [.aload 0, .getfield 262, .ifCond .ne 17, .sipush 9, .aload 0, .getfield 260, .sipush 0, .iaload, .isub, .aload 0, .getfield 260, .sipush 2, .iaload, .iadd, .sipush 99, .invokestatic 176, .ireturn, .sipush 0, .istore 1, .sipush 0, .istore 2, .iload 2, .aload 0, .getfield 262, .if_icmp .ge 94, .aload 0, .getfield 256, .iload 2, .iaload, .istore 3, .iload 3, .sipush (-7), .if_icmp .lt 49, .aload 0, .getfield 259, .iload 1, .iload 3, .ifCond .lt 40, .iload 3, .goto 46, .aload 0, .getfield 260, .sipush (-1), .iload 3, .isub, .iaload, .iastore, .iinc 1 1, .goto 92, .iload 3, .sipush (-256), .if_icmp .ne 69, .iload 1, .sipush 1, .if_icmp .lt 69, .aload 0, .getfield 259, .iload 1, .sipush 1, .isub, .aload 0, .getfield 259, .iload 1, .sipush 1, .isub, .iaload, .ineg, .iastore, .goto 92, .iload 1, .sipush 2, .if_icmp .lt 92, .iinc 1 (-1), .aload 0, .getfield 259, .iload 1, .sipush 1, .isub, .iload 3, .ineg, .aload 0, .getfield 259, .iload 1, .sipush 1, .isub, .iaload, .aload 0, .getfield 259, .iload 1, .iaload, .invokestatic 48, .iastore, .iinc 2 1, .goto 21, .aload 0, .getfield 259, .sipush 0, .iaload, .sipush 99, .invokestatic 176, .ireturn]
def xm_p47 : List Nat := [0, 1, 4, 7, 9, 10, 13, 14, 15, 16, 17, 20, 21, 22, 23, 25, 28, 29, 30, 31, 32, 33, 34, 35, 38, 41, 42, 45, 46, 47, 48, 49, 51, 54, 55, 58, 59, 60, 63, 64, 67, 68, 71, 72, 73, 74, 75, 76, 79, 82, 83, 86, 89, 90, 91, 94, 95, 98, 99, 100, 101, 102, 105, 106, 107, 108, 109, 110, 111, 114, 115, 116, 119, 122, 123, 126, 127, 128, 129, 130, 131, 132, 135, 136, 137, 138, 139, 140, 143, 144, 145, 148, 149, 152, 155, 156, 159, 160, 161, 163, 166]
def xm_i47 : xe_I := (⟨"NinthDayHooded$Rule", "price", "()I"⟩, prog_6_method_15_code, 4, (Option.some Jvm.ClassFile.FieldType.int), 4, 1, 0, 0, 0, xm_c47, xm_p47)
/-- NinthDayHooded$Rule.joined(III)I -/
def xm_c48 : List Instr := [.iload 0, .lookupswitch 35 #[(42, 31), (43, 23), (45, 27), (60, 2), (61, 16), (62, 9)], .iload 1, .iload 2, .if_icmp .ge 7, .sipush 1, .goto 8, .sipush 0, .ireturn, .iload 1, .iload 2, .if_icmp .le 14, .sipush 1, .goto 15, .sipush 0, .ireturn, .iload 1, .iload 2, .if_icmp .ne 21, .sipush 1, .goto 22, .sipush 0, .ireturn, .iload 1, .iload 2, .iadd, .ireturn, .iload 1, .iload 2, .isub, .ireturn, .iload 1, .iload 2, .imul, .ireturn, .iload 2, .ifCond .ne 39, .sipush 0, .goto 42, .iload 1, .iload 2, .idiv, .ireturn]
def xm_p48 : List Nat := [0, 1, 60, 61, 62, 65, 66, 69, 70, 71, 72, 73, 76, 77, 80, 81, 82, 83, 84, 87, 88, 91, 92, 93, 94, 95, 96, 97, 98, 99, 100, 101, 102, 103, 104, 105, 106, 109, 110, 113, 114, 115, 116]
def xm_i48 : xe_I := (⟨"NinthDayHooded$Rule", "joined", "(III)I"⟩, prog_6_method_16_code, 3, (Option.some Jvm.ClassFile.FieldType.int), 4, 0, 3, 0, 0, xm_c48, xm_p48)
/-- NinthDayHooded$State.<init>()V -/
def xm_c49 : List Instr := [.aload 0, .nop, .aload 0, .sipush 9, .newarray .int, .putfield 320, .aload 0, .sipush 9, .newarray .int, .putfield 321, .aload 0, .sipush 9, .newarray .int, .putfield 322, .aload 0, .sipush 54, .newarray .int, .putfield 323, .aload 0, .sipush 30, .newarray .long, .putfield 324, .aload 0, .sipush 0, .putfield 325, .return_]
def xm_p49 : List Nat := [0, 1, 4, 5, 7, 9, 12, 13, 15, 17, 20, 21, 23, 25, 28, 29, 31, 33, 36, 37, 39, 41, 44, 45, 46, 49]
def xm_i49 : xe_I := (⟨"NinthDayHooded$State", "<init>", "()V"⟩, prog_7_method_1_code, 1, (Option.none : Option Jvm.ClassFile.FieldType), 5, 2, 0, 5, 111, xm_c49, xm_p49)
/-- NinthDayHooded$State.copyFrom(LNinthDayHooded$State;)V -/
def xm_c50 : List Instr := [.aload 1, .getfield 320, .sipush 0, .aload 0, .getfield 320, .sipush 0, .sipush 9, .monitorenter, .aload 1, .getfield 321, .sipush 0, .aload 0, .getfield 321, .sipush 0, .sipush 9, .monitorenter, .aload 1, .getfield 322, .sipush 0, .aload 0, .getfield 322, .sipush 0, .sipush 9, .monitorenter, .aload 1, .getfield 323, .sipush 0, .aload 0, .getfield 323, .sipush 0, .sipush 54, .monitorenter, .aload 1, .getfield 324, .sipush 0, .aload 0, .getfield 324, .sipush 0, .sipush 30, .monitorexit, .aload 0, .aload 1, .getfield 325, .putfield 325, .return_]
def xm_p50 : List Nat := [0, 1, 4, 5, 6, 9, 10, 12, 15, 16, 19, 20, 21, 24, 25, 27, 30, 31, 34, 35, 36, 39, 40, 42, 45, 46, 49, 50, 51, 54, 55, 57, 60, 61, 64, 65, 66, 69, 70, 72, 75, 76, 77, 80, 83]
def xm_i50 : xe_I := (⟨"NinthDayHooded$State", "copyFrom", "(LNinthDayHooded$State;)V"⟩, prog_7_method_2_code, 2, (Option.none : Option Jvm.ClassFile.FieldType), 5, 1, 1, 0, 0, xm_c50, xm_p50)
/-- NinthDayHooded$State.hoodedOn(II)I -/
def xm_c51 : List Instr := [.sipush 0, .istore 3, .sipush 0, .istore 4, .iload 4, .iload 2, .if_icmp .ge 25, .iload 3, .aload 0, .getfield 320, .iload 4, .iaload, .iload 1, .sipush 9, .irem, .if_icmp .ne 20, .sipush 1, .iload 4, .ishl, .goto 21, .sipush 0, .ior, .istore 3, .iinc 4 1, .goto 4, .iload 3, .ireturn]
def xm_p51 : List Nat := [0, 1, 2, 3, 5, 7, 8, 11, 12, 13, 16, 18, 19, 20, 22, 23, 26, 27, 29, 30, 33, 34, 35, 36, 39, 42, 43]
def xm_i51 : xe_I := (⟨"NinthDayHooded$State", "hoodedOn", "(II)I"⟩, prog_7_method_3_code, 5, (Option.some Jvm.ClassFile.FieldType.int), 5, 1, 2, 0, 0, xm_c51, xm_p51)
/-- NinthDayHooded$State.living(III)I -/
def xm_c52 : List Instr := [.sipush 0, .istore 4, .sipush 0, .istore 5, .iload 5, .iload 3, .if_icmp .ge 25, .iload 4, .aload 0, .getfield 321, .iload 5, .iaload, .iload 1, .invokestatic 177, .iload 2, .if_icmp .gt 20, .sipush 1, .iload 5, .ishl, .goto 21, .sipush 0, .ior, .istore 4, .iinc 5 1, .goto 4, .iload 4, .ireturn]
def xm_p52 : List Nat := [0, 1, 3, 4, 6, 8, 9, 12, 14, 15, 18, 20, 21, 22, 25, 26, 29, 30, 32, 33, 36, 37, 38, 40, 43, 46, 48]
def xm_i52 : xe_I := (⟨"NinthDayHooded$State", "living", "(III)I"⟩, prog_7_method_4_code, 6, (Option.some Jvm.ClassFile.FieldType.int), 5, 1, 3, 0, 0, xm_c52, xm_p52)
/-- NinthDayHooded$State.swapHoods(II)V -/
def xm_c53 : List Instr := [.aload 0, .getfield 320, .iload 1, .iaload, .istore 3, .aload 0, .getfield 320, .iload 1, .aload 0, .getfield 320, .iload 2, .iaload, .iastore, .aload 0, .getfield 320, .iload 2, .iload 3, .iastore, .return_]
def xm_p53 : List Nat := [0, 1, 4, 5, 6, 7, 8, 11, 12, 13, 16, 17, 18, 19, 20, 23, 24, 25, 26]
def xm_i53 : xe_I := (⟨"NinthDayHooded$State", "swapHoods", "(II)V"⟩, prog_7_method_5_code, 4, (Option.none : Option Jvm.ClassFile.FieldType), 5, 1, 2, 0, 0, xm_c53, xm_p53)
/-- NinthDayHooded$State.hasTrade(II)Z -/
def xm_c54 : List Instr := [.aload 0, .getfield 322, .iload 1, .iaload, .iload 2, .ishr, .sipush 1, .iand, .ifCond .eq 11, .sipush 1, .goto 12, .sipush 0, .freturn]
def xm_p54 : List Nat := [0, 1, 4, 5, 6, 7, 8, 9, 10, 13, 14, 17, 18]
def xm_i54 : xe_I := (⟨"NinthDayHooded$State", "hasTrade", "(II)Z"⟩, prog_7_method_6_code, 3, (Option.some Jvm.ClassFile.FieldType.boolean), 5, 1, 2, 0, 0, xm_c54, xm_p54)
/-- NinthDayHooded$State.openLessons(I)I -/
def xm_c55 : List Instr := [.sipush 0, .istore 2, .sipush 0, .istore 3, .iload 3, .sipush 6, .if_icmp .ge 27, .iload 2, .aload 0, .iload 1, .iload 3, .invokevirtual 54, .ifCond .eq 15, .sipush 0, .goto 23, .aload 0, .getfield 323, .iload 1, .sipush 6, .imul, .iload 3, .iadd, .iaload, .iadd, .istore 2, .iinc 3 1, .goto 4, .iload 2, .ireturn]
def xm_p55 : List Nat := [0, 1, 2, 3, 4, 5, 7, 10, 11, 12, 13, 14, 17, 20, 21, 24, 25, 28, 29, 31, 32, 33, 34, 35, 36, 37, 40, 43, 44]
def xm_i55 : xe_I := (⟨"NinthDayHooded$State", "openLessons", "(I)I"⟩, prog_7_method_7_code, 4, (Option.some Jvm.ClassFile.FieldType.int), 5, 1, 1, 0, 0, xm_c55, xm_p55)
/-- NinthDayHooded$State.learn(II)I -/
def xm_c56 : List Instr := [.aload 0, .getfield 322, .iload 2, .iaload, .aload 0, .getfield 322, .iload 1, .iaload, .sipush (-1), .ixor, .iand, .istore 3, .sipush 0, .istore 4, .iload 4, .sipush 6, .if_icmp .ge 61, .iload 3, .iload 4, .ishr, .sipush 1, .iand, .ifCond .eq 59, .aload 0, .getfield 323, .iload 1, .sipush 6, .imul, .iload 4, .iadd, .dup2, .iaload, .sipush 1, .iadd, .iastore, .aload 0, .getfield 323, .iload 1, .sipush 6, .imul, .iload 4, .iadd, .iaload, .sipush 3, .if_icmp .ge 47, .sipush 0, .ireturn, .aload 0, .getfield 322, .iload 1, .dup2, .iaload, .sipush 1, .iload 4, .ishl, .ior, .iastore, .sipush 1, .ireturn, .iinc 4 1, .goto 14, .sipush 0, .ireturn]
def xm_p56 : List Nat := [0, 1, 4, 5, 6, 7, 10, 11, 12, 13, 14, 15, 16, 17, 19, 21, 23, 26, 27, 29, 30, 31, 32, 35, 36, 39, 40, 42, 43, 45, 46, 47, 48, 49, 50, 51, 52, 55, 56, 58, 59, 61, 62, 63, 64, 67, 68, 69, 70, 73, 74, 75, 76, 77, 79, 80, 81, 82, 83, 84, 87, 90, 91]
def xm_i56 : xe_I := (⟨"NinthDayHooded$State", "learn", "(II)I"⟩, prog_7_method_8_code, 5, (Option.some Jvm.ClassFile.FieldType.int), 5, 1, 2, 0, 0, xm_c56, xm_p56)
/-- NinthDayHooded$State.bookDays()I -/
def xm_c57 : List Instr := [.aload 0, .getfield 325, .sipush 30, .invokestatic 5, .ireturn]
def xm_p57 : List Nat := [0, 1, 4, 6, 9]
def xm_i57 : xe_I := (⟨"NinthDayHooded$State", "bookDays", "()I"⟩, prog_7_method_9_code, 1, (Option.some Jvm.ClassFile.FieldType.int), 5, 1, 0, 0, 0, xm_c57, xm_p57)
/-- NinthDayHooded$State.entry(II)I -/
def xm_c58 : List Instr := [.aload 0, .getfield 325, .iload 2, .isub, .sipush 30, .invokestatic 3, .istore 3, .aload 0, .getfield 324, .iload 3, .laload, .iload 1, .sipush 4, .imul, .lushr, .l2i, .sipush 15, .iand, .ireturn]
def xm_p58 : List Nat := [0, 1, 4, 5, 6, 8, 11, 12, 13, 16, 17, 18, 19, 20, 21, 22, 23, 25, 26]
def xm_i58 : xe_I := (⟨"NinthDayHooded$State", "entry", "(II)I"⟩, prog_7_method_10_code, 4, (Option.some Jvm.ClassFile.FieldType.int), 5, 1, 2, 0, 0, xm_c58, xm_p58)
/-- NinthDayHooded$State.openPage(I)V -/
def xm_c59 : List Instr := [.lconst 0, .lstore 2, .sipush 8, .istore 4, .iload 4, .ifCond .lt 20, .lload 2, .sipush 4, .lshl, .iload 4, .iload 1, .if_icmp .ge 14, .sipush 10, .goto 15, .sipush 11, .i2l, .lor, .lstore 2, .iinc 4 (-1), .goto 4, .aload 0, .getfield 324, .aload 0, .getfield 325, .sipush 30, .irem, .lload 2, .lastore, .return_]
def xm_p59 : List Nat := [0, 1, 2, 4, 6, 8, 11, 12, 13, 14, 16, 17, 20, 22, 25, 27, 28, 29, 30, 33, 36, 37, 40, 41, 44, 46, 47, 48, 49]
def xm_i59 : xe_I := (⟨"NinthDayHooded$State", "openPage", "(I)V"⟩, prog_7_method_11_code, 5, (Option.none : Option Jvm.ClassFile.FieldType), 5, 1, 1, 0, 0, xm_c59, xm_p59)
/-- NinthDayHooded$State.write(II)V -/
def xm_c60 : List Instr := [.aload 0, .getfield 325, .sipush 30, .irem, .istore 3, .sipush 10, .iload 2, .ixor, .i2l, .lstore 4, .aload 0, .getfield 324, .iload 3, .dup2, .laload, .lload 4, .iload 1, .sipush 4, .imul, .lshl, .lxor, .lastore, .return_]
def xm_p60 : List Nat := [0, 1, 4, 6, 7, 8, 10, 11, 12, 13, 15, 16, 19, 20, 21, 22, 24, 25, 26, 27, 28, 29, 30]
def xm_i60 : xe_I := (⟨"NinthDayHooded$State", "write", "(II)V"⟩, prog_7_method_12_code, 6, (Option.none : Option Jvm.ClassFile.FieldType), 5, 1, 2, 0, 0, xm_c60, xm_p60)
/-- NinthDayHooded$Tasks.<init>()V -/
def xm_c61 : List Instr := [.aload 0, .nop, .aload 0, .sipush 6, .newarray .int, .putfield 384, .aload 0, .sipush 6, .newarray .int, .putfield 385, .aload 0, .sipush 64, .newarray .int, .putfield 386, .aload 0, .sipush 64, .newarray .int, .putfield 387, .aload 0, .sipush 512, .newarray .int, .putfield 388, .aload 0, .sipush 9, .newarray .int, .putfield 389, .aload 0, .sipush 2, .newarray .int, .putfield 390, .aload 0, .sipush 2, .newarray .int, .putfield 391, .aload 0, .sipush 0, .putfield 392, .aload 0, .sipush 0, .putfield 393, .aload 0, .sipush 0, .putfield 394, .return_]
def xm_p61 : List Nat := [0, 1, 4, 5, 7, 9, 12, 13, 15, 17, 20, 21, 23, 25, 28, 29, 31, 33, 36, 37, 40, 42, 45, 46, 48, 50, 53, 54, 55, 57, 60, 61, 62, 64, 67, 68, 69, 72, 73, 74, 77, 78, 79, 82]
def xm_i61 : xe_I := (⟨"NinthDayHooded$Tasks", "<init>", "()V"⟩, prog_8_method_1_code, 1, (Option.none : Option Jvm.ClassFile.FieldType), 6, 2, 0, 8, 665, xm_c61, xm_p61)
/-- NinthDayHooded$Tasks.add(II)V -/
def xm_c62 : List Instr := [.aload 0, .getfield 392, .sipush 6, .if_icmp .ge 22, .aload 0, .getfield 384, .aload 0, .getfield 392, .iload 1, .iastore, .aload 0, .getfield 385, .aload 0, .getfield 392, .iload 2, .iastore, .aload 0, .dup, .getfield 392, .sipush 1, .iadd, .putfield 392, .return_]
def xm_p62 : List Nat := [0, 1, 4, 6, 9, 10, 13, 14, 17, 18, 19, 20, 23, 24, 27, 28, 29, 30, 31, 34, 35, 36, 39]
def xm_i62 : xe_I := (⟨"NinthDayHooded$Tasks", "add", "(II)V"⟩, prog_8_method_2_code, 3, (Option.none : Option Jvm.ClassFile.FieldType), 6, 1, 2, 0, 0, xm_c62, xm_p62)
/-- NinthDayHooded$Tasks.look(LNinthDayHooded$State;I)V -/
def xm_c63 : List Instr := [.aload 0, .sipush 1, .iload 2, .ishl, .sipush 1, .isub, .putfield 393, .sipush 0, .istore 3, .iload 3, .sipush 9, .if_icmp .ge 22, .aload 0, .getfield 389, .iload 3, .aload 1, .iload 3, .iload 2, .invokevirtual 51, .iastore, .iinc 3 1, .goto 9, .aload 0, .getfield 386, .sipush 0, .invokestatic 6, .aload 0, .getfield 387, .sipush 0, .invokestatic 6, .aload 0, .getfield 388, .sipush (-1), .invokestatic 6, .aload 0, .sipush 0, .putfield 394, .sipush 0, .istore 3, .iload 3, .aload 0, .getfield 392, .if_icmp .ge 72, .aload 0, .getfield 386, .sipush 1, .aload 0, .getfield 384, .iload 3, .iaload, .ishl, .dup2, .iaload, .aload 0, .getfield 385, .iload 3, .iaload, .iadd, .iastore, .aload 0, .dup, .getfield 394, .sipush 1, .aload 0, .getfield 384, .iload 3, .iaload, .ishl, .ior, .putfield 394, .iinc 3 1, .goto 39, .sipush 0, .istore 3, .iload 3, .iload 2, .if_icmp .ge 105, .sipush 0, .istore 4, .iload 4, .sipush 6, .if_icmp .ge 103, .aload 0, .getfield 387, .sipush 1, .iload 4, .ishl, .dup2, .iaload, .aload 1, .iload 3, .iload 4, .invokevirtual 54, .ifCond .eq 98, .sipush 1, .iload 3, .ishl, .goto 99, .sipush 0, .ior, .iastore, .iinc 4 1, .goto 79, .iinc 3 1, .goto 74, .sipush 1, .istore 3, .iload 3, .sipush 64, .if_icmp .ge 150, .iload 3, .iload 3, .ineg, .iand, .istore 4, .iload 4, .iload 3, .if_icmp .eq 148, .aload 0, .getfield 386, .iload 3, .aload 0, .getfield 386, .iload 4, .iaload, .aload 0, .getfield 386, .iload 3, .iload 4, .ixor, .iaload, .iadd, .iastore, .aload 0, .getfield 387, .iload 3, .aload 0, .getfield 387, .iload 4, .iaload, .aload 0, .getfield 387, .iload 3, .iload 4, .ixor, .iaload, .ior, .iastore, .iinc 3 1, .goto 107, .return_]
def xm_p63 : List Nat := [0, 1, 2, 3, 4, 5, 6, 9, 10, 11, 12, 14, 17, 18, 21, 22, 23, 24, 25, 28, 29, 32, 35, 36, 39, 40, 43, 44, 47, 48, 51, 52, 55, 56, 59, 60, 61, 64, 65, 66, 67, 68, 71, 74, 75, 78, 79, 80, 83, 84, 85, 86, 87, 88, 89, 92, 93, 94, 95, 96, 97, 98, 101, 102, 103, 106, 107, 108, 109, 110, 113, 116, 119, 120, 121, 122, 123, 126, 127, 129, 131, 133, 136, 137, 140, 141, 143, 144, 145, 146, 147, 148, 150, 153, 156, 157, 158, 159, 162, 163, 164, 165, 168, 171, 174, 177, 178, 179, 180, 182, 185, 186, 187, 188, 189, 191, 193, 194, 197, 198, 201, 202, 203, 206, 208, 209, 210, 213, 214, 216, 217, 218, 219, 220, 221, 224, 225, 226, 229, 231, 232, 233, 236, 237, 239, 240, 241, 242, 243, 246, 249]
def xm_i63 : xe_I := (⟨"NinthDayHooded$Tasks", "look", "(LNinthDayHooded$State;I)V"⟩, prog_8_method_3_code, 5, (Option.none : Option Jvm.ClassFile.FieldType), 6, 1, 2, 0, 0, xm_c63, xm_p63)
/-- NinthDayHooded$Tasks.seeing(I)I -/
def xm_c64 : List Instr := [.aload 0, .getfield 393, .aload 0, .getfield 389, .iload 1, .iaload, .sipush (-1), .ixor, .iand, .ireturn]
def xm_p64 : List Nat := [0, 1, 4, 5, 8, 9, 10, 11, 12, 13]
def xm_i64 : xe_I := (⟨"NinthDayHooded$Tasks", "seeing", "(I)I"⟩, prog_8_method_4_code, 2, (Option.some Jvm.ClassFile.FieldType.int), 6, 1, 1, 0, 0, xm_c64, xm_p64)
/-- NinthDayHooded$Tasks.wanting(I)I -/
def xm_c65 : List Instr := [.aload 0, .getfield 388, .iload 1, .iaload, .sipush (-1), .if_icmp .ne 14, .aload 0, .getfield 388, .iload 1, .aload 0, .iload 1, .sipush 0, .invokevirtual 66, .iastore, .aload 0, .getfield 388, .iload 1, .iaload, .ireturn]
def xm_p65 : List Nat := [0, 1, 4, 5, 6, 7, 10, 11, 14, 15, 16, 17, 18, 21, 22, 23, 26, 27, 28]
def xm_i65 : xe_I := (⟨"NinthDayHooded$Tasks", "wanting", "(I)I"⟩, prog_8_method_5_code, 2, (Option.some Jvm.ClassFile.FieldType.int), 6, 1, 1, 0, 0, xm_c65, xm_p65)
/-- NinthDayHooded$Tasks.wantingWith(II)I -/
def xm_c66 : List Instr := [.sipush 0, .istore 3, .aload 0, .getfield 394, .istore 4, .iload 4, .ifCond .le 40, .aload 0, .getfield 387, .iload 4, .iaload, .iload 1, .iand, .invokestatic 0, .iload 4, .iload 2, .iand, .ifCond .eq 20, .sipush 1, .goto 21, .sipush 0, .iadd, .istore 5, .iload 3, .aload 0, .getfield 386, .iload 4, .iaload, .iload 5, .isub, .invokestatic 4, .istore 3, .iload 4, .sipush 1, .isub, .aload 0, .getfield 394, .iand, .istore 4, .goto 5, .iload 3, .ireturn]
def xm_p66 : List Nat := [0, 1, 2, 3, 6, 8, 10, 13, 14, 17, 19, 20, 21, 22, 25, 27, 28, 29, 32, 33, 36, 37, 38, 40, 41, 42, 45, 47, 48, 50, 51, 54, 55, 57, 58, 59, 60, 63, 64, 66, 69, 70]
def xm_i66 : xe_I := (⟨"NinthDayHooded$Tasks", "wantingWith", "(II)I"⟩, prog_8_method_6_code, 6, (Option.some Jvm.ClassFile.FieldType.int), 6, 1, 2, 0, 0, xm_c66, xm_p66)
/-- NinthDayHooded$Tasks.wantingInAll()I -/
def xm_c67 : List Instr := [.sipush 0, .istore 1, .sipush 0, .istore 2, .iload 2, .sipush 9, .if_icmp .ge 17, .iload 1, .aload 0, .aload 0, .iload 2, .invokevirtual 64, .invokevirtual 65, .iadd, .istore 1, .iinc 2 1, .goto 4, .iload 1, .ireturn]
def xm_p67 : List Nat := [0, 1, 2, 3, 4, 5, 7, 10, 11, 12, 13, 14, 17, 20, 21, 22, 25, 28, 29]
def xm_i67 : xe_I := (⟨"NinthDayHooded$Tasks", "wantingInAll", "()I"⟩, prog_8_method_7_code, 3, (Option.some Jvm.ClassFile.FieldType.int), 6, 1, 0, 0, 0, xm_c67, xm_p67)
/-- NinthDayHooded$Tasks.allManned()Z -/
def xm_c68 : List Instr := [.sipush 0, .istore 1, .iload 1, .sipush 9, .if_icmp .ge 15, .aload 0, .aload 0, .iload 1, .invokevirtual 64, .invokevirtual 65, .ifCond .le 13, .sipush 0, .freturn, .iinc 1 1, .goto 2, .sipush 1, .freturn]
def xm_p68 : List Nat := [0, 1, 2, 3, 5, 8, 9, 10, 11, 14, 17, 20, 21, 22, 25, 28, 29]
def xm_i68 : xe_I := (⟨"NinthDayHooded$Tasks", "allManned", "()Z"⟩, prog_8_method_8_code, 2, (Option.some Jvm.ClassFile.FieldType.boolean), 6, 1, 0, 0, 0, xm_c68, xm_p68)
/-- NinthDayHooded$Tasks.move(III)V -/
def xm_c69 : List Instr := [.aload 0, .getfield 389, .iload 2, .dup2, .iaload, .sipush 1, .iload 1, .ishl, .ixor, .iastore, .aload 0, .getfield 389, .iload 3, .dup2, .iaload, .sipush 1, .iload 1, .ishl, .ixor, .iastore, .return_]
def xm_p69 : List Nat := [0, 1, 4, 5, 6, 7, 8, 9, 10, 11, 12, 13, 16, 17, 18, 19, 20, 21, 22, 23, 24]
def xm_i69 : xe_I := (⟨"NinthDayHooded$Tasks", "move", "(III)V"⟩, prog_8_method_9_code, 4, (Option.none : Option Jvm.ClassFile.FieldType), 6, 1, 3, 0, 0, xm_c69, xm_p69)
/-- NinthDayHooded$Tasks.fewestMoves(LNinthDayHooded$State;I)I -/
def xm_c70 : List Instr := [.aload 0, .aload 1, .iload 2, .invokevirtual 63, .sipush 0, .istore 3, .iload 3, .sipush 2, .if_icmp .gt 21, .aload 0, .aload 1, .sipush 0, .sipush 0, .iload 3, .iload 2, .invokevirtual 71, .ifCond .eq 19, .iload 3, .ireturn, .iinc 3 1, .goto 6, .sipush (-2), .ireturn]
def xm_p70 : List Nat := [0, 1, 2, 3, 6, 7, 8, 9, 10, 13, 14, 15, 16, 17, 18, 19, 22, 25, 26, 27, 30, 33, 35]
def xm_i70 : xe_I := (⟨"NinthDayHooded$Tasks", "fewestMoves", "(LNinthDayHooded$State;I)I"⟩, prog_8_method_10_code, 4, (Option.some Jvm.ClassFile.FieldType.int), 6, 1, 2, 0, 0, xm_c70, xm_p70)
/-- NinthDayHooded$Tasks.mannedBy(LNinthDayHooded$State;IIII)Z -/
def xm_c71 : List Instr := [.iload 3, .iload 4, .if_icmp .lt 6, .aload 0, .invokevirtual 68, .freturn, .iload 2, .istore 6, .iload 6, .iload 5, .if_icmp .ge 64, .aload 1, .getfield 320, .iload 6, .iaload, .istore 7, .sipush 0, .istore 8, .iload 8, .sipush 9, .if_icmp .ge 62, .iload 8, .iload 7, .if_icmp .eq 60, .aload 0, .getfield 390, .iload 3, .iload 6, .iastore, .aload 0, .getfield 391, .iload 3, .iload 8, .iastore, .aload 0, .iload 6, .iload 7, .iload 8, .invokevirtual 69, .aload 0, .aload 1, .iload 6, .sipush 1, .iadd, .iload 3, .sipush 1, .iadd, .iload 4, .iload 5, .invokevirtual 71, .istore 9, .aload 0, .iload 6, .iload 8, .iload 7, .invokevirtual 69, .iload 9, .ifCond .eq 60, .sipush 1, .freturn, .iinc 8 1, .goto 18, .iinc 6 1, .goto 8, .sipush 0, .freturn]
def xm_p71 : List Nat := [0, 1, 3, 6, 7, 10, 11, 12, 14, 16, 18, 21, 22, 25, 27, 28, 30, 31, 33, 35, 37, 40, 42, 44, 47, 48, 51, 52, 54, 55, 56, 59, 60, 62, 63, 64, 66, 68, 70, 73, 74, 75, 77, 78, 79, 80, 81, 82, 84, 86, 89, 91, 92, 94, 96, 98, 101, 103, 106, 107, 108, 111, 114, 117, 120, 121]
def xm_i71 : xe_I := (⟨"NinthDayHooded$Tasks", "mannedBy", "(LNinthDayHooded$State;IIII)Z"⟩, prog_8_method_11_code, 10, (Option.some Jvm.ClassFile.FieldType.boolean), 6, 1, 5, 0, 0, xm_c71, xm_p71)
/-- NinthDayHooded$Text.<init>()V -/
def xm_c72 : List Instr := [.aload 0, .nop, .aload 0, .sipush 80, .newarray .int, .putfield 448, .aload 0, .sipush 0, .putfield 449, .return_]
def xm_p72 : List Nat := [0, 1, 4, 5, 7, 9, 12, 13, 14, 17]
def xm_i72 : xe_I := (⟨"NinthDayHooded$Text", "<init>", "()V"⟩, prog_9_method_1_code, 1, (Option.none : Option Jvm.ClassFile.FieldType), 7, 2, 0, 1, 80, xm_c72, xm_p72)
/-- NinthDayHooded$Text.hasRoomFor(I)Z -/
def xm_c73 : List Instr := [.aload 0, .getfield 449, .iload 1, .iadd, .sipush 80, .if_icmp .gt 8, .sipush 1, .goto 9, .sipush 0, .freturn]
def xm_p73 : List Nat := [0, 1, 4, 5, 6, 8, 11, 12, 15, 16]
def xm_i73 : xe_I := (⟨"NinthDayHooded$Text", "hasRoomFor", "(I)Z"⟩, prog_9_method_2_code, 2, (Option.some Jvm.ClassFile.FieldType.boolean), 7, 1, 1, 0, 0, xm_c73, xm_p73)
/-- NinthDayHooded$Text.add(I)V -/
def xm_c74 : List Instr := [.aload 0, .getfield 449, .sipush 80, .if_icmp .ge 16, .aload 0, .getfield 448, .aload 0, .getfield 449, .iload 1, .iastore, .aload 0, .dup, .getfield 449, .sipush 1, .iadd, .putfield 449, .return_]
def xm_p74 : List Nat := [0, 1, 4, 6, 9, 10, 13, 14, 17, 18, 19, 20, 21, 24, 25, 26, 29]
def xm_i74 : xe_I := (⟨"NinthDayHooded$Text", "add", "(I)V"⟩, prog_9_method_3_code, 2, (Option.none : Option Jvm.ClassFile.FieldType), 7, 1, 1, 0, 0, xm_c74, xm_p74)
/-- NinthDayHooded$Text.at(I)I -/
def xm_c75 : List Instr := [.iload 1, .ifCond .lt 11, .iload 1, .aload 0, .getfield 449, .if_icmp .ge 11, .aload 0, .getfield 448, .iload 1, .iaload, .goto 12, .sipush (-1), .ireturn]
def xm_p75 : List Nat := [0, 1, 4, 5, 6, 9, 12, 13, 16, 17, 18, 21, 22]
def xm_i75 : xe_I := (⟨"NinthDayHooded$Text", "at", "(I)I"⟩, prog_9_method_4_code, 2, (Option.some Jvm.ClassFile.FieldType.int), 7, 1, 1, 0, 0, xm_c75, xm_p75)
/-- NinthDayHooded$Text.digitAt(I)I -/
def xm_c76 : List Instr := [.aload 0, .iload 1, .invokevirtual 75, .istore 2, .iload 2, .sipush 48, .if_icmp .lt 14, .iload 2, .sipush 57, .if_icmp .gt 14, .iload 2, .sipush 48, .isub, .goto 15, .sipush (-1), .ireturn]
def xm_p76 : List Nat := [0, 1, 2, 5, 6, 7, 9, 12, 13, 15, 18, 19, 21, 22, 25, 26]
def xm_i76 : xe_I := (⟨"NinthDayHooded$Text", "digitAt", "(I)I"⟩, prog_9_method_5_code, 3, (Option.some Jvm.ClassFile.FieldType.int), 7, 1, 1, 0, 0, xm_c76, xm_p76)
/-- NinthDayHooded$Text.startsPart(I)Z -/
def xm_c77 : List Instr := [.iload 1, .ifCond .eq 9, .aload 0, .iload 1, .sipush 1, .isub, .invokevirtual 75, .sipush 59, .if_icmp .ne 11, .sipush 1, .goto 12, .sipush 0, .freturn]
def xm_p77 : List Nat := [0, 1, 4, 5, 6, 7, 8, 11, 13, 16, 17, 20, 21]
def xm_i77 : xe_I := (⟨"NinthDayHooded$Text", "startsPart", "(I)Z"⟩, prog_9_method_6_code, 2, (Option.some Jvm.ClassFile.FieldType.boolean), 7, 1, 1, 0, 0, xm_c77, xm_p77)
/-- NinthDayHooded$Text.digitsFault(I)I -/
def xm_c78 : List Instr := [.sipush 0, .istore 2, .iload 2, .iload 1, .if_icmp .ge 14, .aload 0, .iload 2, .invokevirtual 76, .sipush (-1), .if_icmp .ne 12, .iload 2, .ireturn, .iinc 2 1, .goto 2, .aload 0, .getfield 449, .iload 1, .if_icmp .le 20, .iload 1, .goto 21, .sipush (-1), .ireturn]
def xm_p78 : List Nat := [0, 1, 2, 3, 4, 7, 8, 9, 12, 13, 16, 17, 18, 21, 24, 25, 28, 29, 32, 33, 36, 37]
def xm_i78 : xe_I := (⟨"NinthDayHooded$Text", "digitsFault", "(I)I"⟩, prog_9_method_7_code, 3, (Option.some Jvm.ClassFile.FieldType.int), 7, 1, 1, 0, 0, xm_c78, xm_p78)
/-- NinthDayHooded$Thefts.<init>()V -/
def xm_c79 : List Instr := [.aload 0, .nop, .aload 0, .sipush 10, .newarray .int, .putfield 512, .aload 0, .sipush 10, .newarray .int, .putfield 513, .aload 0, .sipush 10, .newarray .int, .putfield 514, .aload 0, .sipush 0, .putfield 515, .return_]
def xm_p79 : List Nat := [0, 1, 4, 5, 7, 9, 12, 13, 15, 17, 20, 21, 23, 25, 28, 29, 30, 33]
def xm_i79 : xe_I := (⟨"NinthDayHooded$Thefts", "<init>", "()V"⟩, prog_10_method_1_code, 1, (Option.none : Option Jvm.ClassFile.FieldType), 8, 2, 0, 3, 30, xm_c79, xm_p79)
/-- NinthDayHooded$Thefts.add(II)V -/
def xm_c80 : List Instr := [.aload 0, .getfield 515, .sipush 10, .if_icmp .ge 22, .aload 0, .getfield 512, .aload 0, .getfield 515, .iload 1, .iastore, .aload 0, .getfield 513, .aload 0, .getfield 515, .iload 2, .iastore, .aload 0, .dup, .getfield 515, .sipush 1, .iadd, .putfield 515, .return_]
def xm_p80 : List Nat := [0, 1, 4, 6, 9, 10, 13, 14, 17, 18, 19, 20, 23, 24, 27, 28, 29, 30, 31, 34, 35, 36, 39]
def xm_i80 : xe_I := (⟨"NinthDayHooded$Thefts", "add", "(II)V"⟩, prog_10_method_2_code, 3, (Option.none : Option Jvm.ClassFile.FieldType), 8, 1, 2, 0, 0, xm_c80, xm_p80)
/-- NinthDayHooded$Thefts.suspected(ILNinthDayHooded$People;LNinthDayHooded$State;)I -/
def xm_c81 : List Instr := [.aload 0, .getfield 512, .iload 1, .iaload, .istore 4, .aload 3, .aload 0, .getfield 513, .iload 1, .iaload, .aload 2, .getfield 132, .invokevirtual 51, .istore 5, .aload 3, .aload 3, .getfield 321, .iload 4, .iaload, .sipush 2, .aload 2, .getfield 132, .invokevirtual 52, .istore 6, .iload 6, .iload 5, .sipush (-1), .ixor, .iand, .sipush 1, .iload 4, .ishl, .sipush (-1), .ixor, .iand, .istore 7, .iload 5, .iload 4, .ishr, .sipush 1, .iand, .ifCond .eq 67, .sipush 0, .istore 8, .iload 8, .aload 2, .getfield 132, .if_icmp .ge 67, .aload 2, .getfield 128, .iload 4, .sipush 9, .imul, .iload 8, .iadd, .iaload, .ifCond .ne 65, .iload 7, .sipush 1, .iload 8, .ishl, .sipush (-1), .ixor, .iand, .istore 7, .iinc 8 1, .goto 44, .iload 7, .ireturn]
def xm_p81 : List Nat := [0, 1, 4, 5, 6, 8, 9, 10, 13, 14, 15, 16, 19, 22, 24, 25, 26, 29, 31, 32, 33, 34, 37, 40, 42, 44, 46, 47, 48, 49, 50, 52, 53, 54, 55, 56, 58, 60, 62, 63, 64, 65, 68, 69, 71, 73, 74, 77, 80, 81, 84, 86, 88, 89, 91, 92, 93, 96, 98, 99, 101, 102, 103, 104, 105, 107, 110, 113, 115]
def xm_i81 : xe_I := (⟨"NinthDayHooded$Thefts", "suspected", "(ILNinthDayHooded$People;LNinthDayHooded$State;)I"⟩, prog_10_method_3_code, 9, (Option.some Jvm.ClassFile.FieldType.int), 8, 1, 3, 0, 0, xm_c81, xm_p81)
/-- NinthDayHooded$Thefts.leastGang(LNinthDayHooded$People;LNinthDayHooded$State;)I -/
def xm_c82 : List Instr := [.sipush 0, .istore 3, .iload 3, .aload 0, .getfield 515, .if_icmp .ge 17, .aload 0, .getfield 514, .iload 3, .aload 0, .iload 3, .aload 1, .aload 2, .invokevirtual 81, .iastore, .iinc 3 1, .goto 2, .sipush (-1), .istore 3, .sipush 10, .istore 4, .sipush 0, .istore 5, .iload 5, .aload 1, .invokevirtual 23, .if_icmp .gt 43, .iload 5, .invokestatic 0, .istore 6, .iload 6, .iload 4, .if_icmp .ge 41, .aload 0, .iload 5, .invokevirtual 83, .ifCond .eq 41, .iload 6, .istore 4, .iload 5, .istore 3, .iinc 5 1, .goto 23, .iload 3, .ireturn]
def xm_p82 : List Nat := [0, 1, 2, 3, 4, 7, 10, 11, 14, 15, 16, 17, 18, 19, 22, 23, 26, 29, 30, 31, 33, 35, 36, 38, 40, 41, 44, 47, 49, 52, 54, 56, 58, 61, 62, 64, 67, 70, 72, 74, 76, 77, 80, 83, 84]
def xm_i82 : xe_I := (⟨"NinthDayHooded$Thefts", "leastGang", "(LNinthDayHooded$People;LNinthDayHooded$State;)I"⟩, prog_10_method_4_code, 7, (Option.some Jvm.ClassFile.FieldType.int), 8, 1, 2, 0, 0, xm_c82, xm_p82)
/-- NinthDayHooded$Thefts.explainsAll(I)Z -/
def xm_c83 : List Instr := [.sipush 0, .istore 2, .iload 2, .aload 0, .getfield 515, .if_icmp .ge 17, .aload 0, .getfield 514, .iload 2, .iaload, .iload 1, .iand, .ifCond .ne 15, .sipush 0, .freturn, .iinc 2 1, .goto 2, .sipush 1, .freturn]
def xm_p83 : List Nat := [0, 1, 2, 3, 4, 7, 10, 11, 14, 15, 16, 17, 18, 21, 22, 23, 26, 29, 30]
def xm_i83 : xe_I := (⟨"NinthDayHooded$Thefts", "explainsAll", "(I)Z"⟩, prog_10_method_5_code, 3, (Option.some Jvm.ClassFile.FieldType.boolean), 8, 1, 1, 0, 0, xm_c83, xm_p83)
/-- NinthDayHooded$Walk.<init>()V -/
def xm_c84 : List Instr := [.aload 0, .nop, .aload 0, .new 0, .dup, .invokespecial 7, .putfield 576, .aload 0, .sipush 9, .newarray .int, .putfield 577, .aload 0, .sipush 0, .putfield 578, .aload 0, .sipush 0, .putfield 579, .aload 0, .sipush 0, .putfield 580, .return_]
def xm_p84 : List Nat := [0, 1, 4, 5, 8, 9, 12, 15, 16, 18, 20, 23, 24, 25, 28, 29, 30, 33, 34, 35, 38]
def xm_i84 : xe_I := (⟨"NinthDayHooded$Walk", "<init>", "()V"⟩, prog_11_method_1_code, 1, (Option.none : Option Jvm.ClassFile.FieldType), 9, 2, 0, 8, 145, xm_c84, xm_p84)
/-- NinthDayHooded$Walk.begin()V -/
def xm_c85 : List Instr := [.aload 0, .sipush 0, .putfield 578, .aload 0, .sipush 0, .putfield 579, .aload 0, .sipush 0, .putfield 580, .aload 0, .getfield 577, .sipush 0, .invokestatic 6, .return_]
def xm_p85 : List Nat := [0, 1, 2, 5, 6, 7, 10, 11, 12, 15, 16, 19, 20, 23]
def xm_i85 : xe_I := (⟨"NinthDayHooded$Walk", "begin", "()V"⟩, prog_11_method_2_code, 1, (Option.none : Option Jvm.ClassFile.FieldType), 9, 1, 0, 0, 0, xm_c85, xm_p85)
/-- NinthDayHooded$Walk.passAll(LNinthDayHooded$People;LNinthDayHooded$Rule;LNinthDayHooded$State;I)V -/
def xm_c86 : List Instr := [.sipush 0, .istore 5, .iload 5, .iload 4, .if_icmp .ge 36, .aload 0, .getfield 576, .aload 1, .aload 2, .aload 3, .aload 3, .getfield 325, .invokevirtual 8, .aload 3, .aload 1, .getfield 132, .invokevirtual 59, .aload 0, .aload 3, .invokevirtual 87, .aload 0, .dup, .getfield 579, .aload 0, .getfield 576, .invokevirtual 13, .iadd, .putfield 579, .aload 3, .dup, .getfield 325, .sipush 1, .iadd, .putfield 325, .iinc 5 1, .goto 2, .return_]
def xm_p86 : List Nat := [0, 1, 3, 5, 7, 10, 11, 14, 15, 16, 17, 18, 21, 24, 25, 26, 29, 32, 33, 34, 37, 38, 39, 42, 43, 46, 49, 50, 53, 54, 55, 58, 59, 60, 63, 66, 69]
def xm_i86 : xe_I := (⟨"NinthDayHooded$Walk", "passAll", "(LNinthDayHooded$People;LNinthDayHooded$Rule;LNinthDayHooded$State;I)V"⟩, prog_11_method_3_code, 6, (Option.none : Option Jvm.ClassFile.FieldType), 9, 1, 4, 0, 0, xm_c86, xm_p86)
/-- NinthDayHooded$Walk.followGuides(LNinthDayHooded$State;)V -/
def xm_c87 : List Instr := [.sipush 0, .istore 2, .iload 2, .aload 0, .getfield 576, .getfield 6, .if_icmp .ge 56, .aload 0, .getfield 576, .getfield 0, .iload 2, .iaload, .istore 3, .aload 0, .getfield 576, .getfield 1, .iload 2, .iaload, .istore 4, .iload 4, .sipush (-1), .if_icmp .ne 27, .aload 1, .iload 3, .sipush 9, .invokevirtual 60, .goto 54, .aload 1, .iload 3, .iload 4, .invokevirtual 60, .aload 0, .dup, .getfield 580, .aload 1, .iload 3, .iload 4, .invokevirtual 56, .iadd, .putfield 580, .aload 0, .getfield 577, .iload 4, .dup2, .iaload, .sipush 1, .iadd, .iastore, .aload 0, .dup, .getfield 578, .sipush 1, .iadd, .putfield 578, .iinc 2 1, .goto 2, .return_]
def xm_p87 : List Nat := [0, 1, 2, 3, 4, 7, 10, 13, 14, 17, 20, 21, 22, 23, 24, 27, 30, 31, 32, 34, 36, 37, 40, 41, 42, 44, 47, 50, 51, 52, 54, 57, 58, 59, 62, 63, 64, 66, 69, 70, 73, 74, 77, 79, 80, 81, 82, 83, 84, 85, 86, 89, 90, 91, 94, 97, 100]
def xm_i87 : xe_I := (⟨"NinthDayHooded$Walk", "followGuides", "(LNinthDayHooded$State;)V"⟩, prog_11_method_4_code, 5, (Option.none : Option Jvm.ClassFile.FieldType), 9, 1, 1, 0, 0, xm_c87, xm_p87)
/-- NinthDayHooded$Wishes.<init>()V -/
def xm_c88 : List Instr := [.aload 0, .nop, .aload 0, .sipush 12, .newarray .int, .putfield 640, .aload 0, .sipush 12, .newarray .int, .putfield 641, .aload 0, .sipush 12, .newarray .int, .putfield 642, .aload 0, .sipush 9, .newarray .int, .putfield 643, .aload 0, .sipush 9, .newarray .int, .putfield 644, .aload 0, .sipush 0, .putfield 645, .return_]
def xm_p88 : List Nat := [0, 1, 4, 5, 7, 9, 12, 13, 15, 17, 20, 21, 23, 25, 28, 29, 31, 33, 36, 37, 39, 41, 44, 45, 46, 49]
def xm_i88 : xe_I := (⟨"NinthDayHooded$Wishes", "<init>", "()V"⟩, prog_12_method_1_code, 1, (Option.none : Option Jvm.ClassFile.FieldType), 10, 2, 0, 5, 54, xm_c88, xm_p88)
/-- NinthDayHooded$Wishes.add(III)V -/
def xm_c89 : List Instr := [.aload 0, .getfield 645, .sipush 12, .if_icmp .ge 28, .aload 0, .getfield 640, .aload 0, .getfield 645, .iload 1, .iastore, .aload 0, .getfield 641, .aload 0, .getfield 645, .iload 2, .iastore, .aload 0, .getfield 642, .aload 0, .getfield 645, .iload 3, .iastore, .aload 0, .dup, .getfield 645, .sipush 1, .iadd, .putfield 645, .return_]
def xm_p89 : List Nat := [0, 1, 4, 6, 9, 10, 13, 14, 17, 18, 19, 20, 23, 24, 27, 28, 29, 30, 33, 34, 37, 38, 39, 40, 41, 44, 45, 46, 49]
def xm_i89 : xe_I := (⟨"NinthDayHooded$Wishes", "add", "(III)V"⟩, prog_12_method_2_code, 4, (Option.none : Option Jvm.ClassFile.FieldType), 10, 1, 3, 0, 0, xm_c89, xm_p89)
/-- NinthDayHooded$Wishes.metBy([I)I -/
def xm_c90 : List Instr := [.sipush 0, .istore 2, .sipush 0, .istore 3, .iload 3, .aload 0, .getfield 645, .if_icmp .ge 23, .iload 2, .aload 0, .aload 1, .iload 3, .invokevirtual 91, .ifCond .eq 18, .sipush 1, .iload 3, .ishl, .goto 19, .sipush 0, .ior, .istore 2, .iinc 3 1, .goto 4, .iload 2, .ireturn]
def xm_p90 : List Nat := [0, 1, 2, 3, 4, 5, 6, 9, 12, 13, 14, 15, 16, 19, 22, 23, 24, 25, 28, 29, 30, 31, 34, 37, 38]
def xm_i90 : xe_I := (⟨"NinthDayHooded$Wishes", "metBy", "([I)I"⟩, prog_12_method_3_code, 4, (Option.some Jvm.ClassFile.FieldType.int), 10, 1, 1, 0, 0, xm_c90, xm_p90)
/-- NinthDayHooded$Wishes.isMet([II)Z -/
def xm_c91 : List Instr := [.aload 1, .aload 0, .getfield 640, .iload 2, .iaload, .iaload, .aload 1, .aload 0, .getfield 641, .iload 2, .iaload, .iaload, .if_icmp .ne 15, .sipush 1, .goto 16, .sipush 0, .aload 0, .getfield 642, .iload 2, .iaload, .sipush 1, .if_icmp .ne 24, .sipush 1, .goto 25, .sipush 0, .if_icmp .ne 28, .sipush 1, .goto 29, .sipush 0, .freturn]
def xm_p91 : List Nat := [0, 1, 2, 5, 6, 7, 8, 9, 10, 13, 14, 15, 16, 19, 20, 23, 24, 25, 28, 29, 30, 31, 34, 35, 38, 39, 42, 43, 46, 47]
def xm_i91 : xe_I := (⟨"NinthDayHooded$Wishes", "isMet", "([II)Z"⟩, prog_12_method_4_code, 3, (Option.some Jvm.ClassFile.FieldType.boolean), 10, 1, 2, 0, 0, xm_c91, xm_p91)
/-- NinthDayHooded$Wishes.canAllBeMet(I)Z -/
def xm_c92 : List Instr := [.sipush 0, .istore 2, .iload 2, .iload 1, .if_icmp .ge 12, .aload 0, .getfield 644, .iload 2, .iload 2, .iastore, .iinc 2 1, .goto 2, .sipush 0, .istore 2, .iload 2, .aload 0, .getfield 645, .if_icmp .ge 43, .aload 0, .getfield 642, .iload 2, .iaload, .sipush 1, .if_icmp .ne 41, .aload 0, .aload 0, .getfield 644, .aload 0, .getfield 640, .iload 2, .iaload, .iaload, .aload 0, .getfield 644, .aload 0, .getfield 641, .iload 2, .iaload, .iaload, .iload 1, .invokevirtual 93, .iinc 2 1, .goto 14, .sipush 0, .istore 2, .iload 2, .aload 0, .getfield 645, .if_icmp .ge 59, .aload 0, .aload 0, .getfield 644, .iload 2, .invokevirtual 91, .ifCond .ne 57, .sipush 0, .freturn, .iinc 2 1, .goto 45, .sipush 1, .freturn]
def xm_p92 : List Nat := [0, 1, 2, 3, 4, 7, 8, 11, 12, 13, 14, 17, 20, 21, 22, 23, 24, 27, 30, 31, 34, 35, 36, 37, 40, 41, 42, 45, 46, 49, 50, 51, 52, 53, 56, 57, 60, 61, 62, 63, 64, 67, 70, 73, 74, 75, 76, 77, 80, 83, 84, 85, 88, 89, 92, 95, 96, 97, 100, 103, 104]
def xm_i92 : xe_I := (⟨"NinthDayHooded$Wishes", "canAllBeMet", "(I)Z"⟩, prog_12_method_5_code, 3, (Option.some Jvm.ClassFile.FieldType.boolean), 10, 1, 1, 0, 0, xm_c92, xm_p92)
/-- NinthDayHooded$Wishes.join(III)V -/
def xm_c93 : List Instr := [.sipush 0, .istore 4, .iload 4, .iload 3, .if_icmp .ge 18, .aload 0, .getfield 644, .iload 4, .iaload, .iload 2, .if_icmp .ne 16, .aload 0, .getfield 644, .iload 4, .iload 1, .iastore, .iinc 4 1, .goto 2, .return_]
def xm_p93 : List Nat := [0, 1, 3, 5, 6, 9, 10, 13, 15, 16, 17, 20, 21, 24, 26, 27, 28, 31, 34]
def xm_i93 : xe_I := (⟨"NinthDayHooded$Wishes", "join", "(III)V"⟩, prog_12_method_6_code, 5, (Option.none : Option Jvm.ClassFile.FieldType), 10, 1, 3, 0, 0, xm_c93, xm_p93)
/-- NinthDayHooded$Wishes.fewestColours(I)I -/
def xm_c94 : List Instr := [.sipush 0, .istore 2, .iload 2, .sipush 9, .if_icmp .gt 16, .aload 0, .sipush 0, .sipush 0, .iload 2, .iload 1, .invokevirtual 95, .ifCond .eq 14, .iload 2, .ireturn, .iinc 2 1, .goto 2, .sipush (-2), .ireturn]
def xm_p94 : List Nat := [0, 1, 2, 3, 5, 8, 9, 10, 11, 12, 13, 16, 19, 20, 21, 24, 27, 29]
def xm_i94 : xe_I := (⟨"NinthDayHooded$Wishes", "fewestColours", "(I)I"⟩, prog_12_method_7_code, 3, (Option.some Jvm.ClassFile.FieldType.int), 10, 1, 1, 0, 0, xm_c94, xm_p94)
/-- NinthDayHooded$Wishes.coloursFrom(IIII)Z -/
def xm_c95 : List Instr := [.iload 1, .iload 4, .if_icmp .lt 5, .sipush 1, .freturn, .iload 2, .iload 3, .sipush 1, .isub, .invokestatic 5, .istore 5, .sipush 0, .istore 6, .iload 6, .iload 5, .if_icmp .gt 42, .aload 0, .getfield 643, .iload 1, .iload 6, .iastore, .aload 0, .iload 1, .invokevirtual 96, .ifCond .eq 40, .aload 0, .iload 1, .sipush 1, .iadd, .iload 2, .iload 6, .sipush 1, .iadd, .invokestatic 4, .iload 3, .iload 4, .invokevirtual 95, .ifCond .eq 40, .sipush 1, .freturn, .iinc 6 1, .goto 13, .sipush 0, .freturn]
def xm_p95 : List Nat := [0, 1, 3, 6, 7, 8, 9, 10, 11, 12, 15, 17, 18, 20, 22, 24, 27, 28, 31, 32, 34, 35, 36, 37, 40, 43, 44, 45, 46, 47, 48, 50, 51, 52, 55, 56, 58, 61, 64, 65, 66, 69, 72, 73]
def xm_i95 : xe_I := (⟨"NinthDayHooded$Wishes", "coloursFrom", "(IIII)Z"⟩, prog_12_method_8_code, 7, (Option.some Jvm.ClassFile.FieldType.boolean), 10, 1, 4, 0, 0, xm_c95, xm_p95)
/-- NinthDayHooded$Wishes.fits(I)Z -/
def xm_c96 : List Instr := [.sipush 0, .istore 2, .iload 2, .aload 0, .getfield 645, .if_icmp .ge 27, .aload 0, .getfield 640, .iload 2, .iaload, .aload 0, .getfield 641, .iload 2, .iaload, .invokestatic 4, .iload 1, .if_icmp .ne 25, .aload 0, .aload 0, .getfield 643, .iload 2, .invokevirtual 91, .ifCond .ne 25, .sipush 0, .freturn, .iinc 2 1, .goto 2, .sipush 1, .freturn]
def xm_p96 : List Nat := [0, 1, 2, 3, 4, 7, 10, 11, 14, 15, 16, 17, 20, 21, 22, 25, 26, 29, 30, 31, 34, 35, 38, 41, 42, 43, 46, 49, 50]
def xm_i96 : xe_I := (⟨"NinthDayHooded$Wishes", "fits", "(I)Z"⟩, prog_12_method_9_code, 3, (Option.some Jvm.ClassFile.FieldType.boolean), 10, 1, 1, 0, 0, xm_c96, xm_p96)
/-- NinthDayHooded.<init>()V -/
def xm_c97 : List Instr := [.aload 0, .nop, .aload 0, .new 7, .dup, .invokespecial 72, .putfield 704, .aload 0, .new 3, .dup, .invokespecial 30, .putfield 705, .aload 0, .new 2, .dup, .invokespecial 20, .putfield 706, .aload 0, .new 5, .dup, .invokespecial 49, .putfield 707, .aload 0, .new 5, .dup, .invokespecial 49, .putfield 708, .aload 0, .new 1, .dup, .invokespecial 16, .putfield 709, .aload 0, .new 4, .dup, .invokespecial 33, .putfield 710, .aload 0, .new 9, .dup, .invokespecial 84, .putfield 711, .aload 0, .new 6, .dup, .invokespecial 61, .putfield 712, .aload 0, .new 10, .dup, .invokespecial 88, .putfield 713, .aload 0, .new 8, .dup, .invokespecial 79, .putfield 714, .return_]
def xm_p97 : List Nat := [0, 1, 4, 5, 8, 9, 12, 15, 16, 19, 20, 23, 26, 27, 30, 31, 34, 37, 38, 41, 42, 45, 48, 49, 52, 53, 56, 59, 60, 63, 64, 67, 70, 71, 74, 75, 78, 81, 82, 85, 86, 89, 92, 93, 96, 97, 100, 103, 104, 107, 108, 111, 114, 115, 118, 119, 122, 125]
def xm_i97 : xe_I := (⟨"NinthDayHooded", "<init>", "()V"⟩, prog_1_method_1_code, 1, (Option.none : Option Jvm.ClassFile.FieldType), 11, 2, 0, 144, 3776, xm_c97, xm_p97)
/-- NinthDayHooded.sign(I)I -/
def xm_c98 : List Instr := [.aload 0, .getfield 704, .sipush 4, .invokevirtual 73, .ifCond .ne 7, .sipush (-1), .ireturn, .sipush 24, .istore 2, .iload 2, .ifCond .lt 21, .aload 0, .getfield 704, .iload 1, .iload 2, .iushr, .sipush 255, .iand, .invokevirtual 74, .iinc 2 (-8), .goto 9, .aload 0, .getfield 704, .getfield 449, .ireturn]
def xm_p98 : List Nat := [0, 1, 4, 5, 8, 11, 12, 13, 15, 16, 17, 20, 21, 24, 25, 26, 27, 30, 31, 34, 37, 40, 41, 44, 47]
def xm_i98 : xe_I := (⟨"NinthDayHooded", "sign", "(I)I"⟩, prog_1_method_2_code, 3, (Option.some Jvm.ClassFile.FieldType.int), 11, 1, 1, 0, 0, xm_c98, xm_p98)
/-- NinthDayHooded.end(I)Z -/
def xm_c99 : List Instr := [.iload 1, .ifCond .lt 7, .iload 1, .aload 0, .getfield 704, .getfield 449, .if_icmp .le 9, .sipush 0, .freturn, .aload 0, .getfield 704, .iload 1, .putfield 449, .sipush 1, .freturn]
def xm_p99 : List Nat := [0, 1, 4, 5, 6, 9, 12, 15, 16, 17, 18, 21, 22, 25, 26]
def xm_i99 : xe_I := (⟨"NinthDayHooded", "end", "(I)Z"⟩, prog_1_method_3_code, 2, (Option.some Jvm.ClassFile.FieldType.boolean), 11, 1, 1, 0, 0, xm_c99, xm_p99)
/-- NinthDayHooded.town()I -/
def xm_c100 : List Instr := [.aload 0, .getfield 704, .getfield 449, .ifCond .ne 6, .sipush 0, .ireturn, .aload 0, .invokevirtual 101, .istore 1, .iload 1, .sipush (-1), .if_icmp .ne 15, .aload 0, .invokevirtual 102, .goto 18, .sipush (-1), .iload 1, .isub, .istore 2, .aload 0, .getfield 704, .sipush 0, .putfield 449, .iload 2, .ireturn]
def xm_p100 : List Nat := [0, 1, 4, 7, 10, 11, 12, 13, 16, 17, 18, 19, 22, 23, 26, 29, 30, 31, 32, 33, 34, 37, 38, 41, 42]
def xm_i100 : xe_I := (⟨"NinthDayHooded", "town", "()I"⟩, prog_1_method_4_code, 3, (Option.some Jvm.ClassFile.FieldType.int), 11, 1, 0, 0, 0, xm_c100, xm_p100)
/-- NinthDayHooded.townFault()I -/
def xm_c101 : List Instr := [.sipush 9, .aload 0, .getfield 706, .getfield 132, .isub, .istore 1, .sipush 0, .istore 2, .sipush (-1), .istore 3, .aload 0, .getfield 704, .getfield 449, .sipush 76, .invokestatic 5, .istore 4, .sipush 0, .istore 5, .iload 5, .iload 4, .if_icmp .ge 66, .aload 0, .getfield 704, .iload 5, .invokevirtual 75, .istore 6, .iload 2, .sipush 2, .if_icmp .ge 40, .iload 6, .invokestatic 170, .ifCond .eq 36, .iload 2, .ifCond .ne 38, .iload 1, .ifCond .ne 38, .iload 5, .ireturn, .iinc 2 1, .goto 64, .iload 6, .sipush 59, .if_icmp .ne 49, .sipush 0, .istore 2, .sipush (-1), .istore 3, .iinc 1 (-1), .goto 64, .iload 6, .sipush 117, .if_icmp .gt 62, .iload 6, .sipush 112, .isub, .iload 3, .if_icmp .le 62, .iload 6, .sipush 112, .isub, .istore 3, .goto 64, .iload 5, .ireturn, .iinc 5 1, .goto 18, .aload 0, .getfield 704, .getfield 449, .sipush 76, .if_icmp .le 73, .sipush 76, .ireturn, .iload 2, .sipush 2, .if_icmp .ge 80, .aload 0, .getfield 704, .getfield 449, .goto 81, .sipush (-1), .ireturn]
def xm_p101 : List Nat := [0, 2, 3, 6, 9, 10, 11, 12, 13, 14, 15, 16, 19, 22, 24, 27, 29, 30, 32, 34, 36, 39, 40, 43, 45, 48, 50, 51, 52, 55, 57, 60, 63, 64, 67, 68, 71, 73, 74, 77, 80, 82, 84, 87, 88, 89, 90, 91, 94, 97, 99, 101, 104, 106, 108, 109, 110, 113, 115, 117, 118, 119, 122, 124, 125, 128, 131, 132, 135, 138, 140, 143, 145, 146, 147, 148, 151, 152, 155, 158, 161, 162]
def xm_i101 : xe_I := (⟨"NinthDayHooded", "townFault", "()I"⟩, prog_1_method_5_code, 7, (Option.some Jvm.ClassFile.FieldType.int), 11, 1, 0, 0, 0, xm_c101, xm_p101)
/-- NinthDayHooded.addLines()I -/
def xm_c102 : List Instr := [.sipush 0, .istore 1, .sipush 0, .istore 2, .iload 2, .aload 0, .getfield 704, .getfield 449, .if_icmp .ge 34, .aload 0, .getfield 704, .iload 2, .invokevirtual 77, .ifCond .eq 32, .aload 0, .aload 0, .getfield 704, .iload 2, .invokevirtual 76, .aload 0, .getfield 704, .iload 2, .sipush 1, .iadd, .invokevirtual 76, .aload 0, .iload 2, .sipush 2, .iadd, .invokevirtual 103, .invokevirtual 104, .iinc 1 1, .iinc 2 1, .goto 4, .aload 0, .getfield 709, .invokevirtual 19, .iload 1, .ireturn]
def xm_p102 : List Nat := [0, 1, 2, 3, 4, 5, 6, 9, 12, 15, 16, 19, 20, 23, 26, 27, 28, 31, 32, 35, 36, 39, 40, 41, 42, 45, 46, 47, 48, 49, 52, 55, 58, 61, 64, 65, 68, 71, 72]
def xm_i102 : xe_I := (⟨"NinthDayHooded", "addLines", "()I"⟩, prog_1_method_6_code, 3, (Option.some Jvm.ClassFile.FieldType.int), 11, 1, 0, 0, 0, xm_c102, xm_p102)
/-- NinthDayHooded.tradesFrom(I)I -/
def xm_c103 : List Instr := [.sipush 0, .istore 2, .iload 1, .istore 3, .iload 3, .aload 0, .getfield 704, .getfield 449, .if_icmp .ge 28, .aload 0, .getfield 704, .iload 3, .invokevirtual 75, .sipush 59, .if_icmp .eq 28, .iload 2, .sipush 1, .aload 0, .getfield 704, .iload 3, .invokevirtual 75, .sipush 112, .isub, .ishl, .ior, .istore 2, .iinc 3 1, .goto 4, .iload 2, .ireturn]
def xm_p103 : List Nat := [0, 1, 2, 3, 4, 5, 6, 9, 12, 15, 16, 19, 20, 23, 25, 28, 29, 30, 31, 34, 35, 38, 40, 41, 42, 43, 44, 47, 50, 51]
def xm_i103 : xe_I := (⟨"NinthDayHooded", "tradesFrom", "(I)I"⟩, prog_1_method_7_code, 4, (Option.some Jvm.ClassFile.FieldType.int), 11, 1, 1, 0, 0, xm_c103, xm_p103)
/-- NinthDayHooded.addPerson(III)V -/
def xm_c104 : List Instr := [.aload 0, .getfield 706, .getfield 132, .sipush 9, .if_icmp .ge 36, .aload 0, .getfield 707, .getfield 320, .aload 0, .getfield 706, .getfield 132, .iload 1, .iastore, .aload 0, .getfield 707, .getfield 321, .aload 0, .getfield 706, .getfield 132, .iload 2, .iastore, .aload 0, .getfield 707, .getfield 322, .aload 0, .getfield 706, .getfield 132, .iload 3, .iastore, .aload 0, .getfield 706, .dup, .getfield 132, .sipush 1, .iadd, .putfield 132, .return_]
def xm_p104 : List Nat := [0, 1, 4, 7, 9, 12, 13, 16, 19, 20, 23, 26, 27, 28, 29, 32, 35, 36, 39, 42, 43, 44, 45, 48, 51, 52, 55, 58, 59, 60, 61, 64, 65, 68, 69, 70, 73]
def xm_i104 : xe_I := (⟨"NinthDayHooded", "addPerson", "(III)V"⟩, prog_1_method_8_code, 4, (Option.none : Option Jvm.ClassFile.FieldType), 11, 1, 3, 0, 0, xm_c104, xm_p104)
/-- NinthDayHooded.trust(I)I -/
def xm_c105 : List Instr := [.sipush (-100), .istore 2, .aload 0, .getfield 706, .iload 1, .invokevirtual 21, .ifCond .eq 45, .aload 0, .getfield 704, .aload 0, .getfield 706, .getfield 132, .invokevirtual 78, .istore 3, .iload 3, .sipush (-1), .if_icmp .ne 21, .aload 0, .getfield 706, .getfield 132, .goto 24, .sipush (-1), .iload 3, .isub, .istore 2, .sipush 0, .istore 4, .iload 4, .iload 2, .if_icmp .ge 45, .aload 0, .getfield 706, .getfield 128, .iload 1, .sipush 9, .imul, .iload 4, .iadd, .aload 0, .getfield 704, .iload 4, .invokevirtual 76, .iastore, .iinc 4 1, .goto 27, .aload 0, .getfield 704, .sipush 0, .putfield 449, .iload 2, .ireturn]
def xm_p105 : List Nat := [0, 2, 3, 4, 7, 8, 11, 14, 15, 18, 19, 22, 25, 28, 29, 30, 31, 34, 35, 38, 41, 44, 45, 46, 47, 48, 49, 51, 53, 54, 57, 58, 61, 64, 65, 67, 68, 70, 71, 72, 75, 77, 80, 81, 84, 87, 88, 91, 92, 95, 96]
def xm_i105 : xe_I := (⟨"NinthDayHooded", "trust", "(I)I"⟩, prog_1_method_9_code, 5, (Option.some Jvm.ClassFile.FieldType.int), 11, 1, 1, 0, 0, xm_c105, xm_p105)
/-- NinthDayHooded.likes(I)I -/
def xm_c106 : List Instr := [.sipush (-100), .istore 2, .aload 0, .getfield 706, .iload 1, .invokevirtual 21, .ifCond .eq 41, .aload 0, .getfield 704, .sipush 9, .invokevirtual 78, .istore 3, .iload 3, .sipush (-1), .if_icmp .ne 17, .sipush 9, .goto 20, .sipush (-1), .iload 3, .isub, .istore 2, .sipush 0, .istore 4, .iload 4, .iload 2, .if_icmp .ge 41, .aload 0, .getfield 706, .getfield 129, .iload 1, .sipush 9, .imul, .iload 4, .iadd, .aload 0, .getfield 704, .iload 4, .invokevirtual 76, .iastore, .iinc 4 1, .goto 23, .aload 0, .getfield 704, .sipush 0, .putfield 449, .iload 2, .ireturn]
def xm_p106 : List Nat := [0, 2, 3, 4, 7, 8, 11, 14, 15, 18, 20, 23, 24, 25, 26, 29, 31, 34, 35, 36, 37, 38, 39, 41, 43, 44, 47, 48, 51, 54, 55, 57, 58, 60, 61, 62, 65, 67, 70, 71, 74, 77, 78, 81, 82, 85, 86]
def xm_i106 : xe_I := (⟨"NinthDayHooded", "likes", "(I)I"⟩, prog_1_method_10_code, 5, (Option.some Jvm.ClassFile.FieldType.int), 11, 1, 1, 0, 0, xm_c106, xm_p106)
/-- NinthDayHooded.rule()I -/
def xm_c107 : List Instr := [.aload 0, .getfield 710, .aload 0, .getfield 704, .invokevirtual 34, .istore 1, .aload 0, .getfield 704, .sipush 0, .putfield 449, .iload 1, .sipush (-1), .if_icmp .ne 15, .sipush 0, .goto 18, .sipush (-1), .iload 1, .isub, .ireturn]
def xm_p107 : List Nat := [0, 1, 4, 5, 8, 11, 12, 13, 16, 17, 20, 21, 22, 25, 26, 29, 30, 31, 32]
def xm_i107 : xe_I := (⟨"NinthDayHooded", "rule", "()I"⟩, prog_1_method_11_code, 2, (Option.some Jvm.ClassFile.FieldType.int), 11, 1, 0, 0, 0, xm_c107, xm_p107)
/-- NinthDayHooded.of(II)I -/
def xm_c108 : List Instr := [.aload 0, .getfield 706, .iload 1, .invokevirtual 21, .ifCond .eq 10, .iload 2, .ifCond .lt 10, .iload 2, .sipush 5, .if_icmp .le 14, .athrow, .swap, .swap, .swap, .aload 0, .getfield 707, .getfield 320, .iload 1, .iaload, .istore 3, .iload 2, .tableswitch 58 0 4 #[22, 24, 30, 36, 46], .iload 3, .ireturn, .aload 0, .getfield 707, .getfield 321, .iload 1, .iaload, .ireturn, .aload 0, .getfield 707, .getfield 322, .iload 1, .iaload, .ireturn, .aload 0, .getfield 706, .getfield 129, .iload 1, .sipush 9, .imul, .iload 3, .iadd, .iaload, .ireturn, .iload 3, .sipush 9, .iadd, .aload 0, .getfield 707, .getfield 325, .sipush 9, .irem, .isub, .sipush 9, .irem, .ireturn, .aload 0, .getfield 707, .iload 1, .invokevirtual 55, .ireturn]
def xm_p108 : List Nat := [0, 1, 4, 5, 8, 11, 12, 15, 16, 17, 20, 23, 24, 27, 28, 29, 32, 35, 36, 37, 38, 39, 72, 73, 74, 75, 78, 81, 82, 83, 84, 85, 88, 91, 92, 93, 94, 95, 98, 101, 102, 104, 105, 106, 107, 108, 109, 110, 112, 113, 114, 117, 120, 122, 123, 124, 126, 127, 128, 129, 132, 133, 136]
def xm_i108 : xe_I := (⟨"NinthDayHooded", "of", "(II)I"⟩, prog_1_method_12_code, 4, (Option.some Jvm.ClassFile.FieldType.int), 11, 3, 2, 1, 6, xm_c108, xm_p108)
/-- NinthDayHooded.trusts(II)I -/
def xm_c109 : List Instr := [.aload 0, .getfield 706, .iload 1, .iload 2, .invokevirtual 22, .ifCond .eq 16, .aload 0, .getfield 706, .getfield 128, .iload 1, .sipush 9, .imul, .iload 2, .iadd, .iaload, .goto 17, .sipush (-1), .ireturn]
def xm_p109 : List Nat := [0, 1, 4, 5, 6, 9, 12, 13, 16, 19, 20, 22, 23, 24, 25, 26, 29, 30]
def xm_i109 : xe_I := (⟨"NinthDayHooded", "trusts", "(II)I"⟩, prog_1_method_13_code, 3, (Option.some Jvm.ClassFile.FieldType.int), 11, 1, 2, 0, 0, xm_c109, xm_p109)
/-- NinthDayHooded.lessons(II)I -/
def xm_c110 : List Instr := [.aload 0, .getfield 706, .iload 1, .invokevirtual 21, .ifCond .eq 18, .iload 2, .invokestatic 172, .ifCond .eq 18, .aload 0, .getfield 707, .getfield 323, .iload 1, .sipush 6, .imul, .iload 2, .iadd, .iaload, .goto 19, .sipush (-1), .ireturn]
def xm_p110 : List Nat := [0, 1, 4, 5, 8, 11, 12, 15, 18, 19, 22, 25, 26, 28, 29, 30, 31, 32, 35, 36]
def xm_i110 : xe_I := (⟨"NinthDayHooded", "lessons", "(II)I"⟩, prog_1_method_14_code, 3, (Option.some Jvm.ClassFile.FieldType.int), 11, 1, 2, 0, 0, xm_c110, xm_p110)
/-- NinthDayHooded.set(III)I -/
def xm_c111 : List Instr := [.aload 0, .getfield 706, .iload 1, .invokevirtual 21, .ifCond .eq 7, .iload 3, .ifCond .ge 9, .sipush (-1), .ireturn, .sipush (-1), .istore 4, .iload 2, .ifCond .ne 29, .iload 3, .sipush 9, .if_icmp .ge 29, .aload 0, .getfield 707, .getfield 320, .iload 1, .iaload, .istore 4, .aload 0, .getfield 707, .getfield 320, .iload 1, .iload 3, .iastore, .goto 66, .iload 2, .sipush 1, .if_icmp .ne 48, .iload 3, .sipush 9, .if_icmp .ge 48, .aload 0, .getfield 707, .getfield 321, .iload 1, .iaload, .istore 4, .aload 0, .getfield 707, .getfield 321, .iload 1, .iload 3, .iastore, .goto 66, .iload 2, .sipush 2, .if_icmp .ne 66, .iload 3, .sipush 64, .if_icmp .ge 66, .aload 0, .getfield 707, .getfield 322, .iload 1, .iaload, .istore 4, .aload 0, .getfield 707, .getfield 322, .iload 1, .iload 3, .iastore, .iload 4, .ireturn]
def xm_p111 : List Nat := [0, 1, 4, 5, 8, 11, 12, 15, 16, 17, 18, 20, 21, 24, 25, 27, 30, 31, 34, 37, 38, 39, 41, 42, 45, 48, 49, 50, 51, 54, 55, 56, 59, 60, 62, 65, 66, 69, 72, 73, 74, 76, 77, 80, 83, 84, 85, 86, 89, 90, 91, 94, 95, 97, 100, 101, 104, 107, 108, 109, 111, 112, 115, 118, 119, 120, 121, 123]
def xm_i111 : xe_I := (⟨"NinthDayHooded", "set", "(III)I"⟩, prog_1_method_15_code, 5, (Option.some Jvm.ClassFile.FieldType.int), 11, 1, 3, 0, 0, xm_c111, xm_p111)
/-- NinthDayHooded.sheet(IIII)I -/
def xm_c112 : List Instr := [.iload 1, .ifCond .lt 8, .iload 1, .sipush 3, .if_icmp .gt 8, .iload 2, .sipush 9, .if_icmp .le 10, .sipush (-1), .ireturn, .iload 1, .sipush 3, .if_icmp .eq 17, .iload 2, .ifCond .ge 17, .sipush (-2), .ireturn, .iload 1, .sipush 3, .if_icmp .ne 22, .sipush 0, .goto 23, .iload 2, .istore 5, .sipush 0, .istore 6, .sipush 0, .istore 7, .iload 7, .aload 0, .getfield 706, .getfield 132, .if_icmp .ge 60, .iload 7, .iload 5, .if_icmp .ge 46, .iload 1, .iload 3, .iload 7, .iload 4, .imul, .iadd, .invokestatic 113, .sipush 8, .invokestatic 176, .goto 47, .sipush 0, .istore 8, .aload 0, .getfield 707, .getfield 320, .iload 7, .iload 8, .iastore, .iload 6, .iload 8, .iadd, .istore 6, .iinc 7 1, .goto 28, .iload 1, .sipush 3, .if_icmp .ne 65, .sipush (-3), .goto 66, .iload 6, .ireturn]
def xm_p112 : List Nat := [0, 1, 4, 5, 6, 9, 10, 12, 15, 16, 17, 18, 19, 22, 23, 26, 28, 29, 30, 31, 34, 35, 38, 39, 41, 42, 44, 45, 47, 49, 50, 53, 56, 59, 61, 63, 66, 67, 68, 70, 72, 73, 74, 77, 79, 82, 85, 86, 88, 89, 92, 95, 97, 99, 100, 102, 104, 105, 107, 110, 113, 114, 115, 118, 120, 123, 125]
def xm_i112 : xe_I := (⟨"NinthDayHooded", "sheet", "(IIII)I"⟩, prog_1_method_16_code, 9, (Option.some Jvm.ClassFile.FieldType.int), 11, 1, 4, 0, 0, xm_c112, xm_p112)
/-- NinthDayHooded.asKind(II)I -/
def xm_c113 : List Instr := [.iload 0, .ifCond .ne 5, .iload 1, .i2b, .ireturn, .iload 0, .sipush 1, .if_icmp .ne 11, .iload 1, .i2s, .goto 12, .iload 1, .ireturn]
def xm_p113 : List Nat := [0, 1, 4, 5, 6, 7, 8, 9, 12, 13, 14, 17, 18]
def xm_i113 : xe_I := (⟨"NinthDayHooded", "asKind", "(II)I"⟩, prog_1_method_17_code, 2, (Option.some Jvm.ClassFile.FieldType.int), 11, 0, 2, 0, 0, xm_c113, xm_p113)
/-- NinthDayHooded.cost(II)I -/
def xm_c114 : List Instr := [.aload 0, .getfield 706, .iload 1, .iload 2, .invokevirtual 22, .ifCond .ne 10, .athrow, .swap, .swap, .swap, .aload 0, .getfield 710, .aload 0, .getfield 706, .aload 0, .getfield 707, .iload 1, .iload 2, .aload 0, .getfield 707, .getfield 325, .invokevirtual 46, .aload 0, .getfield 710, .invokevirtual 47, .ireturn]
def xm_p114 : List Nat := [0, 1, 4, 5, 6, 9, 12, 15, 16, 19, 20, 21, 24, 25, 28, 29, 32, 33, 34, 35, 38, 41, 44, 45, 48, 51]
def xm_i114 : xe_I := (⟨"NinthDayHooded", "cost", "(II)I"⟩, prog_1_method_18_code, 3, (Option.some Jvm.ClassFile.FieldType.int), 11, 3, 2, 1, 6, xm_c114, xm_p114)
/-- NinthDayHooded.guides(I)I -/
def xm_c115 : List Instr := [.iload 1, .invokestatic 175, .ifCond .ne 5, .sipush (-1), .ireturn, .aload 0, .getfield 711, .getfield 576, .astore 2, .aload 2, .aload 0, .getfield 706, .aload 0, .getfield 710, .aload 0, .getfield 707, .iload 1, .invokevirtual 8, .aload 0, .getfield 705, .invokevirtual 31, .aload 0, .getfield 705, .aload 2, .invokevirtual 13, .invokevirtual 32, .aload 0, .getfield 705, .aload 0, .getfield 707, .iload 1, .aload 0, .getfield 706, .getfield 132, .invokevirtual 51, .invokevirtual 32, .sipush 0, .istore 3, .iload 3, .aload 2, .getfield 6, .if_icmp .ge 51, .aload 0, .getfield 705, .aload 2, .getfield 1, .iload 3, .iaload, .invokevirtual 32, .iinc 3 1, .goto 38, .aload 2, .invokevirtual 12, .ireturn]
def xm_p115 : List Nat := [0, 1, 4, 7, 8, 9, 10, 13, 16, 17, 18, 19, 22, 23, 26, 27, 30, 31, 34, 35, 38, 41, 42, 45, 46, 49, 52, 53, 56, 57, 60, 61, 62, 65, 68, 71, 74, 75, 76, 77, 78, 81, 84, 85, 88, 89, 92, 93, 94, 97, 100, 103, 104, 107]
def xm_i115 : xe_I := (⟨"NinthDayHooded", "guides", "(I)I"⟩, prog_1_method_19_code, 4, (Option.some Jvm.ClassFile.FieldType.int), 11, 1, 1, 0, 0, xm_c115, xm_p115)
/-- NinthDayHooded.lonely(I)I -/
def xm_c116 : List Instr := [.iload 1, .invokestatic 175, .ifCond .ne 5, .sipush (-1), .ireturn, .aload 0, .getfield 711, .getfield 576, .astore 2, .aload 2, .aload 0, .getfield 706, .aload 0, .getfield 710, .aload 0, .getfield 707, .iload 1, .invokevirtual 8, .aload 0, .getfield 705, .invokevirtual 31, .aload 0, .getfield 705, .aload 2, .invokevirtual 15, .invokevirtual 32, .aload 2, .invokevirtual 14, .ireturn]
def xm_p116 : List Nat := [0, 1, 4, 7, 8, 9, 10, 13, 16, 17, 18, 19, 22, 23, 26, 27, 30, 31, 34, 35, 38, 41, 42, 45, 46, 49, 52, 53, 56]
def xm_i116 : xe_I := (⟨"NinthDayHooded", "lonely", "(I)I"⟩, prog_1_method_20_code, 3, (Option.some Jvm.ClassFile.FieldType.int), 11, 1, 1, 0, 0, xm_c116, xm_p116)
/-- NinthDayHooded.hardest()I -/
def xm_c117 : List Instr := [.aload 0, .getfield 711, .getfield 576, .astore 1, .aload 0, .getfield 707, .getfield 325, .istore 2, .sipush (-1), .istore 3, .aload 0, .getfield 707, .getfield 325, .istore 4, .iload 4, .aload 0, .getfield 707, .getfield 325, .sipush 9, .iadd, .if_icmp .ge 41, .aload 1, .aload 0, .getfield 706, .aload 0, .getfield 710, .aload 0, .getfield 707, .iload 4, .invokevirtual 8, .aload 1, .getfield 8, .iload 3, .if_icmp .le 39, .aload 1, .getfield 8, .istore 3, .iload 4, .istore 2, .iinc 4 1, .goto 14, .aload 0, .getfield 705, .invokevirtual 31, .aload 0, .getfield 705, .iload 3, .sipush 1000, .idiv, .invokevirtual 32, .aload 0, .getfield 705, .iload 3, .sipush 1000, .irem, .invokevirtual 32, .iload 2, .sipush 9, .irem, .ireturn]
def xm_p117 : List Nat := [0, 1, 4, 7, 8, 9, 12, 15, 16, 17, 18, 19, 22, 25, 27, 29, 30, 33, 36, 38, 39, 42, 43, 44, 47, 48, 51, 52, 55, 57, 60, 61, 64, 65, 68, 69, 72, 73, 75, 76, 79, 82, 83, 86, 89, 90, 93, 94, 97, 98, 101, 102, 105, 106, 109, 110, 113, 114, 116, 117]
def xm_i117 : xe_I := (⟨"NinthDayHooded", "hardest", "()I"⟩, prog_1_method_21_code, 5, (Option.some Jvm.ClassFile.FieldType.int), 11, 1, 0, 0, 0, xm_c117, xm_p117)
/-- NinthDayHooded.day()I -/
def xm_c118 : List Instr := [.aload 0, .sipush 1, .invokevirtual 120, .ireturn]
def xm_p118 : List Nat := [0, 1, 2, 5]
def xm_i118 : xe_I := (⟨"NinthDayHooded", "day", "()I"⟩, prog_1_method_22_code, 1, (Option.some Jvm.ClassFile.FieldType.int), 11, 1, 0, 0, 0, xm_c118, xm_p118)
/-- NinthDayHooded.days(I)I -/
def xm_c119 : List Instr := [.iload 1, .ifCond .lt 5, .iload 1, .sipush 40, .if_icmp .le 7, .sipush (-1), .goto 10, .aload 0, .iload 1, .invokevirtual 120, .ireturn]
def xm_p119 : List Nat := [0, 1, 4, 5, 7, 10, 11, 14, 15, 16, 19]
def xm_i119 : xe_I := (⟨"NinthDayHooded", "days", "(I)I"⟩, prog_1_method_23_code, 2, (Option.some Jvm.ClassFile.FieldType.int), 11, 1, 1, 0, 0, xm_c119, xm_p119)
/-- NinthDayHooded.goDays(I)I -/
def xm_c120 : List Instr := [.iload 1, .ifCond .le 7, .aload 0, .getfield 709, .aload 0, .getfield 707, .invokevirtual 17, .aload 0, .getfield 711, .invokevirtual 85, .aload 0, .getfield 711, .aload 0, .getfield 706, .aload 0, .getfield 710, .aload 0, .getfield 707, .iload 1, .invokevirtual 86, .aload 0, .getfield 705, .invokevirtual 31, .aload 0, .getfield 705, .aload 0, .getfield 711, .getfield 579, .invokevirtual 32, .aload 0, .getfield 705, .aload 0, .getfield 711, .getfield 580, .invokevirtual 32, .aload 0, .getfield 711, .getfield 578, .ireturn]
def xm_p120 : List Nat := [0, 1, 4, 5, 8, 9, 12, 15, 16, 19, 22, 23, 26, 27, 30, 31, 34, 35, 38, 39, 42, 43, 46, 49, 50, 53, 54, 57, 60, 63, 64, 67, 68, 71, 74, 77, 78, 81, 84]
def xm_i120 : xe_I := (⟨"NinthDayHooded", "goDays", "(I)I"⟩, prog_1_method_24_code, 2, (Option.some Jvm.ClassFile.FieldType.int), 11, 1, 1, 0, 0, xm_c120, xm_p120)
/-- NinthDayHooded.season()I -/
def xm_c121 : List Instr := [.aload 0, .invokevirtual 122, .istore 1, .iload 1, .sipush (-1), .if_icmp .eq 14, .aload 0, .getfield 704, .sipush 0, .putfield 449, .sipush (-1), .iload 1, .isub, .ireturn, .aload 0, .getfield 711, .invokevirtual 85, .sipush 0, .istore 2, .sipush 0, .istore 3, .sipush 0, .istore 4, .iload 4, .aload 0, .getfield 704, .getfield 449, .if_icmp .ge 55, .iload 3, .ifCond .ne 55, .aload 0, .getfield 704, .iload 4, .invokevirtual 77, .ifCond .eq 53, .aload 0, .iload 4, .invokevirtual 125, .ifCond .ne 42, .sipush 1, .istore 3, .goto 53, .iload 2, .ifCond .ne 49, .aload 0, .getfield 709, .aload 0, .getfield 707, .invokevirtual 17, .aload 0, .iload 4, .invokevirtual 126, .iinc 2 1, .iinc 4 1, .goto 23, .aload 0, .getfield 704, .sipush 0, .putfield 449, .aload 0, .getfield 705, .invokevirtual 31, .aload 0, .getfield 705, .iload 3, .invokevirtual 32, .aload 0, .getfield 705, .aload 0, .getfield 711, .getfield 578, .invokevirtual 32, .iload 2, .ireturn]
def xm_p121 : List Nat := [0, 1, 4, 5, 6, 7, 10, 11, 14, 15, 18, 19, 20, 21, 22, 23, 26, 29, 30, 31, 32, 33, 34, 36, 38, 39, 42, 45, 48, 49, 52, 53, 56, 58, 61, 64, 65, 67, 70, 73, 74, 75, 78, 79, 82, 83, 86, 87, 90, 93, 94, 96, 99, 102, 105, 108, 109, 112, 113, 116, 117, 120, 123, 124, 127, 128, 131, 132, 135, 136, 139, 142, 145, 146]
def xm_i121 : xe_I := (⟨"NinthDayHooded", "season", "()I"⟩, prog_1_method_25_code, 5, (Option.some Jvm.ClassFile.FieldType.int), 11, 1, 0, 0, 0, xm_c121, xm_p121)
/-- NinthDayHooded.seasonFault()I -/
def xm_c122 : List Instr := [.sipush 0, .istore 1, .aload 0, .getfield 704, .getfield 449, .sipush 60, .invokestatic 5, .istore 2, .sipush 0, .istore 3, .iload 3, .iload 2, .if_icmp .ge 27, .iload 1, .aload 0, .getfield 704, .iload 3, .invokevirtual 75, .invokestatic 123, .istore 1, .iload 1, .sipush (-1), .if_icmp .ne 25, .iload 3, .ireturn, .iinc 3 1, .goto 10, .aload 0, .getfield 704, .getfield 449, .sipush 60, .if_icmp .le 34, .sipush 60, .ireturn, .iload 1, .sipush 1, .if_icmp .eq 44, .iload 1, .sipush 6, .if_icmp .eq 44, .aload 0, .getfield 704, .getfield 449, .ifCond .ne 46, .sipush 1, .goto 47, .sipush 0, .istore 3, .iload 3, .ifCond .eq 52, .sipush (-1), .goto 55, .aload 0, .getfield 704, .getfield 449, .ireturn]
def xm_p122 : List Nat := [0, 1, 2, 3, 6, 9, 11, 14, 15, 16, 17, 18, 19, 22, 23, 24, 27, 28, 31, 34, 35, 36, 37, 40, 41, 42, 45, 48, 49, 52, 55, 57, 60, 62, 63, 64, 65, 68, 69, 71, 74, 75, 78, 81, 84, 85, 88, 89, 90, 91, 94, 95, 98, 99, 102, 105]
def xm_i122 : xe_I := (⟨"NinthDayHooded", "seasonFault", "()I"⟩, prog_1_method_26_code, 4, (Option.some Jvm.ClassFile.FieldType.int), 11, 1, 0, 0, 0, xm_c122, xm_p122)
/-- NinthDayHooded.placeBehind(II)I -/
def xm_c123 : List Instr := [.iload 0, .tableswitch 33 0 5 #[2, 33, 5, 12, 19, 26], .iload 1, .invokestatic 124, .ireturn, .iload 1, .invokestatic 171, .ifCond .eq 10, .sipush 4, .goto 11, .sipush (-1), .ireturn, .iload 1, .invokestatic 171, .ifCond .eq 17, .sipush 5, .goto 18, .sipush (-1), .ireturn, .iload 1, .invokestatic 170, .ifCond .eq 24, .sipush 6, .goto 25, .sipush (-1), .ireturn, .iload 1, .invokestatic 171, .ifCond .eq 31, .sipush 6, .goto 32, .sipush (-1), .ireturn, .iload 0, .sipush 1, .if_icmp .ne 44, .iload 1, .sipush 49, .if_icmp .lt 44, .iload 1, .sipush 57, .if_icmp .gt 44, .sipush 6, .ireturn, .iload 1, .sipush 59, .if_icmp .ne 49, .sipush 0, .goto 50, .sipush (-1), .ireturn]
def xm_p123 : List Nat := [0, 1, 40, 41, 44, 45, 46, 49, 52, 53, 56, 57, 58, 59, 62, 65, 66, 69, 70, 71, 72, 75, 78, 80, 83, 84, 85, 86, 89, 92, 94, 97, 98, 99, 100, 101, 104, 105, 107, 110, 111, 113, 116, 118, 119, 120, 122, 125, 126, 129, 130]
def xm_i123 : xe_I := (⟨"NinthDayHooded", "placeBehind", "(II)I"⟩, prog_1_method_27_code, 2, (Option.some Jvm.ClassFile.FieldType.int), 11, 0, 2, 0, 0, xm_c123, xm_p123)
/-- NinthDayHooded.placeInAct(I)I -/
def xm_c124 : List Instr := [.iload 0, .sipush 100, .if_icmp .ne 5, .sipush 1, .ireturn, .iload 0, .sipush 115, .if_icmp .ne 10, .sipush 3, .ireturn, .iload 0, .sipush 104, .if_icmp .eq 16, .iload 0, .sipush 109, .if_icmp .ne 18, .sipush 2, .goto 19, .sipush (-1), .ireturn]
def xm_p124 : List Nat := [0, 1, 3, 6, 7, 8, 9, 11, 14, 15, 16, 17, 19, 22, 23, 25, 28, 29, 32, 33]
def xm_i124 : xe_I := (⟨"NinthDayHooded", "placeInAct", "(I)I"⟩, prog_1_method_28_code, 1, (Option.some Jvm.ClassFile.FieldType.int), 11, 0, 1, 0, 0, xm_c124, xm_p124)
/-- NinthDayHooded.canAct(I)Z -/
def xm_c125 : List Instr := [.aload 0, .getfield 704, .iload 1, .sipush 1, .iadd, .invokevirtual 75, .sipush 97, .isub, .istore 2, .aload 0, .getfield 704, .iload 1, .invokevirtual 75, .sipush 100, .if_icmp .ne 17, .sipush 1, .freturn, .aload 0, .getfield 704, .iload 1, .invokevirtual 75, .sipush 115, .if_icmp .ne 36, .aload 0, .getfield 706, .iload 2, .aload 0, .getfield 704, .iload 1, .sipush 2, .iadd, .invokevirtual 75, .sipush 97, .isub, .invokevirtual 22, .goto 40, .aload 0, .getfield 706, .iload 2, .invokevirtual 21, .freturn]
def xm_p125 : List Nat := [0, 1, 4, 5, 6, 7, 10, 12, 13, 14, 15, 18, 19, 22, 24, 27, 28, 29, 30, 33, 34, 37, 39, 42, 43, 46, 47, 48, 51, 52, 53, 54, 57, 59, 60, 63, 66, 67, 70, 71, 74]
def xm_i125 : xe_I := (⟨"NinthDayHooded", "canAct", "(I)Z"⟩, prog_1_method_29_code, 3, (Option.some Jvm.ClassFile.FieldType.boolean), 11, 1, 1, 0, 0, xm_c125, xm_p125)
/-- NinthDayHooded.act(I)V -/
def xm_c126 : List Instr := [.aload 0, .getfield 704, .iload 1, .sipush 1, .iadd, .invokevirtual 75, .sipush 97, .isub, .istore 2, .aload 0, .getfield 704, .iload 1, .invokevirtual 75, .lookupswitch 51 #[(104, 14), (109, 26), (115, 38)], .aload 0, .getfield 707, .getfield 320, .iload 2, .aload 0, .getfield 704, .iload 1, .sipush 2, .iadd, .invokevirtual 76, .iastore, .goto 68, .aload 0, .getfield 707, .getfield 321, .iload 2, .aload 0, .getfield 704, .iload 1, .sipush 2, .iadd, .invokevirtual 76, .iastore, .goto 68, .aload 0, .getfield 707, .iload 2, .aload 0, .getfield 704, .iload 1, .sipush 2, .iadd, .invokevirtual 75, .sipush 97, .isub, .invokevirtual 53, .goto 68, .aload 0, .getfield 711, .aload 0, .getfield 706, .aload 0, .getfield 710, .aload 0, .getfield 707, .sipush 1, .aload 0, .getfield 704, .iload 1, .sipush 1, .iadd, .invokevirtual 76, .invokestatic 4, .invokevirtual 86, .return_]
def xm_p126 : List Nat := [0, 1, 4, 5, 6, 7, 10, 12, 13, 14, 15, 18, 19, 22, 56, 57, 60, 63, 64, 65, 68, 69, 70, 71, 74, 75, 78, 79, 82, 85, 86, 87, 90, 91, 92, 93, 96, 97, 100, 101, 104, 105, 106, 109, 110, 111, 112, 115, 117, 118, 121, 124, 125, 128, 129, 132, 133, 136, 137, 140, 141, 142, 145, 146, 147, 148, 151, 154, 157]
def xm_i126 : xe_I := (⟨"NinthDayHooded", "act", "(I)V"⟩, prog_1_method_30_code, 3, (Option.none : Option Jvm.ClassFile.FieldType), 11, 1, 1, 0, 0, xm_c126, xm_p126)
/-- NinthDayHooded.undo()I -/
def xm_c127 : List Instr := [.aload 0, .getfield 709, .aload 0, .getfield 707, .invokevirtual 18, .ifCond .eq 10, .aload 0, .getfield 709, .getfield 68, .goto 11, .sipush (-1), .ireturn]
def xm_p127 : List Nat := [0, 1, 4, 5, 8, 11, 14, 15, 18, 21, 24, 25]
def xm_i127 : xe_I := (⟨"NinthDayHooded", "undo", "()I"⟩, prog_1_method_31_code, 1, (Option.some Jvm.ClassFile.FieldType.int), 11, 1, 0, 0, 0, xm_c127, xm_p127)
/-- NinthDayHooded.led(II)I -/
def xm_c128 : List Instr := [.aload 0, .getfield 706, .iload 1, .invokevirtual 21, .ifCond .eq 11, .iload 2, .sipush 1, .if_icmp .lt 11, .iload 2, .sipush 30, .if_icmp .le 13, .sipush (-1), .ireturn, .iload 2, .aload 0, .getfield 707, .getfield 325, .if_icmp .gt 24, .aload 0, .getfield 707, .iload 1, .iload 2, .invokevirtual 58, .goto 25, .sipush 11, .istore 3, .iload 3, .tableswitch 34 9 11 #[30, 28, 32], .sipush (-2), .ireturn, .sipush (-3), .ireturn, .sipush (-4), .ireturn, .iload 3, .ireturn]
def xm_p128 : List Nat := [0, 1, 4, 5, 8, 11, 12, 13, 16, 17, 19, 22, 23, 24, 25, 26, 29, 32, 35, 36, 39, 40, 41, 44, 47, 49, 50, 51, 76, 78, 79, 81, 82, 84, 85, 86]
def xm_i128 : xe_I := (⟨"NinthDayHooded", "led", "(II)I"⟩, prog_1_method_32_code, 4, (Option.some Jvm.ClassFile.FieldType.int), 11, 1, 2, 0, 0, xm_c128, xm_p128)
/-- NinthDayHooded.leads(I)I -/
def xm_c129 : List Instr := [.aload 0, .getfield 706, .iload 1, .invokevirtual 21, .ifCond .ne 7, .sipush (-1), .ireturn, .sipush 0, .istore 2, .sipush 0, .istore 3, .sipush (-1), .istore 4, .sipush 0, .istore 5, .sipush 0, .istore 6, .iload 6, .aload 0, .getfield 706, .getfield 132, .if_icmp .ge 64, .sipush 0, .istore 7, .sipush 1, .istore 8, .iload 8, .aload 0, .getfield 707, .invokevirtual 57, .if_icmp .gt 41, .aload 0, .getfield 707, .iload 6, .iload 8, .invokevirtual 58, .iload 1, .if_icmp .ne 39, .iinc 7 1, .iinc 8 1, .goto 26, .iload 7, .iload 5, .if_icmp .le 48, .iload 7, .istore 5, .iload 6, .istore 4, .iload 2, .iload 7, .iadd, .istore 2, .iload 3, .iload 7, .ifCond .le 59, .sipush 1, .iload 6, .ishl, .goto 60, .sipush 0, .ior, .istore 3, .iinc 6 1, .goto 17, .aload 0, .getfield 705, .invokevirtual 31, .aload 0, .getfield 705, .iload 3, .invokevirtual 32, .aload 0, .getfield 705, .iload 4, .invokevirtual 32, .iload 2, .ireturn]
def xm_p129 : List Nat := [0, 1, 4, 5, 8, 11, 12, 13, 14, 15, 16, 17, 18, 20, 21, 23, 24, 26, 28, 29, 32, 35, 38, 39, 41, 42, 44, 46, 47, 50, 53, 56, 57, 60, 62, 64, 67, 68, 71, 74, 77, 80, 82, 84, 87, 89, 91, 93, 95, 96, 98, 99, 100, 101, 103, 106, 107, 109, 110, 113, 114, 115, 116, 119, 122, 123, 126, 129, 130, 133, 134, 137, 138, 141, 143, 146, 147]
def xm_i129 : xe_I := (⟨"NinthDayHooded", "leads", "(I)I"⟩, prog_1_method_33_code, 9, (Option.some Jvm.ClassFile.FieldType.int), 11, 1, 1, 0, 0, xm_c129, xm_p129)
/-- NinthDayHooded.ahead(I)I -/
def xm_c130 : List Instr := [.iload 1, .ifCond .lt 5, .iload 1, .sipush 40, .if_icmp .le 7, .sipush (-1), .ireturn, .aload 0, .getfield 708, .aload 0, .getfield 707, .invokevirtual 50, .aload 0, .getfield 711, .invokevirtual 85, .aload 0, .getfield 711, .aload 0, .getfield 706, .aload 0, .getfield 710, .aload 0, .getfield 708, .iload 1, .invokevirtual 86, .aload 0, .getfield 705, .invokevirtual 31, .sipush 0, .istore 2, .iload 2, .aload 0, .getfield 706, .getfield 132, .if_icmp .ge 45, .aload 0, .getfield 705, .aload 0, .getfield 711, .getfield 577, .iload 2, .iaload, .invokevirtual 32, .iinc 2 1, .goto 30, .aload 0, .getfield 705, .aload 0, .getfield 711, .getfield 579, .invokevirtual 32, .aload 0, .getfield 705, .aload 0, .getfield 711, .getfield 580, .invokevirtual 32, .aload 0, .getfield 711, .getfield 578, .ireturn]
def xm_p130 : List Nat := [0, 1, 4, 5, 7, 10, 11, 12, 13, 16, 17, 20, 23, 24, 27, 30, 31, 34, 35, 38, 39, 42, 43, 46, 47, 50, 51, 54, 57, 58, 59, 60, 61, 64, 67, 70, 71, 74, 75, 78, 81, 82, 83, 86, 89, 92, 93, 96, 97, 100, 103, 106, 107, 110, 111, 114, 117, 120, 121, 124, 127]
def xm_i130 : xe_I := (⟨"NinthDayHooded", "ahead", "(I)I"⟩, prog_1_method_34_code, 3, (Option.some Jvm.ClassFile.FieldType.int), 11, 1, 1, 0, 0, xm_c130, xm_p130)
/-- NinthDayHooded.learns(II)I -/
def xm_c131 : List Instr := [.aload 0, .getfield 706, .iload 1, .invokevirtual 21, .ifCond .eq 8, .iload 2, .invokestatic 172, .ifCond .ne 10, .sipush (-1), .ireturn, .aload 0, .getfield 708, .aload 0, .getfield 707, .invokevirtual 50, .aload 0, .getfield 708, .iload 1, .iload 2, .invokevirtual 54, .ifCond .eq 23, .sipush 0, .goto 24, .sipush (-2), .istore 3, .sipush 1, .istore 4, .iload 4, .sipush 40, .if_icmp .gt 53, .iload 3, .sipush (-2), .if_icmp .ne 53, .aload 0, .getfield 711, .aload 0, .getfield 706, .aload 0, .getfield 710, .aload 0, .getfield 708, .sipush 1, .invokevirtual 86, .aload 0, .getfield 708, .iload 1, .iload 2, .invokevirtual 54, .ifCond .eq 51, .iload 4, .istore 3, .iinc 4 1, .goto 27, .aload 0, .getfield 705, .invokevirtual 31, .aload 0, .getfield 705, .aload 0, .getfield 708, .getfield 323, .iload 1, .sipush 6, .imul, .iload 2, .iadd, .iaload, .invokevirtual 32, .iload 3, .ireturn]
def xm_p131 : List Nat := [0, 1, 4, 5, 8, 11, 12, 15, 18, 19, 20, 21, 24, 25, 28, 31, 32, 35, 36, 37, 40, 43, 44, 47, 49, 50, 51, 53, 55, 57, 60, 61, 63, 66, 67, 70, 71, 74, 75, 78, 79, 82, 83, 86, 87, 90, 91, 92, 95, 98, 100, 101, 104, 107, 108, 111, 114, 115, 118, 119, 122, 125, 126, 128, 129, 130, 131, 132, 135, 136]
def xm_i131 : xe_I := (⟨"NinthDayHooded", "learns", "(II)I"⟩, prog_1_method_35_code, 5, (Option.some Jvm.ClassFile.FieldType.int), 11, 1, 2, 0, 0, xm_c131, xm_p131)
/-- NinthDayHooded.task(II)I -/
def xm_c132 : List Instr := [.iload 1, .invokestatic 172, .ifCond .eq 9, .iload 2, .sipush 1, .if_icmp .lt 9, .iload 2, .sipush 3, .if_icmp .le 11, .sipush (-1), .ireturn, .aload 0, .getfield 712, .getfield 392, .sipush 6, .if_icmp .ne 18, .sipush (-2), .ireturn, .aload 0, .getfield 712, .iload 1, .iload 2, .invokevirtual 62, .aload 0, .getfield 712, .getfield 392, .sipush 1, .isub, .ireturn]
def xm_p132 : List Nat := [0, 1, 4, 7, 8, 9, 12, 13, 14, 17, 18, 19, 20, 23, 26, 28, 31, 33, 34, 35, 38, 39, 40, 43, 44, 47, 50, 51, 52]
def xm_i132 : xe_I := (⟨"NinthDayHooded", "task", "(II)I"⟩, prog_1_method_36_code, 3, (Option.some Jvm.ClassFile.FieldType.int), 11, 1, 2, 0, 0, xm_c132, xm_p132)
/-- NinthDayHooded.done()I -/
def xm_c133 : List Instr := [.aload 0, .getfield 712, .getfield 392, .ifCond .ne 6, .sipush (-1), .ireturn, .aload 0, .getfield 712, .dup, .getfield 392, .sipush 1, .isub, .putfield 392, .aload 0, .getfield 712, .getfield 392, .ireturn]
def xm_p133 : List Nat := [0, 1, 4, 7, 10, 11, 12, 13, 16, 17, 20, 21, 22, 25, 26, 29, 32]
def xm_i133 : xe_I := (⟨"NinthDayHooded", "done", "()I"⟩, prog_1_method_37_code, 1, (Option.some Jvm.ClassFile.FieldType.int), 11, 1, 0, 0, 0, xm_c133, xm_p133)
/-- NinthDayHooded.manned(I)I -/
def xm_c134 : List Instr := [.iload 1, .invokestatic 173, .ifCond .ne 5, .sipush (-1), .ireturn, .aload 0, .getfield 712, .aload 0, .getfield 707, .aload 0, .getfield 706, .getfield 132, .invokevirtual 63, .aload 0, .getfield 705, .invokevirtual 31, .aload 0, .getfield 705, .aload 0, .getfield 712, .iload 1, .invokevirtual 64, .invokestatic 0, .invokevirtual 32, .aload 0, .getfield 712, .aload 0, .getfield 712, .iload 1, .invokevirtual 64, .invokevirtual 65, .ireturn]
def xm_p134 : List Nat := [0, 1, 4, 7, 8, 9, 10, 13, 14, 17, 18, 21, 24, 27, 28, 31, 34, 35, 38, 39, 42, 43, 46, 49, 52, 53, 56, 57, 60, 61, 64, 67]
def xm_i134 : xe_I := (⟨"NinthDayHooded", "manned", "(I)I"⟩, prog_1_method_38_code, 2, (Option.some Jvm.ClassFile.FieldType.int), 11, 1, 1, 0, 0, xm_c134, xm_p134)
/-- NinthDayHooded.bare()I -/
def xm_c135 : List Instr := [.aload 0, .getfield 712, .aload 0, .getfield 707, .aload 0, .getfield 706, .getfield 132, .invokevirtual 63, .sipush 0, .istore 1, .sipush 0, .istore 2, .iload 2, .sipush 9, .if_icmp .ge 33, .iload 1, .aload 0, .getfield 712, .aload 0, .getfield 712, .iload 2, .invokevirtual 64, .invokevirtual 65, .ifCond .le 28, .sipush 1, .iload 2, .ishl, .goto 29, .sipush 0, .ior, .istore 1, .iinc 2 1, .goto 12, .aload 0, .getfield 705, .invokevirtual 31, .aload 0, .getfield 705, .aload 0, .getfield 712, .invokevirtual 67, .invokevirtual 32, .iload 1, .ireturn]
def xm_p135 : List Nat := [0, 1, 4, 5, 8, 9, 12, 15, 18, 19, 20, 21, 22, 23, 25, 28, 29, 30, 33, 34, 37, 38, 41, 44, 47, 48, 49, 50, 53, 54, 55, 56, 59, 62, 63, 66, 69, 70, 73, 74, 77, 80, 83, 84]
def xm_i135 : xe_I := (⟨"NinthDayHooded", "bare", "()I"⟩, prog_1_method_39_code, 3, (Option.some Jvm.ClassFile.FieldType.int), 11, 1, 0, 0, 0, xm_c135, xm_p135)
/-- NinthDayHooded.blindest()I -/
def xm_c136 : List Instr := [.sipush 0, .istore 1, .sipush (-1), .istore 2, .sipush 0, .istore 3, .iload 3, .sipush 9, .if_icmp .ge 27, .aload 0, .getfield 707, .iload 3, .aload 0, .getfield 706, .getfield 132, .invokevirtual 51, .invokestatic 0, .istore 4, .iload 4, .iload 2, .if_icmp .le 25, .iload 4, .istore 2, .iload 3, .istore 1, .iinc 3 1, .goto 6, .aload 0, .getfield 705, .invokevirtual 31, .aload 0, .getfield 705, .iload 2, .invokevirtual 32, .iload 1, .ireturn]
def xm_p136 : List Nat := [0, 1, 2, 3, 4, 5, 6, 7, 9, 12, 13, 16, 17, 18, 21, 24, 27, 30, 32, 34, 35, 38, 40, 41, 42, 43, 46, 49, 50, 53, 56, 57, 60, 61, 64, 65]
def xm_i136 : xe_I := (⟨"NinthDayHooded", "blindest", "()I"⟩, prog_1_method_40_code, 5, (Option.some Jvm.ClassFile.FieldType.int), 11, 1, 0, 0, 0, xm_c136, xm_p136)
/-- NinthDayHooded.mends()I -/
def xm_c137 : List Instr := [.aload 0, .getfield 712, .aload 0, .getfield 707, .aload 0, .getfield 706, .getfield 132, .invokevirtual 70, .istore 1, .iload 1, .sipush (-2), .if_icmp .eq 15, .aload 0, .iload 1, .invokevirtual 139, .iload 1, .ireturn]
def xm_p137 : List Nat := [0, 1, 4, 5, 8, 9, 12, 15, 18, 19, 20, 22, 25, 26, 27, 30, 31]
def xm_i137 : xe_I := (⟨"NinthDayHooded", "mends", "()I"⟩, prog_1_method_41_code, 2, (Option.some Jvm.ClassFile.FieldType.int), 11, 1, 0, 0, 0, xm_c137, xm_p137)
/-- NinthDayHooded.mend()I -/
def xm_c138 : List Instr := [.aload 0, .getfield 712, .aload 0, .getfield 707, .aload 0, .getfield 706, .getfield 132, .invokevirtual 70, .istore 1, .iload 1, .sipush (-2), .if_icmp .ne 14, .sipush (-2), .ireturn, .aload 0, .iload 1, .invokevirtual 139, .iload 1, .ifCond .le 24, .aload 0, .getfield 709, .aload 0, .getfield 707, .invokevirtual 17, .sipush 0, .istore 2, .iload 2, .iload 1, .if_icmp .ge 45, .aload 0, .getfield 707, .getfield 320, .aload 0, .getfield 712, .getfield 390, .iload 2, .iaload, .aload 0, .getfield 712, .getfield 391, .iload 2, .iaload, .iastore, .iinc 2 1, .goto 26, .iload 1, .ireturn]
def xm_p138 : List Nat := [0, 1, 4, 5, 8, 9, 12, 15, 18, 19, 20, 22, 25, 27, 28, 29, 30, 33, 34, 37, 38, 41, 42, 45, 48, 49, 50, 51, 52, 55, 56, 59, 62, 63, 66, 69, 70, 71, 72, 75, 78, 79, 80, 81, 84, 87, 88]
def xm_i138 : xe_I := (⟨"NinthDayHooded", "mend", "()I"⟩, prog_1_method_42_code, 3, (Option.some Jvm.ClassFile.FieldType.int), 11, 1, 0, 0, 0, xm_c138, xm_p138)
/-- NinthDayHooded.tellMoves(I)V -/
def xm_c139 : List Instr := [.aload 0, .getfield 705, .invokevirtual 31, .sipush 0, .istore 2, .iload 2, .iload 1, .if_icmp .ge 26, .aload 0, .getfield 705, .aload 0, .getfield 712, .getfield 390, .iload 2, .iaload, .invokevirtual 32, .aload 0, .getfield 705, .aload 0, .getfield 712, .getfield 391, .iload 2, .iaload, .invokevirtual 32, .iinc 2 1, .goto 5, .return_]
def xm_p139 : List Nat := [0, 1, 4, 7, 8, 9, 10, 11, 14, 15, 18, 19, 22, 25, 26, 27, 30, 31, 34, 35, 38, 41, 42, 43, 46, 49, 52]
def xm_i139 : xe_I := (⟨"NinthDayHooded", "tellMoves", "(I)V"⟩, prog_1_method_43_code, 3, (Option.none : Option Jvm.ClassFile.FieldType), 11, 1, 1, 0, 0, xm_c139, xm_p139)
/-- NinthDayHooded.newcomer(I)I -/
def xm_c140 : List Instr := [.iload 1, .ifCond .lt 5, .iload 1, .sipush 64, .if_icmp .lt 7, .sipush (-1), .ireturn, .aload 0, .getfield 712, .aload 0, .getfield 707, .aload 0, .getfield 706, .getfield 132, .invokevirtual 63, .sipush 0, .istore 2, .sipush 0, .istore 3, .iload 3, .sipush 9, .if_icmp .ge 35, .iload 2, .aload 0, .getfield 712, .aload 0, .getfield 712, .iload 3, .invokevirtual 64, .iload 1, .invokevirtual 66, .iadd, .istore 2, .iinc 3 1, .goto 19, .sipush (-1), .istore 3, .sipush 0, .istore 4, .sipush 0, .istore 5, .iload 5, .sipush 9, .if_icmp .ge 74, .aload 0, .getfield 712, .iload 5, .invokevirtual 64, .istore 6, .iload 2, .aload 0, .getfield 712, .iload 6, .iload 1, .invokevirtual 66, .isub, .aload 0, .getfield 712, .iload 6, .invokevirtual 65, .iadd, .istore 7, .iload 3, .sipush (-1), .if_icmp .eq 68, .iload 7, .iload 4, .if_icmp .ge 72, .iload 7, .istore 4, .iload 5, .istore 3, .iinc 5 1, .goto 41, .aload 0, .getfield 705, .invokevirtual 31, .aload 0, .getfield 705, .iload 4, .invokevirtual 32, .iload 3, .ireturn]
def xm_p140 : List Nat := [0, 1, 4, 5, 7, 10, 11, 12, 13, 16, 17, 20, 21, 24, 27, 30, 31, 32, 33, 34, 35, 37, 40, 41, 42, 45, 46, 49, 50, 53, 54, 57, 58, 59, 62, 65, 66, 67, 68, 70, 71, 73, 75, 77, 80, 81, 84, 86, 89, 91, 92, 93, 96, 98, 99, 102, 103, 104, 107, 109, 112, 113, 115, 116, 117, 120, 122, 124, 127, 129, 131, 133, 134, 137, 140, 141, 144, 147, 148, 151, 153, 156, 157]
def xm_i140 : xe_I := (⟨"NinthDayHooded", "newcomer", "(I)I"⟩, prog_1_method_44_code, 8, (Option.some Jvm.ClassFile.FieldType.int), 11, 1, 1, 0, 0, xm_c140, xm_p140)
/-- NinthDayHooded.needed()I -/
def xm_c141 : List Instr := [.aload 0, .getfield 712, .aload 0, .getfield 707, .aload 0, .getfield 706, .getfield 132, .invokevirtual 63, .aload 0, .getfield 712, .invokevirtual 67, .istore 1, .sipush 0, .istore 2, .sipush 0, .istore 3, .iload 3, .aload 0, .getfield 706, .getfield 132, .if_icmp .ge 54, .aload 0, .getfield 712, .dup, .getfield 393, .sipush 1, .iload 3, .ishl, .ixor, .putfield 393, .iload 2, .aload 0, .getfield 712, .invokevirtual 67, .iload 1, .if_icmp .le 40, .sipush 1, .iload 3, .ishl, .goto 41, .sipush 0, .ior, .istore 2, .aload 0, .getfield 712, .dup, .getfield 393, .sipush 1, .iload 3, .ishl, .ixor, .putfield 393, .iinc 3 1, .goto 16, .iload 2, .ireturn]
def xm_p141 : List Nat := [0, 1, 4, 5, 8, 9, 12, 15, 18, 19, 22, 25, 26, 27, 28, 29, 30, 31, 32, 35, 38, 41, 42, 45, 46, 49, 50, 51, 52, 53, 56, 57, 58, 61, 64, 65, 68, 69, 70, 71, 74, 75, 76, 77, 78, 81, 82, 85, 86, 87, 88, 89, 92, 95, 98, 99]
def xm_i141 : xe_I := (⟨"NinthDayHooded", "needed", "()I"⟩, prog_1_method_45_code, 4, (Option.some Jvm.ClassFile.FieldType.int), 11, 1, 0, 0, 0, xm_c141, xm_p141)
/-- NinthDayHooded.gain(II)I -/
def xm_c142 : List Instr := [.aload 0, .getfield 706, .iload 1, .iload 2, .invokevirtual 22, .ifCond .ne 10, .athrow, .swap, .swap, .swap, .aload 0, .getfield 712, .aload 0, .getfield 707, .aload 0, .getfield 706, .getfield 132, .invokevirtual 63, .aload 0, .getfield 712, .invokevirtual 67, .istore 3, .aload 0, .getfield 712, .iload 1, .aload 0, .getfield 707, .getfield 320, .iload 1, .iaload, .aload 0, .getfield 707, .getfield 320, .iload 2, .iaload, .invokevirtual 69, .aload 0, .getfield 712, .iload 2, .aload 0, .getfield 707, .getfield 320, .iload 2, .iaload, .aload 0, .getfield 707, .getfield 320, .iload 1, .iaload, .invokevirtual 69, .iload 3, .aload 0, .getfield 712, .invokevirtual 67, .isub, .ireturn]
def xm_p142 : List Nat := [0, 1, 4, 5, 6, 9, 12, 15, 16, 19, 20, 21, 24, 25, 28, 29, 32, 35, 38, 39, 42, 45, 46, 47, 50, 51, 52, 55, 58, 59, 60, 61, 64, 67, 68, 69, 72, 73, 76, 77, 78, 81, 84, 85, 86, 87, 90, 93, 94, 95, 98, 99, 100, 103, 106, 107]
def xm_i142 : xe_I := (⟨"NinthDayHooded", "gain", "(II)I"⟩, prog_1_method_46_code, 4, (Option.some Jvm.ClassFile.FieldType.int), 11, 3, 2, 1, 6, xm_c142, xm_p142)
/-- NinthDayHooded.ferry(III)I -/
def xm_c143 : List Instr := [.iload 1, .invokestatic 174, .ifCond .eq 12, .iload 2, .invokestatic 174, .ifCond .eq 12, .iload 3, .sipush 1, .if_icmp .lt 12, .iload 3, .sipush 3, .if_icmp .le 14, .sipush (-1), .ireturn, .aload 0, .getfield 707, .iload 1, .sipush 0, .aload 0, .getfield 706, .getfield 132, .invokevirtual 52, .aload 0, .getfield 707, .iload 2, .sipush 0, .aload 0, .getfield 706, .getfield 132, .invokevirtual 52, .ior, .istore 4, .sipush 0, .istore 5, .sipush 0, .istore 6, .iload 6, .sipush 9, .if_icmp .ge 65, .iload 4, .aload 0, .getfield 707, .iload 6, .aload 0, .getfield 706, .getfield 132, .invokevirtual 51, .sipush (-1), .ixor, .iand, .istore 7, .iload 5, .iload 7, .invokestatic 0, .iload 3, .if_icmp .lt 60, .sipush 1, .iload 6, .ishl, .goto 61, .sipush 0, .ior, .istore 5, .iinc 6 1, .goto 36, .iload 5, .ireturn]
def xm_p143 : List Nat := [0, 1, 4, 7, 8, 11, 14, 15, 16, 19, 20, 21, 24, 25, 26, 27, 30, 31, 32, 33, 36, 39, 42, 43, 46, 47, 48, 49, 52, 55, 58, 59, 61, 62, 64, 65, 67, 69, 71, 74, 76, 77, 80, 82, 83, 86, 89, 92, 93, 94, 95, 97, 99, 101, 104, 105, 108, 109, 111, 112, 115, 116, 117, 119, 122, 125, 127]
def xm_i143 : xe_I := (⟨"NinthDayHooded", "ferry", "(III)I"⟩, prog_1_method_47_code, 8, (Option.some Jvm.ClassFile.FieldType.int), 11, 1, 3, 0, 0, xm_c143, xm_p143)
/-- NinthDayHooded.wish(III)I -/
def xm_c144 : List Instr := [.aload 0, .getfield 706, .iload 1, .iload 2, .invokevirtual 22, .ifCond .eq 11, .iload 3, .ifCond .lt 11, .iload 3, .sipush 1, .if_icmp .le 13, .sipush (-1), .ireturn, .aload 0, .getfield 713, .getfield 645, .sipush 12, .if_icmp .ne 20, .sipush (-2), .ireturn, .aload 0, .getfield 713, .iload 1, .iload 2, .iload 3, .invokevirtual 89, .aload 0, .getfield 713, .getfield 645, .ireturn]
def xm_p144 : List Nat := [0, 1, 4, 5, 6, 9, 12, 13, 16, 17, 18, 21, 22, 23, 24, 27, 30, 32, 35, 37, 38, 39, 42, 43, 44, 45, 48, 49, 52, 55]
def xm_i144 : xe_I := (⟨"NinthDayHooded", "wish", "(III)I"⟩, prog_1_method_48_code, 4, (Option.some Jvm.ClassFile.FieldType.int), 11, 1, 3, 0, 0, xm_c144, xm_p144)
/-- NinthDayHooded.forget()I -/
def xm_c145 : List Instr := [.aload 0, .getfield 713, .getfield 645, .istore 1, .aload 0, .getfield 713, .sipush 0, .putfield 645, .iload 1, .ireturn]
def xm_p145 : List Nat := [0, 1, 4, 7, 8, 9, 12, 13, 16, 17]
def xm_i145 : xe_I := (⟨"NinthDayHooded", "forget", "()I"⟩, prog_1_method_49_code, 2, (Option.some Jvm.ClassFile.FieldType.int), 11, 1, 0, 0, 0, xm_c145, xm_p145)
/-- NinthDayHooded.met()I -/
def xm_c146 : List Instr := [.aload 0, .getfield 713, .aload 0, .getfield 707, .getfield 320, .invokevirtual 90, .istore 1, .aload 0, .getfield 705, .invokevirtual 31, .aload 0, .getfield 705, .iload 1, .invokevirtual 32, .iload 1, .invokestatic 0, .ireturn]
def xm_p146 : List Nat := [0, 1, 4, 5, 8, 11, 14, 15, 16, 19, 22, 23, 26, 27, 30, 31, 34]
def xm_i146 : xe_I := (⟨"NinthDayHooded", "met", "()I"⟩, prog_1_method_50_code, 2, (Option.some Jvm.ClassFile.FieldType.int), 11, 1, 0, 0, 0, xm_c146, xm_p146)
/-- NinthDayHooded.please()I -/
def xm_c147 : List Instr := [.aload 0, .getfield 708, .aload 0, .getfield 707, .invokevirtual 50, .aload 0, .getfield 712, .aload 0, .getfield 707, .aload 0, .getfield 706, .getfield 132, .invokevirtual 63, .aload 0, .getfield 712, .invokevirtual 67, .istore 1, .aload 0, .getfield 713, .aload 0, .getfield 707, .getfield 320, .invokevirtual 90, .invokestatic 0, .istore 2, .sipush (-1), .istore 3, .sipush (-1), .istore 4, .sipush 0, .istore 5, .iload 5, .aload 0, .getfield 706, .getfield 132, .if_icmp .ge 97, .aload 0, .getfield 707, .getfield 320, .iload 5, .iaload, .istore 6, .sipush 0, .istore 7, .iload 7, .sipush 9, .if_icmp .ge 89, .aload 0, .getfield 708, .getfield 320, .iload 5, .iload 7, .iastore, .aload 0, .getfield 712, .iload 5, .iload 6, .iload 7, .invokevirtual 69, .aload 0, .getfield 713, .aload 0, .getfield 708, .getfield 320, .invokevirtual 90, .invokestatic 0, .istore 8, .iload 8, .iload 2, .if_icmp .le 81, .aload 0, .getfield 712, .invokevirtual 67, .iload 1, .if_icmp .gt 81, .iload 8, .istore 2, .iload 5, .istore 3, .iload 7, .istore 4, .aload 0, .getfield 712, .iload 5, .iload 7, .iload 6, .invokevirtual 69, .iinc 7 1, .goto 44, .aload 0, .getfield 708, .getfield 320, .iload 5, .iload 6, .iastore, .iinc 5 1, .goto 31, .aload 0, .getfield 705, .invokevirtual 31, .aload 0, .getfield 705, .iload 4, .invokevirtual 32, .aload 0, .getfield 705, .iload 2, .invokevirtual 32, .iload 3, .ireturn]
def xm_p147 : List Nat := [0, 1, 4, 5, 8, 11, 12, 15, 16, 19, 20, 23, 26, 29, 30, 33, 36, 37, 38, 41, 42, 45, 48, 51, 54, 55, 56, 57, 58, 60, 61, 63, 65, 66, 69, 72, 75, 76, 79, 82, 84, 85, 87, 88, 90, 92, 94, 97, 98, 101, 104, 106, 108, 109, 110, 113, 115, 117, 119, 122, 123, 126, 127, 130, 133, 136, 139, 141, 143, 144, 147, 148, 151, 154, 155, 158, 160, 161, 163, 164, 166, 168, 169, 172, 174, 176, 178, 181, 184, 187, 188, 191, 194, 196, 198, 199, 202, 205, 206, 209, 212, 213, 216, 218, 221, 222, 225, 226, 229, 230]
def xm_i147 : xe_I := (⟨"NinthDayHooded", "please", "()I"⟩, prog_1_method_51_code, 9, (Option.some Jvm.ClassFile.FieldType.int), 11, 1, 0, 0, 0, xm_c147, xm_p147)
/-- NinthDayHooded.colours()I -/
def xm_c148 : List Instr := [.aload 0, .getfield 713, .aload 0, .getfield 706, .getfield 132, .invokevirtual 92, .ifCond .ne 9, .sipush (-2), .ireturn, .aload 0, .getfield 713, .aload 0, .getfield 706, .getfield 132, .invokevirtual 94, .istore 1, .aload 0, .getfield 705, .invokevirtual 31, .sipush 0, .istore 2, .iload 2, .aload 0, .getfield 706, .getfield 132, .if_icmp .ge 36, .aload 0, .getfield 705, .aload 0, .getfield 713, .getfield 643, .iload 2, .iaload, .invokevirtual 32, .iinc 2 1, .goto 21, .iload 1, .ireturn]
def xm_p148 : List Nat := [0, 1, 4, 5, 8, 11, 14, 17, 19, 20, 21, 24, 25, 28, 31, 34, 35, 36, 39, 42, 43, 44, 45, 46, 49, 52, 55, 56, 59, 60, 63, 66, 67, 68, 71, 74, 77, 78]
def xm_i148 : xe_I := (⟨"NinthDayHooded", "colours", "()I"⟩, prog_1_method_52_code, 3, (Option.some Jvm.ClassFile.FieldType.int), 11, 1, 0, 0, 0, xm_c148, xm_p148)
/-- NinthDayHooded.friend(I)I -/
def xm_c149 : List Instr := [.aload 0, .getfield 706, .iload 1, .invokevirtual 21, .ifCond .ne 7, .sipush (-2), .ireturn, .aload 0, .invokevirtual 150, .istore 2, .sipush (-1), .istore 3, .sipush 0, .istore 4, .iload 4, .aload 0, .getfield 706, .getfield 132, .if_icmp .ge 58, .iload 4, .iload 1, .if_icmp .eq 56, .iload 1, .sipush 9, .imul, .iload 4, .iadd, .istore 5, .aload 0, .getfield 706, .getfield 128, .iload 5, .iaload, .istore 6, .aload 0, .getfield 706, .getfield 128, .iload 5, .sipush 9, .iastore, .aload 0, .invokevirtual 150, .istore 7, .aload 0, .getfield 706, .getfield 128, .iload 5, .iload 6, .iastore, .iload 7, .iload 2, .if_icmp .ge 56, .iload 7, .istore 2, .iload 4, .istore 3, .iinc 4 1, .goto 14, .aload 0, .getfield 705, .invokevirtual 31, .aload 0, .getfield 705, .iload 2, .sipush 1000, .idiv, .invokevirtual 32, .aload 0, .getfield 705, .iload 2, .sipush 1000, .irem, .invokevirtual 32, .iload 3, .ireturn]
def xm_p149 : List Nat := [0, 1, 4, 5, 8, 11, 13, 14, 15, 18, 19, 20, 21, 22, 24, 26, 27, 30, 33, 36, 38, 39, 42, 43, 45, 46, 48, 49, 51, 52, 55, 58, 60, 61, 63, 64, 67, 70, 72, 74, 75, 76, 79, 81, 82, 85, 88, 90, 92, 93, 95, 96, 99, 101, 102, 104, 105, 108, 111, 112, 115, 118, 119, 122, 123, 126, 127, 130, 131, 134, 135, 138, 139, 142, 143]
def xm_i149 : xe_I := (⟨"NinthDayHooded", "friend", "(I)I"⟩, prog_1_method_53_code, 8, (Option.some Jvm.ClassFile.FieldType.int), 11, 1, 1, 0, 0, xm_c149, xm_p149)
/-- NinthDayHooded.worthOfNine()I -/
def xm_c150 : List Instr := [.sipush 0, .istore 1, .sipush 0, .istore 2, .iload 2, .sipush 9, .if_icmp .ge 31, .aload 0, .getfield 711, .getfield 576, .aload 0, .getfield 706, .aload 0, .getfield 710, .aload 0, .getfield 707, .aload 0, .getfield 707, .getfield 325, .iload 2, .iadd, .invokevirtual 8, .iload 1, .aload 0, .getfield 711, .getfield 576, .getfield 8, .iadd, .istore 1, .iinc 2 1, .goto 4, .iload 1, .ireturn]
def xm_p150 : List Nat := [0, 1, 2, 3, 4, 5, 7, 10, 11, 14, 17, 18, 21, 22, 25, 26, 29, 30, 33, 36, 37, 38, 41, 42, 43, 46, 49, 52, 53, 54, 57, 60, 61]
def xm_i150 : xe_I := (⟨"NinthDayHooded", "worthOfNine", "()I"⟩, prog_1_method_54_code, 3, (Option.some Jvm.ClassFile.FieldType.int), 11, 1, 0, 0, 0, xm_c150, xm_p150)
/-- NinthDayHooded.swap(II)Z -/
def xm_c151 : List Instr := [.aload 0, .getfield 706, .iload 1, .iload 2, .invokevirtual 22, .ifCond .ne 8, .sipush 0, .freturn, .aload 0, .getfield 709, .aload 0, .getfield 707, .invokevirtual 17, .aload 0, .getfield 707, .iload 1, .iload 2, .invokevirtual 53, .sipush 1, .freturn]
def xm_p151 : List Nat := [0, 1, 4, 5, 6, 9, 12, 13, 14, 15, 18, 19, 22, 25, 26, 29, 30, 31, 34, 35]
def xm_i151 : xe_I := (⟨"NinthDayHooded", "swap", "(II)Z"⟩, prog_1_method_55_code, 3, (Option.some Jvm.ClassFile.FieldType.boolean), 11, 1, 2, 0, 0, xm_c151, xm_p151)
/-- NinthDayHooded.ring()I -/
def xm_c152 : List Instr := [.aload 0, .getfield 706, .aload 0, .getfield 707, .getfield 320, .invokevirtual 24, .istore 1, .iload 1, .ifCond .ne 11, .sipush (-2), .ireturn, .aload 0, .iload 1, .invokevirtual 154, .iload 1, .ireturn]
def xm_p152 : List Nat := [0, 1, 4, 5, 8, 11, 14, 15, 16, 19, 21, 22, 23, 24, 27, 28]
def xm_i152 : xe_I := (⟨"NinthDayHooded", "ring", "()I"⟩, prog_1_method_56_code, 2, (Option.some Jvm.ClassFile.FieldType.int), 11, 1, 0, 0, 0, xm_c152, xm_p152)
/-- NinthDayHooded.turn()I -/
def xm_c153 : List Instr := [.aload 0, .getfield 706, .aload 0, .getfield 707, .getfield 320, .invokevirtual 24, .istore 1, .iload 1, .ifCond .ne 11, .sipush (-2), .ireturn, .aload 0, .iload 1, .invokevirtual 154, .aload 0, .getfield 709, .aload 0, .getfield 707, .invokevirtual 17, .aload 0, .getfield 706, .aload 0, .getfield 707, .getfield 320, .iload 1, .invokevirtual 28, .iload 1, .ireturn]
def xm_p153 : List Nat := [0, 1, 4, 5, 8, 11, 14, 15, 16, 19, 21, 22, 23, 24, 27, 28, 31, 32, 35, 38, 39, 42, 43, 46, 49, 50, 53, 54]
def xm_i153 : xe_I := (⟨"NinthDayHooded", "turn", "()I"⟩, prog_1_method_57_code, 2, (Option.some Jvm.ClassFile.FieldType.int), 11, 1, 0, 0, 0, xm_c153, xm_p153)
/-- NinthDayHooded.tellRing(I)V -/
def xm_c154 : List Instr := [.aload 0, .getfield 705, .invokevirtual 31, .sipush 0, .istore 2, .iload 2, .iload 1, .if_icmp .ge 18, .aload 0, .getfield 705, .aload 0, .getfield 706, .getfield 130, .iload 2, .iaload, .invokevirtual 32, .iinc 2 1, .goto 5, .return_]
def xm_p154 : List Nat := [0, 1, 4, 7, 8, 9, 10, 11, 14, 15, 18, 19, 22, 25, 26, 27, 30, 33, 36]
def xm_i154 : xe_I := (⟨"NinthDayHooded", "tellRing", "(I)V"⟩, prog_1_method_58_code, 3, (Option.none : Option Jvm.ClassFile.FieldType), 11, 1, 1, 0, 0, xm_c154, xm_p154)
/-- NinthDayHooded.rests()I -/
def xm_c155 : List Instr := [.aload 0, .getfield 708, .aload 0, .getfield 707, .invokevirtual 50, .sipush 0, .istore 1, .aload 0, .getfield 706, .aload 0, .getfield 708, .getfield 320, .invokevirtual 24, .istore 2, .sipush 0, .istore 3, .iload 3, .sipush 81, .if_icmp .ge 38, .iload 2, .ifCond .le 38, .aload 0, .getfield 706, .aload 0, .getfield 708, .getfield 320, .iload 2, .invokevirtual 28, .iinc 1 1, .aload 0, .getfield 706, .aload 0, .getfield 708, .getfield 320, .invokevirtual 24, .istore 2, .iinc 3 1, .goto 16, .aload 0, .getfield 705, .invokevirtual 31, .sipush 0, .istore 3, .iload 3, .aload 0, .getfield 706, .getfield 132, .if_icmp .ge 58, .aload 0, .getfield 705, .aload 0, .getfield 708, .getfield 320, .iload 3, .iaload, .invokevirtual 32, .iinc 3 1, .goto 43, .iload 1, .ireturn]
def xm_p155 : List Nat := [0, 1, 4, 5, 8, 11, 12, 13, 14, 17, 18, 21, 24, 27, 28, 29, 30, 31, 33, 36, 37, 40, 41, 44, 45, 48, 51, 52, 55, 58, 59, 62, 63, 66, 69, 72, 73, 76, 79, 80, 83, 86, 87, 88, 89, 90, 93, 96, 99, 100, 103, 104, 107, 110, 111, 112, 115, 118, 121, 122]
def xm_i155 : xe_I := (⟨"NinthDayHooded", "rests", "()I"⟩, prog_1_method_59_code, 4, (Option.some Jvm.ClassFile.FieldType.int), 11, 1, 0, 0, 0, xm_c155, xm_p155)
/-- NinthDayHooded.liked()I -/
def xm_c156 : List Instr := [.sipush 0, .istore 1, .sipush 0, .istore 2, .iload 2, .aload 0, .getfield 706, .getfield 132, .if_icmp .ge 27, .iload 1, .aload 0, .getfield 706, .getfield 129, .iload 2, .sipush 9, .imul, .aload 0, .getfield 707, .getfield 320, .iload 2, .iaload, .iadd, .iaload, .iadd, .istore 1, .iinc 2 1, .goto 4, .aload 0, .getfield 705, .invokevirtual 31, .aload 0, .getfield 705, .aload 0, .getfield 706, .aload 0, .getfield 707, .getfield 320, .invokevirtual 29, .invokevirtual 32, .iload 1, .ireturn]
def xm_p156 : List Nat := [0, 1, 2, 3, 4, 5, 6, 9, 12, 15, 16, 17, 20, 23, 24, 26, 27, 28, 31, 34, 35, 36, 37, 38, 39, 40, 43, 46, 47, 50, 53, 54, 57, 58, 61, 62, 65, 68, 71, 74, 75]
def xm_i156 : xe_I := (⟨"NinthDayHooded", "liked", "()I"⟩, prog_1_method_60_code, 3, (Option.some Jvm.ClassFile.FieldType.int), 11, 1, 0, 0, 0, xm_c156, xm_p156)
/-- NinthDayHooded.theft(II)I -/
def xm_c157 : List Instr := [.aload 0, .getfield 706, .iload 1, .invokevirtual 21, .ifCond .eq 13, .iload 2, .invokestatic 175, .ifCond .eq 13, .aload 0, .getfield 714, .getfield 515, .sipush 10, .if_icmp .ne 15, .sipush (-1), .ireturn, .aload 0, .getfield 714, .iload 1, .iload 2, .invokevirtual 80, .aload 0, .getfield 714, .getfield 515, .ireturn]
def xm_p157 : List Nat := [0, 1, 4, 5, 8, 11, 12, 15, 18, 19, 22, 25, 27, 30, 31, 32, 33, 36, 37, 38, 41, 42, 45, 48]
def xm_i157 : xe_I := (⟨"NinthDayHooded", "theft", "(II)I"⟩, prog_1_method_61_code, 3, (Option.some Jvm.ClassFile.FieldType.int), 11, 1, 2, 0, 0, xm_c157, xm_p157)
/-- NinthDayHooded.pardon()I -/
def xm_c158 : List Instr := [.aload 0, .getfield 714, .getfield 515, .istore 1, .aload 0, .getfield 714, .sipush 0, .putfield 515, .iload 1, .ireturn]
def xm_p158 : List Nat := [0, 1, 4, 7, 8, 9, 12, 13, 16, 17]
def xm_i158 : xe_I := (⟨"NinthDayHooded", "pardon", "()I"⟩, prog_1_method_62_code, 2, (Option.some Jvm.ClassFile.FieldType.int), 11, 1, 0, 0, 0, xm_c158, xm_p158)
/-- NinthDayHooded.suspects(I)I -/
def xm_c159 : List Instr := [.iload 1, .ifCond .lt 7, .iload 1, .aload 0, .getfield 714, .getfield 515, .if_icmp .lt 9, .sipush (-1), .ireturn, .aload 0, .getfield 714, .iload 1, .aload 0, .getfield 706, .aload 0, .getfield 707, .invokevirtual 81, .istore 2, .aload 0, .getfield 705, .invokevirtual 31, .aload 0, .getfield 705, .iload 2, .invokevirtual 32, .iload 2, .invokestatic 0, .ireturn]
def xm_p159 : List Nat := [0, 1, 4, 5, 6, 9, 12, 15, 16, 17, 18, 21, 22, 23, 26, 27, 30, 33, 34, 35, 38, 41, 42, 45, 46, 49, 50, 53]
def xm_i159 : xe_I := (⟨"NinthDayHooded", "suspects", "(I)I"⟩, prog_1_method_63_code, 3, (Option.some Jvm.ClassFile.FieldType.int), 11, 1, 1, 0, 0, xm_c159, xm_p159)
/-- NinthDayHooded.thief()I -/
def xm_c160 : List Instr := [.aload 0, .getfield 706, .invokevirtual 23, .istore 1, .sipush 0, .istore 2, .iload 2, .aload 0, .getfield 714, .getfield 515, .if_icmp .ge 24, .iload 1, .aload 0, .getfield 714, .iload 2, .aload 0, .getfield 706, .aload 0, .getfield 707, .invokevirtual 81, .iand, .istore 1, .iinc 2 1, .goto 6, .aload 0, .getfield 714, .aload 0, .getfield 706, .aload 0, .getfield 707, .invokevirtual 82, .istore 2, .aload 0, .getfield 705, .invokevirtual 31, .aload 0, .getfield 705, .iload 2, .sipush (-1), .if_icmp .ne 42, .sipush (-1), .goto 44, .iload 2, .invokestatic 0, .invokevirtual 32, .aload 0, .getfield 705, .iload 2, .sipush (-1), .if_icmp .ne 52, .sipush 0, .goto 53, .iload 2, .invokevirtual 32, .iload 1, .ireturn]
def xm_p160 : List Nat := [0, 1, 4, 7, 8, 9, 10, 11, 12, 15, 18, 21, 22, 23, 26, 27, 28, 31, 32, 35, 38, 39, 40, 43, 46, 47, 50, 51, 54, 55, 58, 61, 62, 63, 66, 69, 70, 73, 74, 75, 78, 79, 82, 83, 86, 89, 90, 93, 94, 95, 98, 99, 102, 103, 106, 107]
def xm_i160 : xe_I := (⟨"NinthDayHooded", "thief", "()I"⟩, prog_1_method_64_code, 3, (Option.some Jvm.ClassFile.FieldType.int), 11, 1, 0, 0, 0, xm_c160, xm_p160)
/-- NinthDayHooded.witness(II)I -/
def xm_c161 : List Instr := [.iload 1, .invokestatic 174, .ifCond .eq 6, .iload 2, .invokestatic 175, .ifCond .ne 8, .sipush (-1), .ireturn, .aload 0, .getfield 707, .iload 1, .sipush 1, .aload 0, .getfield 706, .getfield 132, .invokevirtual 52, .istore 3, .aload 0, .getfield 707, .iload 2, .aload 0, .getfield 706, .getfield 132, .invokevirtual 51, .istore 4, .aload 0, .getfield 705, .invokevirtual 31, .aload 0, .getfield 705, .iload 3, .iload 4, .sipush (-1), .ixor, .iand, .invokevirtual 32, .aload 0, .getfield 705, .iload 3, .iload 4, .iand, .invokevirtual 32, .iload 3, .iload 4, .invokestatic 162, .ireturn]
def xm_p161 : List Nat := [0, 1, 4, 7, 8, 11, 14, 15, 16, 17, 20, 21, 22, 23, 26, 29, 32, 33, 34, 37, 38, 39, 42, 45, 48, 50, 51, 54, 57, 58, 61, 62, 64, 65, 66, 67, 70, 71, 74, 75, 77, 78, 81, 82, 84, 87]
def xm_i161 : xe_I := (⟨"NinthDayHooded", "witness", "(II)I"⟩, prog_1_method_65_code, 5, (Option.some Jvm.ClassFile.FieldType.int), 11, 1, 2, 0, 0, xm_c161, xm_p161)
/-- NinthDayHooded.countOf(II)I -/
def xm_c162 : List Instr := [.iload 0, .invokestatic 0, .iload 0, .iload 1, .sipush (-1), .ixor, .iand, .invokestatic 0, .iadd, .ireturn]
def xm_p162 : List Nat := [0, 1, 4, 5, 6, 7, 8, 9, 12, 13]
def xm_i162 : xe_I := (⟨"NinthDayHooded", "countOf", "(II)I"⟩, prog_1_method_66_code, 2, (Option.some Jvm.ClassFile.FieldType.int), 11, 0, 2, 0, 0, xm_c162, xm_p162)
/-- NinthDayHooded.dark(III)I -/
def xm_c163 : List Instr := [.iload 1, .invokestatic 174, .ifCond .eq 14, .iload 2, .ifCond .lt 14, .iload 2, .sipush 20, .if_icmp .gt 14, .iload 3, .sipush 1, .if_icmp .lt 14, .iload 3, .sipush 40, .if_icmp .le 16, .sipush (-1), .ireturn, .aload 0, .getfield 707, .iload 1, .sipush 1, .aload 0, .getfield 706, .getfield 132, .invokevirtual 52, .istore 4, .sipush 0, .istore 5, .iload 5, .iload 3, .if_icmp .ge 49, .iload 4, .aload 0, .getfield 707, .aload 0, .getfield 707, .getfield 325, .iload 5, .iadd, .aload 0, .getfield 706, .getfield 132, .invokevirtual 51, .invokestatic 162, .iload 2, .if_icmp .gt 47, .iload 5, .ireturn, .iinc 5 1, .goto 27, .sipush (-2), .ireturn]
def xm_p163 : List Nat := [0, 1, 4, 7, 8, 11, 12, 14, 17, 18, 19, 22, 23, 25, 28, 29, 30, 31, 34, 35, 36, 37, 40, 43, 46, 48, 49, 51, 53, 54, 57, 59, 60, 63, 64, 67, 70, 72, 73, 74, 77, 80, 83, 86, 87, 90, 92, 93, 96, 99, 101]
def xm_i163 : xe_I := (⟨"NinthDayHooded", "dark", "(III)I"⟩, prog_1_method_67_code, 6, (Option.some Jvm.ClassFile.FieldType.int), 11, 1, 3, 0, 0, xm_c163, xm_p163)
/-- NinthDayHooded.comes(I)I -/
def xm_c164 : List Instr := [.aload 0, .getfield 706, .getfield 132, .sipush 9, .if_icmp .ne 7, .sipush (-1), .ireturn, .iload 1, .invokestatic 165, .istore 2, .iload 2, .invokestatic 165, .istore 3, .iload 3, .invokestatic 165, .istore 4, .aload 0, .iload 2, .sipush 16, .iushr, .sipush 9, .irem, .iload 3, .sipush 16, .iushr, .sipush 9, .irem, .iload 4, .sipush 16, .iushr, .sipush 64, .irem, .invokevirtual 104, .aload 0, .getfield 709, .invokevirtual 19, .aload 0, .getfield 706, .getfield 132, .sipush 1, .isub, .ireturn]
def xm_p164 : List Nat := [0, 1, 4, 7, 9, 12, 13, 14, 15, 18, 19, 20, 23, 24, 25, 28, 30, 31, 32, 34, 35, 37, 38, 39, 41, 42, 44, 45, 47, 49, 50, 52, 53, 56, 57, 60, 63, 64, 67, 70, 71, 72]
def xm_i164 : xe_I := (⟨"NinthDayHooded", "comes", "(I)I"⟩, prog_1_method_68_code, 5, (Option.some Jvm.ClassFile.FieldType.int), 11, 1, 1, 0, 0, xm_c164, xm_p164)
/-- NinthDayHooded.nextDraw(I)I -/
def xm_c165 : List Instr := [.iload 0, .sipush 1103515245, .imul, .sipush 12345, .iadd, .ireturn]
def xm_p165 : List Nat := [0, 1, 4, 5, 8, 9]
def xm_i165 : xe_I := (⟨"NinthDayHooded", "nextDraw", "(I)I"⟩, prog_1_method_69_code, 1, (Option.some Jvm.ClassFile.FieldType.int), 11, 0, 1, 0, 0, xm_c165, xm_p165)
/-- NinthDayHooded.keep(I)Z -/
def xm_c166 : List Instr := [.iload 1, .ifCond .lt 5, .iload 1, .sipush 2, .if_icmp .lt 7, .sipush 0, .freturn, .aload 0, .getfield 709, .getfield 65, .iload 1, .aaload, .aload 0, .getfield 707, .invokevirtual 50, .aload 0, .getfield 709, .getfield 66, .iload 1, .aload 0, .getfield 706, .getfield 132, .iastore, .sipush 1, .freturn]
def xm_p166 : List Nat := [0, 1, 4, 5, 6, 9, 10, 11, 12, 15, 18, 19, 20, 21, 24, 27, 28, 31, 34, 35, 36, 39, 42, 43, 44]
def xm_i166 : xe_I := (⟨"NinthDayHooded", "keep", "(I)Z"⟩, prog_1_method_70_code, 2, (Option.some Jvm.ClassFile.FieldType.boolean), 11, 1, 1, 0, 0, xm_c166, xm_p166)
/-- NinthDayHooded.again(I)Z -/
def xm_c167 : List Instr := [.iload 1, .ifCond .lt 14, .iload 1, .sipush 2, .if_icmp .ge 14, .aload 0, .getfield 709, .getfield 66, .iload 1, .iaload, .aload 0, .getfield 706, .getfield 132, .if_icmp .eq 16, .sipush 0, .freturn, .aload 0, .getfield 707, .aload 0, .getfield 709, .getfield 65, .iload 1, .aaload, .invokevirtual 50, .aload 0, .getfield 709, .invokevirtual 19, .sipush 1, .freturn]
def xm_p167 : List Nat := [0, 1, 4, 5, 6, 9, 10, 13, 16, 17, 18, 19, 22, 25, 28, 29, 30, 31, 34, 35, 38, 41, 42, 43, 46, 47, 50, 53, 54]
def xm_i167 : xe_I := (⟨"NinthDayHooded", "again", "(I)Z"⟩, prog_1_method_71_code, 2, (Option.some Jvm.ClassFile.FieldType.boolean), 11, 1, 1, 0, 0, xm_c167, xm_p167)
/-- NinthDayHooded.count(I)I -/
def xm_c168 : List Instr := [.iload 1, .tableswitch 48 0 9 #[2, 6, 10, 20, 24, 28, 32, 36, 40, 44], .aload 0, .getfield 706, .getfield 132, .ireturn, .aload 0, .getfield 707, .getfield 325, .ireturn, .aload 0, .getfield 707, .aload 0, .getfield 707, .getfield 325, .aload 0, .getfield 706, .getfield 132, .invokevirtual 51, .ireturn, .aload 0, .getfield 712, .getfield 392, .ireturn, .aload 0, .getfield 713, .getfield 645, .ireturn, .aload 0, .getfield 714, .getfield 515, .ireturn, .aload 0, .getfield 707, .invokevirtual 57, .ireturn, .aload 0, .getfield 709, .getfield 68, .ireturn, .aload 0, .getfield 705, .getfield 193, .ireturn, .aload 0, .getfield 704, .getfield 449, .ireturn, .sipush (-1), .ireturn]
def xm_p168 : List Nat := [0, 1, 56, 57, 60, 63, 64, 65, 68, 71, 72, 73, 76, 77, 80, 83, 84, 87, 90, 93, 94, 95, 98, 101, 102, 103, 106, 109, 110, 111, 114, 117, 118, 119, 122, 125, 126, 127, 130, 133, 134, 135, 138, 141, 142, 143, 146, 149, 150, 151]
def xm_i168 : xe_I := (⟨"NinthDayHooded", "count", "(I)I"⟩, prog_1_method_72_code, 2, (Option.some Jvm.ClassFile.FieldType.int), 11, 1, 1, 0, 0, xm_c168, xm_p168)
/-- NinthDayHooded.row(I)I -/
def xm_c169 : List Instr := [.iload 1, .ifCond .lt 7, .iload 1, .aload 0, .getfield 705, .getfield 193, .if_icmp .lt 11, .athrow, .swap, .swap, .swap, .aload 0, .getfield 705, .getfield 192, .iload 1, .iaload, .ireturn]
def xm_p169 : List Nat := [0, 1, 4, 5, 6, 9, 12, 15, 18, 19, 22, 23, 24, 27, 30, 31, 32]
def xm_i169 : xe_I := (⟨"NinthDayHooded", "row", "(I)I"⟩, prog_1_method_73_code, 2, (Option.some Jvm.ClassFile.FieldType.int), 11, 3, 1, 1, 6, xm_c169, xm_p169)
/-- NinthDayHooded.isNinth(I)Z -/
def xm_c170 : List Instr := [.iload 0, .sipush 48, .if_icmp .lt 8, .iload 0, .sipush 56, .if_icmp .gt 8, .sipush 1, .goto 9, .sipush 0, .freturn]
def xm_p170 : List Nat := [0, 1, 3, 6, 7, 9, 12, 13, 16, 17]
def xm_i170 : xe_I := (⟨"NinthDayHooded", "isNinth", "(I)Z"⟩, prog_1_method_74_code, 1, (Option.some Jvm.ClassFile.FieldType.boolean), 11, 0, 1, 0, 0, xm_c170, xm_p170)
/-- NinthDayHooded.isLetter(I)Z -/
def xm_c171 : List Instr := [.iload 0, .sipush 97, .if_icmp .lt 8, .iload 0, .sipush 105, .if_icmp .gt 8, .sipush 1, .goto 9, .sipush 0, .freturn]
def xm_p171 : List Nat := [0, 1, 3, 6, 7, 9, 12, 13, 16, 17]
def xm_i171 : xe_I := (⟨"NinthDayHooded", "isLetter", "(I)Z"⟩, prog_1_method_75_code, 1, (Option.some Jvm.ClassFile.FieldType.boolean), 11, 0, 1, 0, 0, xm_c171, xm_p171)
/-- NinthDayHooded.isTrade(I)Z -/
def xm_c172 : List Instr := [.iload 0, .ifCond .lt 7, .iload 0, .sipush 6, .if_icmp .ge 7, .sipush 1, .goto 8, .sipush 0, .freturn]
def xm_p172 : List Nat := [0, 1, 4, 5, 7, 10, 11, 14, 15]
def xm_i172 : xe_I := (⟨"NinthDayHooded", "isTrade", "(I)Z"⟩, prog_1_method_76_code, 1, (Option.some Jvm.ClassFile.FieldType.boolean), 11, 0, 1, 0, 0, xm_c172, xm_p172)
/-- NinthDayHooded.isHood(I)Z -/
def xm_c173 : List Instr := [.iload 0, .ifCond .lt 7, .iload 0, .sipush 9, .if_icmp .ge 7, .sipush 1, .goto 8, .sipush 0, .freturn]
def xm_p173 : List Nat := [0, 1, 4, 5, 7, 10, 11, 14, 15]
def xm_i173 : xe_I := (⟨"NinthDayHooded", "isHood", "(I)Z"⟩, prog_1_method_77_code, 1, (Option.some Jvm.ClassFile.FieldType.boolean), 11, 0, 1, 0, 0, xm_c173, xm_p173)
/-- NinthDayHooded.isStreet(I)Z -/
def xm_c174 : List Instr := [.iload 0, .ifCond .lt 7, .iload 0, .sipush 9, .if_icmp .ge 7, .sipush 1, .goto 8, .sipush 0, .freturn]
def xm_p174 : List Nat := [0, 1, 4, 5, 7, 10, 11, 14, 15]
def xm_i174 : xe_I := (⟨"NinthDayHooded", "isStreet", "(I)Z"⟩, prog_1_method_78_code, 1, (Option.some Jvm.ClassFile.FieldType.boolean), 11, 0, 1, 0, 0, xm_c174, xm_p174)
/-- NinthDayHooded.isDay(I)Z -/
def xm_c175 : List Instr := [.iload 0, .ifCond .lt 7, .iload 0, .sipush 999, .if_icmp .gt 7, .sipush 1, .goto 8, .sipush 0, .freturn]
def xm_p175 : List Nat := [0, 1, 4, 5, 8, 11, 12, 15, 16]
def xm_i175 : xe_I := (⟨"NinthDayHooded", "isDay", "(I)Z"⟩, prog_1_method_79_code, 1, (Option.some Jvm.ClassFile.FieldType.boolean), 11, 0, 1, 0, 0, xm_c175, xm_p175)
/-- NinthDayHooded.between(II)I -/
def xm_c176 : List Instr := [.sipush 0, .iload 0, .iload 1, .invokestatic 5, .invokestatic 4, .ireturn]
def xm_p176 : List Nat := [0, 1, 2, 3, 6, 9]
def xm_i176 : xe_I := (⟨"NinthDayHooded", "between", "(II)I"⟩, prog_1_method_80_code, 2, (Option.some Jvm.ClassFile.FieldType.int), 11, 0, 2, 0, 0, xm_c176, xm_p176)
/-- NinthDayHooded.streetsApart(II)I -/
def xm_c177 : List Instr := [.iload 0, .iload 1, .isub, .invokestatic 2, .istore 2, .iload 2, .sipush 9, .iload 2, .isub, .invokestatic 5, .ireturn]
def xm_p177 : List Nat := [0, 1, 2, 3, 6, 7, 8, 10, 11, 12, 15]
def xm_i177 : xe_I := (⟨"NinthDayHooded", "streetsApart", "(II)I"⟩, prog_1_method_81_code, 3, (Option.some Jvm.ClassFile.FieldType.int), 11, 0, 2, 0, 0, xm_c177, xm_p177)
/-- NinthDayHoodedModel.<init>()V -/
def xm_c178 : List Instr := [.aload 0, .nop, .aload 0, .sipush 353, .newarray .int, .putfield 768, .aload 0, .sipush 81, .newarray .int, .putfield 770, .aload 0, .sipush 81, .newarray .int, .putfield 771, .aload 0, .sipush 80, .newarray .byte, .putfield 772, .aload 0, .sipush 20, .newarray .int, .putfield 774, .aload 0, .sipush 27, .newarray .int, .putfield 782, .aload 0, .sipush 40, .newarray .byte, .putfield 783, .aload 0, .sipush 9, .newarray .int, .putfield 789, .aload 0, .sipush 9, .newarray .int, .putfield 790, .aload 0, .sipush 9, .newarray .int, .putfield 791, .aload 0, .sipush 81, .newarray .int, .putfield 792, .aload 0, .sipush 4236, .newarray .int, .putfield 798, .aload 0, .sipush 353, .newarray .int, .putfield 800, .aload 0, .sipush 240, .newarray .int, .putfield 801, .aload 0, .sipush 9, .newarray .int, .putfield 803, .aload 0, .sipush 353, .newarray .int, .putfield 804, .aload 0, .sipush 12, .newarray .int, .putfield 805, .aload 0, .sipush 10, .newarray .int, .putfield 807, .aload 0, .sipush 10, .newarray .int, .putfield 808, .aload 0, .sipush 18, .newarray .int, .putfield 810, .aload 0, .sipush 4, .newarray .int, .putfield 812, .aload 0, .sipush 36, .newarray .int, .putfield 813, .aload 0, .sipush 9, .newarray .int, .putfield 815, .aload 0, .sipush 9, .newarray .int, .putfield 816, .aload 0, .sipush 4, .newarray .int, .putfield 818, .aload 0, .sipush 512, .newarray .int, .putfield 820, .aload 0, .sipush 20, .newarray .int, .putfield 821, .aload 0, .sipush 706, .newarray .int, .putfield 826, .aload 0, .sipush 2, .newarray .boolean, .putfield 827, .aload 0, .sipush 2, .newarray .int, .putfield 828, .return_]
def xm_p178 : List Nat := [0, 1, 4, 5, 8, 10, 13, 14, 16, 18, 21, 22, 24, 26, 29, 30, 32, 34, 37, 38, 40, 42, 45, 46, 48, 50, 53, 54, 56, 58, 61, 62, 64, 66, 69, 70, 72, 74, 77, 78, 80, 82, 85, 86, 88, 90, 93, 94, 97, 99, 102, 103, 106, 108, 111, 112, 115, 117, 120, 121, 123, 125, 128, 129, 132, 134, 137, 138, 140, 142, 145, 146, 148, 150, 153, 154, 156, 158, 161, 162, 164, 166, 169, 170, 171, 173, 176, 177, 179, 181, 184, 185, 187, 189, 192, 193, 195, 197, 200, 201, 202, 204, 207, 208, 211, 213, 216, 217, 219, 221, 224, 225, 228, 230, 233, 234, 235, 237, 240, 241, 242, 244, 247]
def xm_i178 : xe_I := (⟨"NinthDayHoodedModel", "<init>", "()V"⟩, prog_14_method_1_code, 1, (Option.none : Option Jvm.ClassFile.FieldType), 12, 2, 0, 30, 7335, xm_c178, xm_p178)
/-- NinthDayHoodedModel.thrown()I -/
def xm_c179 : List Instr := [.aload 0, .getfield 776, .ireturn]
def xm_p179 : List Nat := [0, 1, 4]
def xm_i179 : xe_I := (⟨"NinthDayHoodedModel", "thrown", "()I"⟩, prog_14_method_2_code, 1, (Option.some Jvm.ClassFile.FieldType.int), 12, 1, 0, 0, 0, xm_c179, xm_p179)
/-- NinthDayHoodedModel.in(III)Z -/
def xm_c180 : List Instr := [.iload 0, .iload 1, .if_icmp .lt 8, .iload 0, .iload 2, .if_icmp .gt 8, .sipush 1, .goto 9, .sipush 0, .freturn]
def xm_p180 : List Nat := [0, 1, 2, 5, 6, 7, 10, 11, 14, 15]
def xm_i180 : xe_I := (⟨"NinthDayHoodedModel", "in", "(III)Z"⟩, prog_14_method_3_code, 3, (Option.some Jvm.ClassFile.FieldType.boolean), 12, 0, 3, 0, 0, xm_c180, xm_p180)
/-- NinthDayHoodedModel.has(II)Z -/
def xm_c181 : List Instr := [.iload 0, .iload 1, .ishr, .sipush 1, .iand, .sipush 1, .if_icmp .ne 9, .sipush 1, .goto 10, .sipush 0, .freturn]
def xm_p181 : List Nat := [0, 1, 2, 3, 4, 5, 6, 9, 10, 13, 14]
def xm_i181 : xe_I := (⟨"NinthDayHoodedModel", "has", "(II)Z"⟩, prog_14_method_4_code, 2, (Option.some Jvm.ClassFile.FieldType.boolean), 12, 0, 2, 0, 0, xm_c181, xm_p181)
/-- NinthDayHoodedModel.lost()I -/
def xm_c182 : List Instr := [.aload 0, .sipush 1, .putfield 776, .sipush 0, .ireturn]
def xm_p182 : List Nat := [0, 1, 2, 5, 6]
def xm_i182 : xe_I := (⟨"NinthDayHoodedModel", "lost", "()I"⟩, prog_14_method_5_code, 1, (Option.some Jvm.ClassFile.FieldType.int), 12, 1, 0, 0, 0, xm_c182, xm_p182)
/-- NinthDayHoodedModel.tell(I)V -/
def xm_c183 : List Instr := [.aload 0, .getfield 774, .aload 0, .getfield 775, .iload 1, .iastore, .aload 0, .dup, .getfield 775, .sipush 1, .iadd, .putfield 775, .return_]
def xm_p183 : List Nat := [0, 1, 4, 5, 8, 9, 10, 11, 12, 15, 16, 17, 20]
def xm_i183 : xe_I := (⟨"NinthDayHoodedModel", "tell", "(I)V"⟩, prog_14_method_6_code, 2, (Option.none : Option Jvm.ClassFile.FieldType), 12, 1, 1, 0, 0, xm_c183, xm_p183)
/-- NinthDayHoodedModel.isOne(I)Z -/
def xm_c184 : List Instr := [.iload 1, .sipush 0, .aload 0, .getfield 769, .sipush 1, .isub, .invokestatic 180, .freturn]
def xm_p184 : List Nat := [0, 1, 2, 3, 6, 7, 8, 11]
def xm_i184 : xe_I := (⟨"NinthDayHoodedModel", "isOne", "(I)Z"⟩, prog_14_method_7_code, 2, (Option.some Jvm.ClassFile.FieldType.boolean), 12, 1, 1, 0, 0, xm_c184, xm_p184)
/-- NinthDayHoodedModel.areTwo(II)Z -/
def xm_c185 : List Instr := [.aload 0, .iload 1, .invokevirtual 184, .ifCond .eq 13, .aload 0, .iload 2, .invokevirtual 184, .ifCond .eq 13, .iload 1, .iload 2, .if_icmp .eq 13, .sipush 1, .goto 14, .sipush 0, .freturn]
def xm_p185 : List Nat := [0, 1, 2, 5, 8, 9, 10, 13, 16, 17, 18, 21, 22, 25, 26]
def xm_i185 : xe_I := (⟨"NinthDayHoodedModel", "areTwo", "(II)Z"⟩, prog_14_method_8_code, 3, (Option.some Jvm.ClassFile.FieldType.boolean), 12, 1, 2, 0, 0, xm_c185, xm_p185)
/-- NinthDayHoodedModel.isHood(I)Z -/
def xm_c186 : List Instr := [.iload 0, .sipush 0, .sipush 8, .invokestatic 180, .freturn]
def xm_p186 : List Nat := [0, 1, 2, 4, 7]
def xm_i186 : xe_I := (⟨"NinthDayHoodedModel", "isHood", "(I)Z"⟩, prog_14_method_9_code, 1, (Option.some Jvm.ClassFile.FieldType.boolean), 12, 0, 1, 0, 0, xm_c186, xm_p186)
/-- NinthDayHoodedModel.sign(I)I -/
def xm_c187 : List Instr := [.aload 0, .sipush 0, .putfield 776, .aload 0, .getfield 773, .sipush 4, .iadd, .sipush 80, .if_icmp .le 11, .sipush (-1), .ireturn, .sipush 3, .istore 2, .iload 2, .ifCond .lt 33, .aload 0, .getfield 772, .aload 0, .dup, .getfield 773, .dup_x1, .sipush 1, .iadd, .putfield 773, .iload 1, .sipush 8, .iload 2, .imul, .ishr, .i2b, .bastore, .iinc 2 (-1), .goto 13, .aload 0, .getfield 773, .ireturn]
def xm_p187 : List Nat := [0, 1, 2, 5, 6, 9, 10, 11, 13, 16, 17, 18, 19, 20, 21, 24, 25, 28, 29, 30, 33, 34, 35, 36, 39, 40, 42, 43, 44, 45, 46, 47, 50, 53, 54, 57]
def xm_i187 : xe_I := (⟨"NinthDayHoodedModel", "sign", "(I)I"⟩, prog_14_method_10_code, 3, (Option.some Jvm.ClassFile.FieldType.int), 12, 1, 1, 0, 0, xm_c187, xm_p187)
/-- NinthDayHoodedModel.end(I)Z -/
def xm_c188 : List Instr := [.aload 0, .sipush 0, .putfield 776, .iload 1, .sipush 0, .aload 0, .getfield 773, .invokestatic 180, .ifCond .ne 11, .sipush 0, .freturn, .aload 0, .iload 1, .putfield 773, .sipush 1, .freturn]
def xm_p188 : List Nat := [0, 1, 2, 5, 6, 7, 8, 11, 14, 17, 18, 19, 20, 21, 24, 25]
def xm_i188 : xe_I := (⟨"NinthDayHoodedModel", "end", "(I)Z"⟩, prog_14_method_11_code, 2, (Option.some Jvm.ClassFile.FieldType.boolean), 12, 1, 1, 0, 0, xm_c188, xm_p188)
/-- NinthDayHoodedModel.begin([BII)V -/
def xm_c189 : List Instr := [.aload 0, .aload 1, .putfield 777, .aload 0, .iload 2, .putfield 778, .aload 0, .iload 3, .putfield 779, .aload 0, .sipush 0, .putfield 780, .aload 0, .sipush (-1), .putfield 781, .return_]
def xm_p189 : List Nat := [0, 1, 2, 5, 6, 7, 10, 11, 12, 15, 16, 17, 20, 21, 22, 25]
def xm_i189 : xe_I := (⟨"NinthDayHoodedModel", "begin", "([BII)V"⟩, prog_14_method_12_code, 4, (Option.none : Option Jvm.ClassFile.FieldType), 12, 1, 3, 0, 0, xm_c189, xm_p189)
/-- NinthDayHoodedModel.here()I -/
def xm_c190 : List Instr := [.aload 0, .getfield 780, .aload 0, .getfield 778, .if_icmp .ge 16, .aload 0, .getfield 780, .aload 0, .getfield 779, .if_icmp .ge 16, .aload 0, .getfield 777, .aload 0, .getfield 780, .baload, .goto 17, .sipush (-1), .ireturn]
def xm_p190 : List Nat := [0, 1, 4, 5, 8, 11, 12, 15, 16, 19, 22, 23, 26, 27, 30, 31, 34, 35]
def xm_i190 : xe_I := (⟨"NinthDayHoodedModel", "here", "()I"⟩, prog_14_method_13_code, 1, (Option.some Jvm.ClassFile.FieldType.int), 12, 1, 0, 0, 0, xm_c190, xm_p190)
/-- NinthDayHoodedModel.fine()Z -/
def xm_c191 : List Instr := [.aload 0, .getfield 781, .sipush (-1), .if_icmp .ne 6, .sipush 1, .goto 7, .sipush 0, .freturn]
def xm_p191 : List Nat := [0, 1, 4, 5, 8, 9, 12, 13]
def xm_i191 : xe_I := (⟨"NinthDayHoodedModel", "fine", "()Z"⟩, prog_14_method_14_code, 1, (Option.some Jvm.ClassFile.FieldType.boolean), 12, 1, 0, 0, 0, xm_c191, xm_p191)
/-- NinthDayHoodedModel.fault(I)V -/
def xm_c192 : List Instr := [.aload 0, .invokevirtual 191, .ifCond .eq 6, .aload 0, .iload 1, .putfield 781, .return_]
def xm_p192 : List Nat := [0, 1, 4, 7, 8, 9, 12]
def xm_i192 : xe_I := (⟨"NinthDayHoodedModel", "fault", "(I)V"⟩, prog_14_method_15_code, 2, (Option.none : Option Jvm.ClassFile.FieldType), 12, 1, 1, 0, 0, xm_c192, xm_p192)
/-- NinthDayHoodedModel.passes(C)Z -/
def xm_c193 : List Instr := [.aload 0, .invokevirtual 191, .ifCond .eq 7, .aload 0, .invokevirtual 190, .iload 1, .if_icmp .eq 9, .sipush 0, .freturn, .aload 0, .dup, .getfield 780, .sipush 1, .iadd, .putfield 780, .sipush 1, .freturn]
def xm_p193 : List Nat := [0, 1, 4, 7, 8, 11, 12, 15, 16, 17, 18, 19, 22, 23, 24, 27, 28]
def xm_i193 : xe_I := (⟨"NinthDayHoodedModel", "passes", "(C)Z"⟩, prog_14_method_16_code, 2, (Option.some Jvm.ClassFile.FieldType.boolean), 12, 1, 1, 0, 0, xm_c193, xm_p193)
/-- NinthDayHoodedModel.need(C)V -/
def xm_c194 : List Instr := [.aload 0, .iload 1, .invokevirtual 193, .ifCond .ne 8, .aload 0, .aload 0, .getfield 780, .invokevirtual 192, .return_]
def xm_p194 : List Nat := [0, 1, 2, 5, 8, 9, 10, 13, 16]
def xm_i194 : xe_I := (⟨"NinthDayHoodedModel", "need", "(C)V"⟩, prog_14_method_17_code, 2, (Option.none : Option Jvm.ClassFile.FieldType), 12, 1, 1, 0, 0, xm_c194, xm_p194)
/-- NinthDayHoodedModel.digit(I)I -/
def xm_c195 : List Instr := [.aload 0, .invokevirtual 191, .ifCond .ne 5, .sipush 0, .ireturn, .aload 0, .invokevirtual 190, .sipush 48, .sipush 48, .iload 1, .iadd, .invokestatic 180, .ifCond .ne 19, .aload 0, .aload 0, .getfield 780, .invokevirtual 192, .sipush 0, .ireturn, .aload 0, .dup, .getfield 780, .sipush 1, .iadd, .putfield 780, .aload 0, .getfield 777, .aload 0, .getfield 780, .sipush 1, .isub, .baload, .sipush 48, .isub, .ireturn]
def xm_p195 : List Nat := [0, 1, 4, 7, 8, 9, 10, 13, 15, 17, 18, 19, 22, 25, 26, 27, 30, 33, 34, 35, 36, 37, 40, 41, 42, 45, 46, 49, 50, 53, 54, 55, 56, 58, 59]
def xm_i195 : xe_I := (⟨"NinthDayHoodedModel", "digit", "(I)I"⟩, prog_14_method_18_code, 2, (Option.some Jvm.ClassFile.FieldType.int), 12, 1, 1, 0, 0, xm_c195, xm_p195)
/-- NinthDayHoodedModel.letter()I -/
def xm_c196 : List Instr := [.aload 0, .invokevirtual 191, .ifCond .ne 5, .sipush 0, .ireturn, .aload 0, .invokevirtual 190, .sipush 97, .sipush 105, .invokestatic 180, .ifCond .ne 17, .aload 0, .aload 0, .getfield 780, .invokevirtual 192, .sipush 0, .ireturn, .aload 0, .dup, .getfield 780, .sipush 1, .iadd, .putfield 780, .aload 0, .getfield 777, .aload 0, .getfield 780, .sipush 1, .isub, .baload, .sipush 97, .isub, .ireturn]
def xm_p196 : List Nat := [0, 1, 4, 7, 8, 9, 10, 13, 15, 17, 20, 23, 24, 25, 28, 31, 32, 33, 34, 35, 38, 39, 40, 43, 44, 47, 48, 51, 52, 53, 54, 56, 57]
def xm_i196 : xe_I := (⟨"NinthDayHoodedModel", "letter", "()I"⟩, prog_14_method_19_code, 1, (Option.some Jvm.ClassFile.FieldType.int), 12, 1, 0, 0, 0, xm_c196, xm_p196)
/-- NinthDayHoodedModel.town()I -/
def xm_c197 : List Instr := [.aload 0, .sipush 0, .putfield 776, .aload 0, .aload 0, .getfield 772, .aload 0, .getfield 773, .sipush 76, .invokevirtual 189, .aload 0, .sipush 0, .putfield 773, .aload 0, .getfield 778, .ifCond .ne 18, .sipush 0, .ireturn, .sipush 0, .istore 1, .sipush 1, .istore 2, .iload 2, .ifCond .eq 49, .aload 0, .invokevirtual 191, .ifCond .eq 49, .aload 0, .getfield 769, .iload 1, .iadd, .sipush 9, .if_icmp .ne 38, .aload 0, .aload 0, .getfield 780, .invokevirtual 192, .goto 43, .aload 0, .sipush 3, .iload 1, .imul, .invokevirtual 198, .iinc 1 1, .aload 0, .sipush 59, .invokevirtual 193, .istore 2, .goto 22, .aload 0, .getfield 780, .aload 0, .getfield 778, .if_icmp .ge 58, .aload 0, .aload 0, .getfield 780, .invokevirtual 192, .aload 0, .invokevirtual 191, .ifCond .ne 66, .sipush (-1), .aload 0, .getfield 781, .isub, .ireturn, .sipush 0, .istore 3, .iload 3, .iload 1, .if_icmp .ge 97, .aload 0, .aload 0, .getfield 782, .sipush 3, .iload 3, .imul, .iaload, .aload 0, .getfield 782, .sipush 3, .iload 3, .imul, .sipush 1, .iadd, .iaload, .aload 0, .getfield 782, .sipush 3, .iload 3, .imul, .sipush 2, .iadd, .iaload, .invokevirtual 199, .iinc 3 1, .goto 68, .iload 1, .ireturn]
def xm_p197 : List Nat := [0, 1, 2, 5, 6, 7, 10, 11, 14, 16, 19, 20, 21, 24, 25, 28, 31, 32, 33, 34, 35, 36, 37, 38, 41, 42, 45, 48, 49, 52, 53, 54, 56, 59, 60, 61, 64, 67, 70, 71, 72, 73, 74, 77, 80, 81, 83, 86, 87, 90, 91, 94, 95, 98, 101, 102, 103, 106, 109, 110, 113, 116, 117, 118, 121, 122, 123, 124, 125, 126, 127, 130, 131, 132, 135, 136, 137, 138, 139, 140, 143, 144, 145, 146, 147, 148, 149, 150, 153, 154, 155, 156, 157, 158, 159, 162, 165, 168, 169]
def xm_i197 : xe_I := (⟨"NinthDayHoodedModel", "town", "()I"⟩, prog_14_method_20_code, 4, (Option.some Jvm.ClassFile.FieldType.int), 12, 1, 0, 0, 0, xm_c197, xm_p197)
/-- NinthDayHoodedModel.readOne(I)V -/
def xm_c198 : List Instr := [.aload 0, .getfield 782, .iload 1, .aload 0, .sipush 8, .invokevirtual 195, .iastore, .aload 0, .getfield 782, .iload 1, .sipush 1, .iadd, .aload 0, .sipush 8, .invokevirtual 195, .iastore, .aload 0, .getfield 782, .iload 1, .sipush 2, .iadd, .sipush 0, .iastore, .sipush (-1), .istore 2, .aload 0, .invokevirtual 191, .ifCond .eq 68, .aload 0, .invokevirtual 190, .sipush 112, .sipush 117, .invokestatic 180, .ifCond .eq 68, .aload 0, .invokevirtual 190, .sipush 112, .isub, .istore 3, .iload 3, .iload 2, .if_icmp .gt 47, .aload 0, .aload 0, .getfield 780, .invokevirtual 192, .goto 67, .aload 0, .getfield 782, .iload 1, .sipush 2, .iadd, .dup2, .iaload, .sipush 1, .iload 3, .ishl, .ior, .iastore, .iload 3, .istore 2, .aload 0, .dup, .getfield 780, .sipush 1, .iadd, .putfield 780, .goto 25, .return_]
def xm_p198 : List Nat := [0, 1, 4, 5, 6, 8, 11, 12, 13, 16, 17, 18, 19, 20, 22, 25, 26, 27, 30, 31, 32, 33, 34, 35, 36, 37, 38, 41, 44, 45, 48, 50, 52, 55, 58, 59, 62, 64, 65, 66, 67, 68, 71, 72, 73, 76, 79, 82, 83, 86, 87, 88, 89, 90, 91, 92, 93, 94, 95, 96, 97, 98, 99, 100, 103, 104, 105, 108, 111]
def xm_i198 : xe_I := (⟨"NinthDayHoodedModel", "readOne", "(I)V"⟩, prog_14_method_21_code, 4, (Option.none : Option Jvm.ClassFile.FieldType), 12, 1, 1, 0, 0, xm_c198, xm_p198)
/-- NinthDayHoodedModel.come(III)V -/
def xm_c199 : List Instr := [.aload 0, .getfield 769, .istore 4, .aload 0, .getfield 768, .iload 4, .iload 1, .iastore, .aload 0, .getfield 768, .sipush 9, .iload 4, .iadd, .iload 2, .iastore, .aload 0, .getfield 768, .sipush 18, .iload 4, .iadd, .iload 3, .iastore, .sipush 0, .istore 5, .iload 5, .sipush 6, .if_icmp .ge 40, .aload 0, .getfield 768, .sipush 27, .sipush 6, .iload 4, .imul, .iadd, .iload 5, .iadd, .sipush 0, .iastore, .iinc 5 1, .goto 24, .sipush 0, .istore 5, .iload 5, .sipush 30, .if_icmp .ge 58, .aload 0, .getfield 768, .sipush 83, .sipush 9, .iload 5, .imul, .iadd, .iload 4, .iadd, .sipush 11, .iastore, .iinc 5 1, .goto 42, .sipush 0, .istore 5, .iload 5, .sipush 9, .if_icmp .ge 83, .aload 0, .getfield 770, .sipush 9, .iload 4, .imul, .iload 5, .iadd, .sipush 1, .iastore, .aload 0, .getfield 770, .sipush 9, .iload 5, .imul, .iload 4, .iadd, .sipush 1, .iastore, .iinc 5 1, .goto 60, .sipush 0, .istore 5, .iload 5, .sipush 9, .if_icmp .ge 99, .aload 0, .getfield 771, .sipush 9, .iload 4, .imul, .iload 5, .iadd, .sipush 0, .iastore, .iinc 5 1, .goto 85, .aload 0, .dup, .getfield 769, .sipush 1, .iadd, .putfield 769, .aload 0, .dup, .getfield 825, .sipush 1, .iadd, .putfield 825, .aload 0, .sipush 0, .putfield 799, .return_]
def xm_p199 : List Nat := [0, 1, 4, 6, 7, 10, 12, 13, 14, 15, 18, 20, 22, 23, 24, 25, 26, 29, 31, 33, 34, 35, 36, 37, 39, 41, 43, 46, 47, 50, 52, 54, 56, 57, 58, 60, 61, 62, 63, 66, 69, 70, 72, 74, 76, 79, 80, 83, 85, 87, 89, 90, 91, 93, 94, 96, 97, 100, 103, 104, 106, 108, 110, 113, 114, 117, 119, 121, 122, 124, 125, 126, 127, 128, 131, 133, 135, 136, 138, 139, 140, 141, 144, 147, 148, 150, 152, 154, 157, 158, 161, 163, 165, 166, 168, 169, 170, 171, 174, 177, 178, 179, 182, 183, 184, 187, 188, 189, 192, 193, 194, 197, 198, 199, 202]
def xm_i199 : xe_I := (⟨"NinthDayHoodedModel", "come", "(III)V"⟩, prog_14_method_22_code, 6, (Option.none : Option Jvm.ClassFile.FieldType), 12, 1, 3, 0, 0, xm_c199, xm_p199)
/-- NinthDayHoodedModel.areDigits(I)Z -/
def xm_c200 : List Instr := [.aload 0, .getfield 773, .istore 2, .aload 0, .sipush 0, .putfield 773, .aload 0, .sipush (-1), .putfield 781, .sipush 0, .istore 3, .iload 3, .iload 2, .if_icmp .ge 33, .aload 0, .invokevirtual 191, .ifCond .eq 33, .iload 3, .iload 1, .if_icmp .eq 28, .aload 0, .getfield 772, .iload 3, .baload, .sipush 48, .sipush 57, .invokestatic 180, .ifCond .ne 31, .aload 0, .iload 3, .invokevirtual 192, .iinc 3 1, .goto 11, .iload 2, .iload 1, .if_icmp .ge 39, .aload 0, .iload 2, .invokevirtual 192, .aload 0, .invokevirtual 191, .freturn]
def xm_p200 : List Nat := [0, 1, 4, 5, 6, 7, 10, 11, 12, 15, 16, 17, 18, 19, 22, 23, 26, 29, 30, 31, 34, 35, 38, 39, 40, 42, 44, 47, 50, 51, 52, 55, 58, 61, 62, 63, 66, 67, 68, 71, 72, 75]
def xm_i200 : xe_I := (⟨"NinthDayHoodedModel", "areDigits", "(I)Z"⟩, prog_14_method_23_code, 4, (Option.some Jvm.ClassFile.FieldType.boolean), 12, 1, 1, 0, 0, xm_c200, xm_p200)
/-- NinthDayHoodedModel.trust(I)I -/
def xm_c201 : List Instr := [.aload 0, .sipush 0, .putfield 776, .aload 0, .iload 1, .invokevirtual 184, .ifCond .ne 12, .aload 0, .sipush 0, .putfield 773, .sipush (-100), .ireturn, .aload 0, .aload 0, .getfield 769, .invokevirtual 200, .ifCond .ne 22, .sipush (-1), .aload 0, .getfield 781, .isub, .ireturn, .sipush 0, .istore 2, .iload 2, .aload 0, .getfield 769, .if_icmp .ge 44, .aload 0, .getfield 770, .sipush 9, .iload 1, .imul, .iload 2, .iadd, .aload 0, .getfield 772, .iload 2, .baload, .sipush 48, .isub, .iastore, .iinc 2 1, .goto 24, .aload 0, .getfield 769, .ireturn]
def xm_p201 : List Nat := [0, 1, 2, 5, 6, 7, 10, 13, 14, 15, 18, 20, 21, 22, 23, 26, 29, 32, 33, 34, 37, 38, 39, 40, 41, 42, 43, 46, 49, 50, 53, 55, 56, 57, 58, 59, 60, 63, 64, 65, 67, 68, 69, 72, 75, 76, 79]
def xm_i201 : xe_I := (⟨"NinthDayHoodedModel", "trust", "(I)I"⟩, prog_14_method_24_code, 3, (Option.some Jvm.ClassFile.FieldType.int), 12, 1, 1, 0, 0, xm_c201, xm_p201)
/-- NinthDayHoodedModel.likes(I)I -/
def xm_c202 : List Instr := [.aload 0, .sipush 0, .putfield 776, .aload 0, .iload 1, .invokevirtual 184, .ifCond .ne 12, .aload 0, .sipush 0, .putfield 773, .sipush (-100), .ireturn, .aload 0, .sipush 9, .invokevirtual 200, .ifCond .ne 21, .sipush (-1), .aload 0, .getfield 781, .isub, .ireturn, .sipush 0, .istore 2, .iload 2, .sipush 9, .if_icmp .ge 42, .aload 0, .getfield 771, .sipush 9, .iload 1, .imul, .iload 2, .iadd, .aload 0, .getfield 772, .iload 2, .baload, .sipush 48, .isub, .iastore, .iinc 2 1, .goto 23, .sipush 9, .ireturn]
def xm_p202 : List Nat := [0, 1, 2, 5, 6, 7, 10, 13, 14, 15, 18, 20, 21, 22, 24, 27, 30, 31, 32, 35, 36, 37, 38, 39, 40, 42, 45, 46, 49, 51, 52, 53, 54, 55, 56, 59, 60, 61, 63, 64, 65, 68, 71, 73]
def xm_i202 : xe_I := (⟨"NinthDayHoodedModel", "likes", "(I)I"⟩, prog_14_method_25_code, 3, (Option.some Jvm.ClassFile.FieldType.int), 12, 1, 1, 0, 0, xm_c202, xm_p202)
/-- NinthDayHoodedModel.held(I)I -/
def xm_c203 : List Instr := [.aload 0, .iload 1, .invokevirtual 204, .istore 2, .aload 0, .sipush 60, .invokevirtual 193, .ifCond .eq 17, .iload 2, .aload 0, .iload 1, .invokevirtual 204, .if_icmp .ge 15, .sipush 1, .goto 16, .sipush 0, .ireturn, .aload 0, .sipush 62, .invokevirtual 193, .ifCond .eq 30, .iload 2, .aload 0, .iload 1, .invokevirtual 204, .if_icmp .le 28, .sipush 1, .goto 29, .sipush 0, .ireturn, .aload 0, .sipush 61, .invokevirtual 193, .ifCond .eq 43, .iload 2, .aload 0, .iload 1, .invokevirtual 204, .if_icmp .ne 41, .sipush 1, .goto 42, .sipush 0, .ireturn, .iload 2, .ireturn]
def xm_p203 : List Nat := [0, 1, 2, 5, 6, 7, 9, 12, 15, 16, 17, 18, 21, 24, 25, 28, 29, 30, 31, 33, 36, 39, 40, 41, 42, 45, 48, 49, 52, 53, 54, 55, 57, 60, 63, 64, 65, 66, 69, 72, 73, 76, 77, 78, 79]
def xm_i203 : xe_I := (⟨"NinthDayHoodedModel", "held", "(I)I"⟩, prog_14_method_26_code, 3, (Option.some Jvm.ClassFile.FieldType.int), 12, 1, 1, 0, 0, xm_c203, xm_p203)
/-- NinthDayHoodedModel.sum(I)I -/
def xm_c204 : List Instr := [.aload 0, .iload 1, .invokevirtual 205, .istore 2, .aload 0, .invokevirtual 191, .ifCond .eq 44, .aload 0, .invokevirtual 190, .sipush 43, .if_icmp .eq 15, .aload 0, .invokevirtual 190, .sipush 45, .if_icmp .ne 44, .aload 0, .invokevirtual 190, .sipush 43, .if_icmp .ne 21, .sipush 1, .goto 22, .sipush 0, .istore 3, .aload 0, .dup, .getfield 780, .sipush 1, .iadd, .putfield 780, .aload 0, .iload 1, .invokevirtual 205, .istore 4, .iload 3, .ifCond .eq 39, .iload 2, .iload 4, .iadd, .goto 42, .iload 2, .iload 4, .isub, .istore 2, .goto 4, .iload 2, .ireturn]
def xm_p204 : List Nat := [0, 1, 2, 5, 6, 7, 10, 13, 14, 17, 19, 22, 23, 26, 28, 31, 32, 35, 37, 40, 41, 44, 45, 46, 47, 48, 51, 52, 53, 56, 57, 58, 61, 63, 64, 67, 68, 70, 71, 74, 75, 77, 78, 79, 82, 83]
def xm_i204 : xe_I := (⟨"NinthDayHoodedModel", "sum", "(I)I"⟩, prog_14_method_27_code, 5, (Option.some Jvm.ClassFile.FieldType.int), 12, 1, 1, 0, 0, xm_c204, xm_p204)
/-- NinthDayHoodedModel.product(I)I -/
def xm_c205 : List Instr := [.aload 0, .iload 1, .invokevirtual 206, .istore 2, .aload 0, .invokevirtual 191, .ifCond .eq 48, .aload 0, .invokevirtual 190, .sipush 42, .if_icmp .eq 15, .aload 0, .invokevirtual 190, .sipush 47, .if_icmp .ne 48, .aload 0, .invokevirtual 190, .sipush 42, .if_icmp .ne 21, .sipush 1, .goto 22, .sipush 0, .istore 3, .aload 0, .dup, .getfield 780, .sipush 1, .iadd, .putfield 780, .aload 0, .iload 1, .invokevirtual 206, .istore 4, .iload 3, .ifCond .eq 39, .iload 2, .iload 4, .imul, .goto 46, .iload 4, .ifCond .ne 43, .sipush 0, .goto 46, .iload 2, .iload 4, .idiv, .istore 2, .goto 4, .iload 2, .ireturn]
def xm_p205 : List Nat := [0, 1, 2, 5, 6, 7, 10, 13, 14, 17, 19, 22, 23, 26, 28, 31, 32, 35, 37, 40, 41, 44, 45, 46, 47, 48, 51, 52, 53, 56, 57, 58, 61, 63, 64, 67, 68, 70, 71, 74, 76, 79, 80, 83, 84, 86, 87, 88, 91, 92]
def xm_i205 : xe_I := (⟨"NinthDayHoodedModel", "product", "(I)I"⟩, prog_14_method_28_code, 5, (Option.some Jvm.ClassFile.FieldType.int), 12, 1, 1, 0, 0, xm_c205, xm_p205)
/-- NinthDayHoodedModel.thing(I)I -/
def xm_c206 : List Instr := [.aload 0, .sipush 45, .invokevirtual 193, .ifCond .eq 9, .aload 0, .iload 1, .invokevirtual 206, .ineg, .ireturn, .aload 0, .invokevirtual 191, .ifCond .ne 14, .sipush 0, .ireturn, .aload 0, .invokevirtual 190, .istore 2, .iload 2, .sipush 40, .if_icmp .ne 40, .iload 1, .sipush 4, .if_icmp .ge 40, .aload 0, .dup, .getfield 780, .sipush 1, .iadd, .putfield 780, .aload 0, .iload 1, .sipush 1, .iadd, .invokevirtual 203, .istore 3, .aload 0, .sipush 41, .invokevirtual 194, .iload 3, .ireturn, .iload 2, .sipush 48, .sipush 57, .invokestatic 180, .ifCond .eq 77, .sipush 0, .istore 3, .sipush 0, .istore 4, .iload 4, .sipush 3, .if_icmp .ge 75, .aload 0, .invokevirtual 190, .sipush 48, .sipush 57, .invokestatic 180, .ifCond .eq 75, .sipush 10, .iload 3, .imul, .aload 0, .invokevirtual 190, .iadd, .sipush 48, .isub, .istore 3, .aload 0, .dup, .getfield 780, .sipush 1, .iadd, .putfield 780, .iinc 4 1, .goto 49, .iload 3, .ireturn, .iload 2, .sipush 116, .if_icmp .eq 104, .iload 2, .sipush 117, .if_icmp .eq 104, .iload 2, .sipush 114, .if_icmp .eq 104, .iload 2, .sipush 107, .if_icmp .eq 104, .iload 2, .sipush 100, .if_icmp .eq 104, .iload 2, .sipush 105, .if_icmp .eq 104, .iload 2, .sipush 106, .if_icmp .eq 104, .aload 0, .aload 0, .getfield 780, .invokevirtual 192, .sipush 0, .ireturn, .aload 0, .dup, .getfield 780, .sipush 1, .iadd, .putfield 780, .aload 0, .getfield 785, .ifnonnull 115, .sipush 0, .goto 120, .aload 0, .iload 2, .aload 0, .getfield 785, .invokevirtual 207, .ireturn]
def xm_p206 : List Nat := [0, 1, 3, 6, 9, 10, 11, 14, 15, 16, 17, 20, 23, 24, 25, 26, 29, 30, 31, 33, 36, 37, 38, 41, 42, 43, 46, 47, 48, 51, 52, 53, 54, 55, 58, 59, 60, 62, 65, 66, 67, 68, 70, 72, 75, 78, 79, 80, 81, 83, 85, 86, 89, 90, 93, 95, 97, 100, 103, 105, 106, 107, 108, 111, 112, 114, 115, 116, 117, 118, 121, 122, 123, 126, 129, 132, 133, 134, 135, 137, 140, 141, 143, 146, 147, 149, 152, 153, 155, 158, 159, 161, 164, 165, 167, 170, 171, 173, 176, 177, 178, 181, 184, 185, 186, 187, 188, 191, 192, 193, 196, 197, 200, 203, 204, 207, 208, 209, 210, 213, 216]
def xm_i206 : xe_I := (⟨"NinthDayHoodedModel", "thing", "(I)I"⟩, prog_14_method_29_code, 5, (Option.some Jvm.ClassFile.FieldType.int), 12, 1, 1, 0, 0, xm_c206, xm_p206)
/-- NinthDayHoodedModel.valueOf(I[I)I -/
def xm_c207 : List Instr := [.iload 1, .tableswitch 63 100 117 #[55, 63, 63, 63, 63, 60, 63, 38, 63, 63, 63, 63, 63, 63, 24, 63, 2, 13], .aload 0, .getfield 770, .sipush 9, .aload 0, .getfield 786, .imul, .aload 0, .getfield 787, .iadd, .iaload, .ireturn, .aload 0, .getfield 770, .sipush 9, .aload 0, .getfield 787, .imul, .aload 0, .getfield 786, .iadd, .iaload, .ireturn, .aload 2, .sipush 9, .aload 0, .getfield 786, .iadd, .iaload, .aload 2, .sipush 9, .aload 0, .getfield 787, .iadd, .iaload, .invokestatic 208, .ireturn, .aload 2, .sipush 18, .aload 0, .getfield 787, .iadd, .iaload, .aload 2, .sipush 18, .aload 0, .getfield 786, .iadd, .iaload, .sipush (-1), .ixor, .iand, .invokestatic 0, .ireturn, .aload 0, .getfield 788, .sipush 9, .irem, .ireturn, .aload 0, .getfield 786, .ireturn, .aload 0, .getfield 787, .ireturn]
def xm_p207 : List Nat := [0, 1, 88, 89, 92, 94, 95, 98, 99, 100, 103, 104, 105, 106, 107, 110, 112, 113, 116, 117, 118, 121, 122, 123, 124, 125, 127, 128, 131, 132, 133, 134, 136, 137, 140, 141, 142, 145, 146, 147, 149, 150, 153, 154, 155, 156, 158, 159, 162, 163, 164, 165, 166, 167, 170, 171, 172, 175, 177, 178, 179, 180, 183, 184, 185, 188]
def xm_i207 : xe_I := (⟨"NinthDayHoodedModel", "valueOf", "(I[I)I"⟩, prog_14_method_30_code, 3, (Option.some Jvm.ClassFile.FieldType.int), 12, 1, 2, 0, 0, xm_c207, xm_p207)
/-- NinthDayHoodedModel.apart(II)I -/
def xm_c208 : List Instr := [.iload 0, .iload 1, .isub, .invokestatic 2, .istore 2, .iload 2, .sipush 9, .iload 2, .isub, .invokestatic 5, .ireturn]
def xm_p208 : List Nat := [0, 1, 2, 3, 6, 7, 8, 10, 11, 12, 15]
def xm_i208 : xe_I := (⟨"NinthDayHoodedModel", "apart", "(II)I"⟩, prog_14_method_31_code, 3, (Option.some Jvm.ClassFile.FieldType.int), 12, 0, 2, 0, 0, xm_c208, xm_p208)
/-- NinthDayHoodedModel.rule()I -/
def xm_c209 : List Instr := [.aload 0, .sipush 0, .putfield 776, .aload 0, .getfield 773, .istore 1, .aload 0, .aload 0, .getfield 772, .iload 1, .sipush 40, .invokevirtual 189, .aload 0, .sipush 0, .putfield 773, .aload 0, .aconst_null, .putfield 785, .iload 1, .ifCond .le 40, .aload 0, .sipush 0, .invokevirtual 203, .pop, .aload 0, .getfield 780, .iload 1, .if_icmp .ge 32, .aload 0, .aload 0, .getfield 780, .invokevirtual 192, .aload 0, .invokevirtual 191, .ifCond .ne 40, .sipush (-1), .aload 0, .getfield 781, .isub, .ireturn, .sipush 0, .istore 2, .iload 2, .iload 1, .if_icmp .ge 55, .aload 0, .getfield 783, .iload 2, .aload 0, .getfield 772, .iload 2, .baload, .bastore, .iinc 2 1, .goto 42, .aload 0, .iload 1, .putfield 784, .sipush 0, .ireturn]
def xm_p209 : List Nat := [0, 1, 2, 5, 6, 9, 10, 11, 12, 15, 16, 18, 21, 22, 23, 26, 27, 28, 31, 32, 35, 36, 37, 40, 41, 42, 45, 46, 49, 50, 51, 54, 57, 58, 61, 64, 65, 66, 69, 70, 71, 72, 73, 74, 75, 78, 79, 82, 83, 84, 87, 88, 89, 90, 93, 96, 97, 98, 101, 102]
def xm_i209 : xe_I := (⟨"NinthDayHoodedModel", "rule", "()I"⟩, prog_14_method_32_code, 3, (Option.some Jvm.ClassFile.FieldType.int), 12, 1, 0, 0, 0, xm_c209, xm_p209)
/-- NinthDayHoodedModel.costOf([IIII)I -/
def xm_c210 : List Instr := [.aload 0, .getfield 784, .ifCond .ne 27, .sipush 9, .aload 0, .getfield 770, .sipush 9, .iload 2, .imul, .iload 3, .iadd, .iaload, .isub, .aload 1, .sipush 9, .iload 2, .iadd, .iaload, .aload 1, .sipush 9, .iload 3, .iadd, .iaload, .invokestatic 208, .iadd, .istore 5, .goto 50, .aload 0, .aload 0, .getfield 783, .aload 0, .getfield 784, .sipush 40, .invokevirtual 189, .aload 0, .aload 1, .putfield 785, .aload 0, .iload 2, .putfield 786, .aload 0, .iload 3, .putfield 787, .aload 0, .iload 4, .putfield 788, .aload 0, .sipush 0, .invokevirtual 203, .istore 5, .sipush 0, .sipush 99, .iload 5, .invokestatic 5, .invokestatic 4, .ireturn]
def xm_p210 : List Nat := [0, 1, 4, 7, 9, 10, 13, 15, 16, 17, 18, 19, 20, 21, 22, 24, 25, 26, 27, 28, 30, 31, 32, 33, 36, 37, 39, 42, 43, 44, 47, 48, 51, 53, 56, 57, 58, 61, 62, 63, 66, 67, 68, 71, 72, 74, 77, 78, 79, 82, 84, 85, 87, 89, 92, 95]
def xm_i210 : xe_I := (⟨"NinthDayHoodedModel", "costOf", "([IIII)I"⟩, prog_14_method_33_code, 6, (Option.some Jvm.ClassFile.FieldType.int), 12, 1, 4, 0, 0, xm_c210, xm_p210)
/-- NinthDayHoodedModel.of(II)I -/
def xm_c211 : List Instr := [.aload 0, .sipush 0, .putfield 776, .aload 0, .iload 1, .invokevirtual 184, .ifCond .eq 12, .iload 2, .sipush 0, .sipush 5, .invokestatic 180, .ifCond .ne 15, .aload 0, .invokevirtual 182, .ireturn, .iload 2, .tableswitch 64 0 4 #[17, 22, 29, 36, 48], .aload 0, .getfield 768, .iload 1, .iaload, .ireturn, .aload 0, .getfield 768, .sipush 9, .iload 1, .iadd, .iaload, .ireturn, .aload 0, .getfield 768, .sipush 18, .iload 1, .iadd, .iaload, .ireturn, .aload 0, .getfield 771, .sipush 9, .iload 1, .imul, .aload 0, .getfield 768, .iload 1, .iaload, .iadd, .iaload, .ireturn, .aload 0, .getfield 768, .iload 1, .iaload, .sipush 9, .iadd, .aload 0, .getfield 768, .sipush 81, .iaload, .sipush 9, .irem, .isub, .sipush 9, .irem, .ireturn, .sipush 0, .istore 3, .sipush 0, .istore 4, .iload 4, .sipush 6, .if_icmp .ge 97, .iload 3, .aload 0, .getfield 768, .sipush 18, .iload 1, .iadd, .iaload, .iload 4, .invokestatic 181, .ifCond .eq 83, .sipush 0, .goto 93, .aload 0, .getfield 768, .sipush 27, .sipush 6, .iload 1, .imul, .iadd, .iload 4, .iadd, .iaload, .iadd, .istore 3, .iinc 4 1, .goto 68, .iload 3, .ireturn]
def xm_p211 : List Nat := [0, 1, 2, 5, 6, 7, 10, 13, 14, 15, 16, 19, 22, 23, 26, 27, 28, 64, 65, 68, 69, 70, 71, 72, 75, 77, 78, 79, 80, 81, 82, 85, 87, 88, 89, 90, 91, 92, 95, 97, 98, 99, 100, 103, 104, 105, 106, 107, 108, 109, 112, 113, 114, 116, 117, 118, 121, 123, 124, 126, 127, 128, 130, 131, 132, 133, 134, 135, 137, 139, 141, 144, 145, 146, 149, 151, 152, 153, 154, 156, 159, 162, 163, 166, 167, 170, 172, 174, 175, 176, 177, 179, 180, 181, 182, 183, 186, 189, 190]
def xm_i211 : xe_I := (⟨"NinthDayHoodedModel", "of", "(II)I"⟩, prog_14_method_34_code, 5, (Option.some Jvm.ClassFile.FieldType.int), 12, 1, 2, 0, 0, xm_c211, xm_p211)
/-- NinthDayHoodedModel.trusts(II)I -/
def xm_c212 : List Instr := [.aload 0, .sipush 0, .putfield 776, .aload 0, .iload 1, .iload 2, .invokevirtual 185, .ifCond .eq 17, .aload 0, .getfield 770, .sipush 9, .iload 1, .imul, .iload 2, .iadd, .iaload, .goto 18, .sipush (-1), .ireturn]
def xm_p212 : List Nat := [0, 1, 2, 5, 6, 7, 8, 11, 14, 15, 18, 20, 21, 22, 23, 24, 25, 28, 29]
def xm_i212 : xe_I := (⟨"NinthDayHoodedModel", "trusts", "(II)I"⟩, prog_14_method_35_code, 3, (Option.some Jvm.ClassFile.FieldType.int), 12, 1, 2, 0, 0, xm_c212, xm_p212)
/-- NinthDayHoodedModel.lessons(II)I -/
def xm_c213 : List Instr := [.aload 0, .sipush 0, .putfield 776, .aload 0, .iload 1, .invokevirtual 184, .ifCond .eq 23, .iload 2, .sipush 0, .sipush 5, .invokestatic 180, .ifCond .eq 23, .aload 0, .getfield 768, .sipush 27, .sipush 6, .iload 1, .imul, .iadd, .iload 2, .iadd, .iaload, .goto 24, .sipush (-1), .ireturn]
def xm_p213 : List Nat := [0, 1, 2, 5, 6, 7, 10, 13, 14, 15, 16, 19, 22, 23, 26, 28, 30, 31, 32, 33, 34, 35, 36, 39, 40]
def xm_i213 : xe_I := (⟨"NinthDayHoodedModel", "lessons", "(II)I"⟩, prog_14_method_36_code, 3, (Option.some Jvm.ClassFile.FieldType.int), 12, 1, 2, 0, 0, xm_c213, xm_p213)
/-- NinthDayHoodedModel.set(III)I -/
def xm_c214 : List Instr := [.aload 0, .sipush 0, .putfield 776, .aload 0, .iload 1, .invokevirtual 184, .ifCond .eq 22, .iload 2, .sipush 0, .sipush 2, .invokestatic 180, .ifCond .eq 22, .iload 3, .sipush 0, .iload 2, .sipush 2, .if_icmp .ne 19, .sipush 63, .goto 20, .sipush 8, .invokestatic 180, .ifCond .ne 24, .sipush (-1), .ireturn, .sipush 9, .iload 2, .imul, .iload 1, .iadd, .istore 4, .aload 0, .getfield 768, .iload 4, .iaload, .istore 5, .aload 0, .getfield 768, .iload 4, .iload 3, .iastore, .iload 5, .ireturn]
def xm_p214 : List Nat := [0, 1, 2, 5, 6, 7, 10, 13, 14, 15, 16, 19, 22, 23, 24, 25, 26, 29, 31, 34, 36, 39, 42, 43, 44, 46, 47, 48, 49, 50, 52, 53, 56, 58, 59, 61, 62, 65, 67, 68, 69, 71]
def xm_i214 : xe_I := (⟨"NinthDayHoodedModel", "set", "(III)I"⟩, prog_14_method_37_code, 6, (Option.some Jvm.ClassFile.FieldType.int), 12, 1, 3, 0, 0, xm_c214, xm_p214)
/-- NinthDayHoodedModel.sheet(IIII)I -/
def xm_c215 : List Instr := [.aload 0, .sipush 0, .putfield 776, .iload 1, .sipush 0, .sipush 3, .invokestatic 180, .ifCond .eq 11, .iload 2, .sipush 9, .if_icmp .le 13, .sipush (-1), .ireturn, .iload 1, .sipush 3, .if_icmp .ge 20, .iload 2, .ifCond .ge 20, .sipush (-2), .ireturn, .sipush 0, .istore 5, .iload 3, .istore 6, .sipush 0, .istore 7, .iload 7, .aload 0, .getfield 769, .if_icmp .ge 73, .iload 1, .ifCond .ne 35, .iload 6, .i2b, .goto 42, .iload 1, .sipush 1, .if_icmp .ne 41, .iload 6, .i2s, .goto 42, .iload 6, .istore 8, .aload 0, .getfield 768, .iload 7, .iload 1, .sipush 3, .if_icmp .eq 52, .iload 7, .iload 2, .if_icmp .lt 54, .sipush 0, .goto 59, .sipush 0, .sipush 8, .iload 8, .invokestatic 5, .invokestatic 4, .iastore, .iload 5, .aload 0, .getfield 768, .iload 7, .iaload, .iadd, .istore 5, .iload 6, .iload 4, .iadd, .istore 6, .iinc 7 1, .goto 26, .iload 1, .sipush 3, .if_icmp .ne 78, .sipush (-3), .goto 79, .iload 5, .ireturn]
def xm_p215 : List Nat := [0, 1, 2, 5, 6, 7, 8, 11, 14, 15, 17, 20, 21, 22, 23, 24, 27, 28, 31, 33, 34, 35, 37, 38, 40, 41, 43, 45, 46, 49, 52, 53, 56, 58, 59, 62, 63, 64, 67, 69, 70, 73, 75, 77, 78, 81, 83, 84, 85, 88, 90, 91, 94, 95, 98, 99, 101, 103, 106, 109, 110, 112, 113, 116, 118, 119, 120, 122, 124, 126, 127, 129, 132, 135, 136, 137, 140, 142, 145, 147]
def xm_i215 : xe_I := (⟨"NinthDayHoodedModel", "sheet", "(IIII)I"⟩, prog_14_method_38_code, 9, (Option.some Jvm.ClassFile.FieldType.int), 12, 1, 4, 0, 0, xm_c215, xm_p215)
/-- NinthDayHoodedModel.cost(II)I -/
def xm_c216 : List Instr := [.aload 0, .sipush 0, .putfield 776, .aload 0, .iload 1, .iload 2, .invokevirtual 185, .ifCond .eq 19, .aload 0, .aload 0, .getfield 768, .iload 1, .iload 2, .aload 0, .getfield 768, .sipush 81, .iaload, .invokevirtual 210, .goto 21, .aload 0, .invokevirtual 182, .ireturn]
def xm_p216 : List Nat := [0, 1, 2, 5, 6, 7, 8, 11, 14, 15, 16, 19, 20, 21, 22, 25, 27, 28, 31, 34, 35, 38]
def xm_i216 : xe_I := (⟨"NinthDayHoodedModel", "cost", "(II)I"⟩, prog_14_method_39_code, 3, (Option.some Jvm.ClassFile.FieldType.int), 12, 1, 2, 0, 0, xm_c216, xm_p216)
/-- NinthDayHoodedModel.hoodedOn([II)I -/
def xm_c217 : List Instr := [.sipush 0, .istore 3, .sipush 0, .istore 4, .iload 4, .aload 0, .getfield 769, .if_icmp .ge 25, .iload 3, .aload 1, .iload 4, .iaload, .iload 2, .sipush 9, .irem, .if_icmp .ne 20, .sipush 1, .iload 4, .ishl, .goto 21, .sipush 0, .ior, .istore 3, .iinc 4 1, .goto 4, .iload 3, .ireturn]
def xm_p217 : List Nat := [0, 1, 2, 3, 5, 7, 8, 11, 14, 15, 16, 18, 19, 20, 22, 23, 26, 27, 29, 30, 33, 34, 35, 36, 39, 42, 43]
def xm_i217 : xe_I := (⟨"NinthDayHoodedModel", "hoodedOn", "([II)I"⟩, prog_14_method_40_code, 5, (Option.some Jvm.ClassFile.FieldType.int), 12, 1, 2, 0, 0, xm_c217, xm_p217)
/-- NinthDayHoodedModel.goGuide([IIII)V -/
def xm_c218 : List Instr := [.iload 3, .aload 0, .getfield 794, .if_icmp .gt 12, .iload 3, .aload 0, .getfield 794, .if_icmp .ne 13, .iload 4, .aload 0, .getfield 795, .if_icmp .le 13, .return_, .iload 2, .aload 0, .getfield 769, .if_icmp .ne 49, .iload 3, .aload 0, .getfield 794, .if_icmp .ne 26, .iload 4, .aload 0, .getfield 795, .if_icmp .lt 26, .return_, .aload 0, .iload 3, .putfield 794, .aload 0, .iload 4, .putfield 795, .sipush 0, .istore 5, .iload 5, .aload 0, .getfield 769, .if_icmp .ge 48, .aload 0, .getfield 790, .iload 5, .aload 0, .getfield 789, .iload 5, .iaload, .iastore, .iinc 5 1, .goto 34, .return_, .aload 0, .getfield 793, .iload 2, .invokestatic 181, .ifCond .ne 68, .aload 0, .getfield 789, .iload 2, .sipush 10, .iastore, .aload 0, .aload 1, .iload 2, .sipush 1, .iadd, .iload 3, .iload 4, .invokevirtual 218, .return_, .sipush 0, .istore 5, .iload 5, .aload 0, .getfield 769, .if_icmp .ge 135, .aload 0, .getfield 793, .iload 5, .invokestatic 181, .ifCond .ne 133, .aload 0, .getfield 770, .sipush 9, .iload 2, .imul, .iload 5, .iadd, .iaload, .ifCond .eq 133, .aload 0, .getfield 791, .iload 5, .iaload, .sipush 2, .if_icmp .ne 95, .goto 133, .aload 0, .getfield 789, .iload 2, .iload 5, .iastore, .aload 0, .getfield 791, .iload 5, .dup2, .iaload, .sipush 1, .iadd, .iastore, .aload 0, .aload 1, .iload 2, .sipush 1, .iadd, .iload 3, .iload 4, .aload 0, .getfield 792, .sipush 9, .iload 2, .imul, .iload 5, .iadd, .iaload, .iadd, .invokevirtual 218, .aload 0, .getfield 791, .iload 5, .dup2, .iaload, .sipush 1, .isub, .iastore, .iinc 5 1, .goto 70, .aload 0, .getfield 789, .iload 2, .sipush 9, .iastore, .aload 0, .aload 1, .iload 2, .sipush 1, .iadd, .iload 3, .sipush 1, .iadd, .iload 4, .invokevirtual 218, .return_]
def xm_p218 : List Nat := [0, 1, 2, 5, 8, 9, 10, 13, 16, 18, 19, 22, 25, 26, 27, 28, 31, 34, 35, 36, 39, 42, 44, 45, 48, 51, 52, 53, 54, 57, 58, 60, 63, 64, 66, 68, 69, 72, 75, 76, 79, 81, 82, 85, 87, 88, 89, 92, 95, 96, 97, 100, 101, 104, 107, 108, 111, 112, 114, 115, 116, 117, 118, 119, 120, 121, 123, 126, 127, 128, 130, 132, 133, 136, 139, 140, 143, 145, 148, 151, 152, 155, 157, 158, 159, 161, 162, 163, 166, 167, 170, 172, 173, 174, 177, 180, 181, 184, 185, 187, 188, 189, 192, 194, 195, 196, 197, 198, 199, 200, 201, 202, 203, 204, 205, 207, 208, 211, 213, 214, 215, 217, 218, 219, 220, 223, 224, 227, 229, 230, 231, 232, 233, 234, 237, 240, 241, 244, 245, 247, 248, 249, 250, 251, 252, 253, 254, 255, 256, 258, 261]
def xm_i218 : xe_I := (⟨"NinthDayHoodedModel", "goGuide", "([IIII)V"⟩, prog_14_method_41_code, 6, (Option.none : Option Jvm.ClassFile.FieldType), 12, 1, 4, 0, 0, xm_c218, xm_p218)
/-- NinthDayHoodedModel.findGuides([II)V -/
def xm_c219 : List Instr := [.aload 0, .aload 0, .aload 1, .iload 2, .invokevirtual 217, .putfield 793, .sipush 0, .istore 3, .iload 3, .aload 0, .getfield 769, .if_icmp .ge 46, .sipush 0, .istore 4, .iload 4, .aload 0, .getfield 769, .if_icmp .ge 44, .aload 0, .getfield 793, .iload 3, .invokestatic 181, .ifCond .eq 42, .aload 0, .getfield 793, .iload 4, .invokestatic 181, .ifCond .ne 42, .aload 0, .getfield 792, .sipush 9, .iload 3, .imul, .iload 4, .iadd, .aload 0, .aload 1, .iload 3, .iload 4, .iload 2, .invokevirtual 210, .iastore, .iinc 4 1, .goto 14, .iinc 3 1, .goto 8, .aload 0, .sipush 1000000, .putfield 794, .aload 0, .sipush 1000000, .putfield 795, .aload 0, .aload 1, .sipush 0, .sipush 0, .sipush 0, .invokevirtual 218, .return_]
def xm_p219 : List Nat := [0, 1, 2, 3, 4, 7, 10, 11, 12, 13, 14, 17, 20, 21, 23, 25, 26, 29, 32, 33, 36, 37, 40, 43, 44, 47, 49, 52, 55, 56, 59, 61, 62, 63, 65, 66, 67, 68, 69, 71, 72, 75, 76, 79, 82, 85, 88, 89, 92, 95, 96, 99, 102, 103, 104, 105, 106, 107, 110]
def xm_i219 : xe_I := (⟨"NinthDayHoodedModel", "findGuides", "([II)V"⟩, prog_14_method_42_code, 5, (Option.none : Option Jvm.ClassFile.FieldType), 12, 1, 2, 0, 0, xm_c219, xm_p219)
/-- NinthDayHoodedModel.guides(I)I -/
def xm_c220 : List Instr := [.aload 0, .sipush 0, .putfield 776, .iload 1, .sipush 0, .sipush 999, .invokestatic 180, .ifCond .ne 10, .sipush (-1), .ireturn, .aload 0, .aload 0, .getfield 768, .iload 1, .invokevirtual 219, .aload 0, .sipush 0, .putfield 775, .aload 0, .aload 0, .getfield 795, .invokevirtual 183, .aload 0, .aload 0, .getfield 793, .invokevirtual 183, .sipush 0, .istore 2, .iload 2, .aload 0, .getfield 769, .if_icmp .ge 53, .aload 0, .getfield 793, .iload 2, .invokestatic 181, .ifCond .eq 51, .aload 0, .aload 0, .getfield 790, .iload 2, .iaload, .sipush 9, .if_icmp .ne 46, .sipush (-1), .goto 50, .aload 0, .getfield 790, .iload 2, .iaload, .invokevirtual 183, .iinc 2 1, .goto 28, .aload 0, .getfield 794, .ireturn]
def xm_p220 : List Nat := [0, 1, 2, 5, 6, 7, 10, 13, 16, 17, 18, 19, 20, 23, 24, 27, 28, 29, 32, 33, 34, 37, 40, 41, 42, 45, 48, 49, 50, 51, 52, 55, 58, 59, 62, 63, 66, 69, 70, 71, 74, 75, 76, 78, 81, 82, 85, 86, 89, 90, 91, 94, 97, 100, 101, 104]
def xm_i220 : xe_I := (⟨"NinthDayHoodedModel", "guides", "(I)I"⟩, prog_14_method_43_code, 3, (Option.some Jvm.ClassFile.FieldType.int), 12, 1, 1, 0, 0, xm_c220, xm_p220)
/-- NinthDayHoodedModel.lonely(I)I -/
def xm_c221 : List Instr := [.aload 0, .sipush 0, .putfield 776, .iload 1, .sipush 0, .sipush 999, .invokestatic 180, .ifCond .ne 10, .sipush (-1), .ireturn, .aload 0, .aload 0, .getfield 768, .iload 1, .invokevirtual 219, .sipush 0, .istore 2, .sipush 0, .istore 3, .sipush 0, .istore 4, .iload 4, .aload 0, .getfield 769, .if_icmp .ge 83, .aload 0, .getfield 793, .iload 4, .invokestatic 181, .ifCond .ne 31, .goto 81, .aload 0, .getfield 790, .iload 4, .iaload, .sipush 9, .if_icmp .ne 43, .iload 2, .sipush 1, .iload 4, .ishl, .ior, .istore 2, .sipush 0, .istore 5, .sipush 0, .istore 6, .iload 6, .aload 0, .getfield 769, .if_icmp .ge 73, .iload 5, .ifCond .ne 67, .aload 0, .getfield 793, .iload 6, .invokestatic 181, .ifCond .ne 69, .aload 0, .getfield 770, .sipush 9, .iload 4, .imul, .iload 6, .iadd, .iaload, .ifCond .le 69, .sipush 1, .goto 70, .sipush 0, .istore 5, .iinc 6 1, .goto 47, .iload 5, .ifCond .ne 81, .iload 3, .sipush 1, .iload 4, .ishl, .ior, .istore 3, .iinc 4 1, .goto 21, .aload 0, .sipush 0, .putfield 775, .aload 0, .iload 3, .invokevirtual 183, .iload 2, .ireturn]
def xm_p221 : List Nat := [0, 1, 2, 5, 6, 7, 10, 13, 16, 17, 18, 19, 20, 23, 24, 27, 28, 29, 30, 31, 32, 34, 36, 37, 40, 43, 44, 47, 49, 52, 55, 58, 59, 62, 64, 65, 67, 70, 71, 72, 74, 75, 76, 77, 78, 80, 81, 83, 85, 86, 89, 92, 94, 97, 98, 101, 103, 106, 109, 110, 113, 115, 117, 118, 120, 121, 122, 125, 126, 129, 130, 132, 135, 138, 140, 143, 144, 145, 147, 148, 149, 150, 153, 156, 157, 158, 161, 162, 163, 166, 167]
def xm_i221 : xe_I := (⟨"NinthDayHoodedModel", "lonely", "(I)I"⟩, prog_14_method_44_code, 7, (Option.some Jvm.ClassFile.FieldType.int), 12, 1, 1, 0, 0, xm_c221, xm_p221)
/-- NinthDayHoodedModel.hardest()I -/
def xm_c222 : List Instr := [.aload 0, .sipush 0, .putfield 776, .sipush (-1), .istore 1, .sipush 0, .istore 2, .sipush 0, .istore 3, .sipush 0, .istore 4, .iload 4, .sipush 9, .if_icmp .ge 57, .aload 0, .aload 0, .getfield 768, .aload 0, .getfield 768, .sipush 81, .iaload, .iload 4, .iadd, .invokevirtual 219, .iload 1, .sipush (-1), .if_icmp .eq 40, .aload 0, .getfield 794, .iload 2, .if_icmp .lt 55, .aload 0, .getfield 794, .iload 2, .if_icmp .ne 40, .aload 0, .getfield 795, .iload 3, .if_icmp .gt 40, .goto 55, .aload 0, .getfield 768, .sipush 81, .iaload, .iload 4, .iadd, .sipush 9, .irem, .istore 1, .aload 0, .getfield 794, .istore 2, .aload 0, .getfield 795, .istore 3, .iinc 4 1, .goto 11, .aload 0, .sipush 0, .putfield 775, .aload 0, .iload 2, .invokevirtual 183, .aload 0, .iload 3, .invokevirtual 183, .iload 1, .ireturn]
def xm_p222 : List Nat := [0, 1, 2, 5, 6, 7, 8, 9, 10, 11, 12, 14, 16, 18, 21, 22, 23, 26, 27, 30, 32, 33, 35, 36, 39, 40, 41, 44, 45, 48, 49, 52, 53, 56, 57, 60, 61, 64, 65, 68, 71, 72, 75, 77, 78, 80, 81, 83, 84, 85, 86, 89, 90, 91, 94, 95, 98, 101, 102, 103, 106, 107, 108, 111, 112, 113, 116, 117]
def xm_i222 : xe_I := (⟨"NinthDayHoodedModel", "hardest", "()I"⟩, prog_14_method_45_code, 5, (Option.some Jvm.ClassFile.FieldType.int), 12, 1, 0, 0, 0, xm_c222, xm_p222)
/-- NinthDayHoodedModel.goDay([I)V -/
def xm_c223 : List Instr := [.aload 0, .aload 1, .aload 1, .sipush 81, .iaload, .invokevirtual 219, .aload 0, .aload 0, .getfield 793, .invokestatic 0, .aload 0, .getfield 794, .isub, .putfield 796, .aload 0, .sipush 0, .putfield 797, .sipush 83, .sipush 9, .aload 1, .sipush 81, .iaload, .sipush 30, .irem, .imul, .iadd, .istore 2, .sipush 0, .istore 3, .iload 3, .aload 0, .getfield 769, .if_icmp .ge 58, .aload 1, .iload 2, .iload 3, .iadd, .aload 0, .getfield 790, .iload 3, .iaload, .iastore, .aload 0, .getfield 790, .iload 3, .iaload, .sipush 9, .if_icmp .ge 56, .aload 0, .aload 1, .iload 3, .aload 0, .getfield 790, .iload 3, .iaload, .invokevirtual 224, .iinc 3 1, .goto 29, .aload 1, .sipush 81, .dup2, .iaload, .sipush 1, .iadd, .iastore, .aload 1, .sipush 82, .sipush 30, .aload 1, .sipush 82, .iaload, .sipush 1, .iadd, .invokestatic 5, .iastore, .return_]
def xm_p223 : List Nat := [0, 1, 2, 3, 5, 6, 9, 10, 11, 14, 17, 18, 21, 22, 25, 26, 27, 30, 32, 34, 35, 37, 38, 40, 41, 42, 43, 44, 45, 46, 47, 48, 51, 54, 55, 56, 57, 58, 59, 62, 63, 64, 65, 66, 69, 70, 71, 73, 76, 77, 78, 79, 80, 83, 84, 85, 88, 91, 94, 95, 97, 98, 99, 100, 101, 102, 103, 105, 107, 108, 110, 111, 112, 113, 116, 117]
def xm_i223 : xe_I := (⟨"NinthDayHoodedModel", "goDay", "([I)V"⟩, prog_14_method_46_code, 4, (Option.none : Option Jvm.ClassFile.FieldType), 12, 1, 1, 0, 0, xm_c223, xm_p223)
/-- NinthDayHoodedModel.learn([III)V -/
def xm_c224 : List Instr := [.aload 1, .sipush 18, .iload 3, .iadd, .iaload, .aload 1, .sipush 18, .iload 2, .iadd, .iaload, .sipush (-1), .ixor, .iand, .istore 4, .iload 4, .ifCond .ne 17, .return_, .iload 4, .invokestatic 1, .istore 5, .sipush 27, .sipush 6, .iload 2, .imul, .iadd, .iload 5, .iadd, .istore 6, .aload 1, .iload 6, .dup2, .iaload, .sipush 1, .iadd, .iastore, .aload 1, .iload 6, .iaload, .sipush 3, .if_icmp .ge 41, .return_, .aload 1, .sipush 18, .iload 2, .iadd, .dup2, .iaload, .sipush 1, .iload 5, .ishl, .ior, .iastore, .aload 0, .dup, .getfield 797, .sipush 1, .iadd, .putfield 797, .return_]
def xm_p224 : List Nat := [0, 1, 3, 4, 5, 6, 7, 9, 10, 11, 12, 13, 14, 15, 17, 19, 22, 23, 25, 28, 30, 32, 34, 35, 36, 37, 39, 40, 42, 43, 45, 46, 47, 48, 49, 50, 51, 53, 54, 55, 58, 59, 60, 62, 63, 64, 65, 66, 67, 69, 70, 71, 72, 73, 74, 77, 78, 79, 82]
def xm_i224 : xe_I := (⟨"NinthDayHoodedModel", "learn", "([III)V"⟩, prog_14_method_47_code, 7, (Option.none : Option Jvm.ClassFile.FieldType), 12, 1, 3, 0, 0, xm_c224, xm_p224)
/-- NinthDayHoodedModel.lay([I[II)V -/
def xm_c225 : List Instr := [.sipush 0, .istore 3, .iload 3, .sipush 353, .if_icmp .ge 15, .aload 1, .iload 2, .iload 3, .iadd, .aload 0, .iload 3, .iaload, .iastore, .iinc 3 1, .goto 2, .return_]
def xm_p225 : List Nat := [0, 1, 2, 3, 6, 9, 10, 11, 12, 13, 14, 15, 16, 17, 20, 23]
def xm_i225 : xe_I := (⟨"NinthDayHoodedModel", "lay", "([I[II)V"⟩, prog_14_method_48_code, 4, (Option.none : Option Jvm.ClassFile.FieldType), 12, 0, 3, 0, 0, xm_c225, xm_p225)
/-- NinthDayHoodedModel.remember([I)V -/
def xm_c226 : List Instr := [.aload 0, .getfield 799, .sipush 12, .if_icmp .ne 27, .sipush 0, .istore 2, .iload 2, .sipush 3883, .if_icmp .ge 21, .aload 0, .getfield 798, .iload 2, .aload 0, .getfield 798, .iload 2, .sipush 353, .iadd, .iaload, .iastore, .iinc 2 1, .goto 6, .aload 0, .dup, .getfield 799, .sipush 1, .isub, .putfield 799, .aload 1, .aload 0, .getfield 798, .sipush 353, .aload 0, .getfield 799, .imul, .invokestatic 225, .aload 0, .dup, .getfield 799, .sipush 1, .iadd, .putfield 799, .return_]
def xm_p226 : List Nat := [0, 1, 4, 6, 9, 10, 11, 12, 15, 18, 19, 22, 23, 24, 27, 28, 31, 32, 33, 34, 37, 40, 41, 42, 45, 46, 47, 50, 51, 52, 55, 58, 59, 62, 63, 66, 67, 68, 71, 72, 73, 76]
def xm_i226 : xe_I := (⟨"NinthDayHoodedModel", "remember", "([I)V"⟩, prog_14_method_49_code, 3, (Option.none : Option Jvm.ClassFile.FieldType), 12, 1, 1, 0, 0, xm_c226, xm_p226)
/-- NinthDayHoodedModel.day()I -/
def xm_c227 : List Instr := [.aload 0, .sipush 0, .putfield 776, .aload 0, .aload 0, .getfield 768, .invokevirtual 226, .aload 0, .aload 0, .getfield 768, .invokevirtual 223, .aload 0, .sipush 0, .putfield 775, .aload 0, .aload 0, .getfield 795, .invokevirtual 183, .aload 0, .aload 0, .getfield 797, .invokevirtual 183, .aload 0, .getfield 796, .ireturn]
def xm_p227 : List Nat := [0, 1, 2, 5, 6, 7, 10, 13, 14, 15, 18, 21, 22, 23, 26, 27, 28, 31, 34, 35, 36, 39, 42, 43, 46]
def xm_i227 : xe_I := (⟨"NinthDayHoodedModel", "day", "()I"⟩, prog_14_method_50_code, 1, (Option.some Jvm.ClassFile.FieldType.int), 12, 1, 0, 0, 0, xm_c227, xm_p227)
/-- NinthDayHoodedModel.days(I)I -/
def xm_c228 : List Instr := [.aload 0, .sipush 0, .putfield 776, .iload 1, .sipush 0, .sipush 40, .invokestatic 180, .ifCond .ne 10, .sipush (-1), .ireturn, .iload 1, .ifCond .le 16, .aload 0, .aload 0, .getfield 768, .invokevirtual 226, .sipush 0, .istore 2, .sipush 0, .istore 3, .sipush 0, .istore 4, .sipush 0, .istore 5, .iload 5, .iload 1, .if_icmp .ge 48, .aload 0, .aload 0, .getfield 768, .invokevirtual 223, .iload 2, .aload 0, .getfield 796, .iadd, .istore 2, .iload 3, .aload 0, .getfield 795, .iadd, .istore 3, .iload 4, .aload 0, .getfield 797, .iadd, .istore 4, .iinc 5 1, .goto 24, .aload 0, .sipush 0, .putfield 775, .aload 0, .iload 3, .invokevirtual 183, .aload 0, .iload 4, .invokevirtual 183, .iload 2, .ireturn]
def xm_p228 : List Nat := [0, 1, 2, 5, 6, 7, 9, 12, 15, 16, 17, 18, 21, 22, 23, 26, 29, 30, 31, 32, 33, 34, 36, 37, 39, 41, 42, 45, 46, 47, 50, 53, 54, 55, 58, 59, 60, 61, 62, 65, 66, 67, 69, 70, 73, 74, 76, 79, 82, 83, 84, 87, 88, 89, 92, 93, 95, 98, 99]
def xm_i228 : xe_I := (⟨"NinthDayHoodedModel", "days", "(I)I"⟩, prog_14_method_51_code, 6, (Option.some Jvm.ClassFile.FieldType.int), 12, 1, 1, 0, 0, xm_c228, xm_p228)
/-- NinthDayHoodedModel.season()I -/
def xm_c229 : List Instr := [.aload 0, .sipush 0, .putfield 776, .aload 0, .aload 0, .getfield 772, .aload 0, .getfield 773, .sipush 60, .invokevirtual 189, .aload 0, .sipush 0, .putfield 773, .sipush 0, .istore 1, .aload 0, .getfield 778, .ifCond .le 20, .sipush 1, .goto 21, .sipush 0, .istore 2, .iload 2, .ifCond .eq 38, .aload 0, .invokevirtual 191, .ifCond .eq 38, .aload 0, .sipush 3, .iload 1, .imul, .invokevirtual 230, .iinc 1 1, .aload 0, .sipush 59, .invokevirtual 193, .istore 2, .goto 22, .aload 0, .getfield 780, .aload 0, .getfield 778, .if_icmp .ge 47, .aload 0, .aload 0, .getfield 780, .invokevirtual 192, .aload 0, .invokevirtual 191, .ifCond .ne 55, .sipush (-1), .aload 0, .getfield 781, .isub, .ireturn, .aload 0, .getfield 768, .aload 0, .getfield 800, .sipush 0, .invokestatic 225, .aload 0, .sipush 0, .putfield 802, .sipush 0, .istore 3, .iload 3, .iload 1, .if_icmp .ge 77, .aload 0, .sipush 3, .iload 3, .imul, .invokevirtual 231, .ifCond .eq 77, .iinc 3 1, .goto 66, .iload 3, .ifCond .le 83, .aload 0, .aload 0, .getfield 800, .invokevirtual 226, .aload 0, .sipush 0, .putfield 775, .aload 0, .iload 3, .iload 1, .if_icmp .ge 92, .sipush 1, .goto 93, .sipush 0, .invokevirtual 183, .aload 0, .aload 0, .getfield 802, .invokevirtual 183, .iload 3, .ireturn]
def xm_p229 : List Nat := [0, 1, 2, 5, 6, 7, 10, 11, 14, 16, 19, 20, 21, 24, 25, 26, 27, 30, 33, 34, 37, 38, 39, 40, 43, 44, 47, 50, 51, 52, 53, 54, 57, 60, 61, 63, 66, 67, 70, 71, 74, 75, 78, 81, 82, 83, 86, 89, 90, 93, 96, 97, 98, 101, 102, 103, 104, 107, 108, 111, 112, 115, 116, 117, 120, 121, 122, 123, 124, 127, 128, 129, 130, 131, 134, 137, 140, 143, 144, 147, 148, 149, 152, 155, 156, 157, 160, 161, 162, 163, 166, 167, 170, 171, 174, 175, 176, 179, 182, 183]
def xm_i229 : xe_I := (⟨"NinthDayHoodedModel", "season", "()I"⟩, prog_14_method_52_code, 4, (Option.some Jvm.ClassFile.FieldType.int), 12, 1, 0, 0, 0, xm_c229, xm_p229)
/-- NinthDayHoodedModel.readAct(I)V -/
def xm_c230 : List Instr := [.aload 0, .invokevirtual 190, .istore 2, .iload 2, .sipush 100, .if_icmp .eq 19, .iload 2, .sipush 104, .if_icmp .eq 19, .iload 2, .sipush 115, .if_icmp .eq 19, .iload 2, .sipush 109, .if_icmp .eq 19, .aload 0, .aload 0, .getfield 780, .invokevirtual 192, .aload 0, .dup, .getfield 780, .sipush 1, .iadd, .putfield 780, .aload 0, .getfield 801, .iload 1, .iload 2, .iastore, .iload 2, .sipush 100, .if_icmp .ne 51, .aload 0, .getfield 801, .iload 1, .sipush 1, .iadd, .aload 0, .invokevirtual 190, .sipush 49, .sipush 57, .invokestatic 180, .ifCond .eq 48, .aload 0, .sipush 9, .invokevirtual 195, .goto 49, .sipush 1, .iastore, .return_, .aload 0, .getfield 801, .iload 1, .sipush 1, .iadd, .aload 0, .invokevirtual 196, .iastore, .aload 0, .getfield 801, .iload 1, .sipush 2, .iadd, .iload 2, .sipush 115, .if_icmp .ne 70, .aload 0, .invokevirtual 196, .goto 73, .aload 0, .sipush 8, .invokevirtual 195, .iastore, .return_]
def xm_p230 : List Nat := [0, 1, 4, 5, 6, 8, 11, 12, 14, 17, 18, 20, 23, 24, 26, 29, 30, 31, 34, 37, 38, 39, 42, 43, 44, 47, 48, 51, 52, 53, 54, 55, 57, 60, 61, 64, 65, 66, 67, 68, 71, 73, 75, 78, 81, 82, 84, 87, 90, 91, 92, 93, 94, 97, 98, 99, 100, 101, 104, 105, 106, 109, 110, 111, 112, 113, 115, 118, 119, 122, 125, 126, 128, 131, 132]
def xm_i230 : xe_I := (⟨"NinthDayHoodedModel", "readAct", "(I)V"⟩, prog_14_method_53_code, 3, (Option.none : Option Jvm.ClassFile.FieldType), 12, 1, 1, 0, 0, xm_c230, xm_p230)
/-- NinthDayHoodedModel.act(I)Z -/
def xm_c231 : List Instr := [.aload 0, .getfield 801, .iload 1, .sipush 1, .iadd, .iaload, .istore 2, .aload 0, .getfield 801, .iload 1, .sipush 2, .iadd, .iaload, .istore 3, .aload 0, .getfield 801, .iload 1, .iaload, .lookupswitch 53 #[(100, 19), (115, 39)], .sipush 0, .istore 4, .iload 4, .iload 2, .if_icmp .ge 37, .aload 0, .aload 0, .getfield 768, .invokevirtual 223, .aload 0, .dup, .getfield 802, .aload 0, .getfield 796, .iadd, .putfield 802, .iinc 4 1, .goto 21, .sipush 1, .freturn, .aload 0, .iload 2, .iload 3, .invokevirtual 185, .ifCond .ne 46, .sipush 0, .freturn, .aload 0, .getfield 768, .iload 2, .iload 3, .invokestatic 232, .sipush 1, .freturn, .aload 0, .iload 2, .invokevirtual 184, .ifCond .ne 59, .sipush 0, .freturn, .aload 0, .getfield 768, .aload 0, .getfield 801, .iload 1, .iaload, .sipush 104, .if_icmp .ne 69, .iload 2, .goto 72, .sipush 9, .iload 2, .iadd, .iload 3, .iastore, .sipush 1, .freturn]
def xm_p231 : List Nat := [0, 1, 4, 5, 6, 7, 8, 9, 10, 13, 14, 15, 16, 17, 18, 19, 22, 23, 24, 52, 53, 55, 57, 58, 61, 62, 63, 66, 69, 70, 71, 74, 75, 78, 79, 82, 85, 88, 89, 90, 91, 92, 93, 96, 99, 100, 101, 102, 105, 106, 107, 110, 111, 112, 113, 114, 117, 120, 121, 122, 123, 126, 127, 130, 131, 132, 134, 137, 138, 141, 143, 144, 145, 146, 147, 148]
def xm_i231 : xe_I := (⟨"NinthDayHoodedModel", "act", "(I)Z"⟩, prog_14_method_54_code, 5, (Option.some Jvm.ClassFile.FieldType.boolean), 12, 1, 1, 0, 0, xm_c231, xm_p231)
/-- NinthDayHoodedModel.swapHoods([III)V -/
def xm_c232 : List Instr := [.aload 0, .iload 1, .iaload, .istore 3, .aload 0, .iload 1, .aload 0, .iload 2, .iaload, .iastore, .aload 0, .iload 2, .iload 3, .iastore, .return_]
def xm_p232 : List Nat := [0, 1, 2, 3, 4, 5, 6, 7, 8, 9, 10, 11, 12, 13, 14]
def xm_i232 : xe_I := (⟨"NinthDayHoodedModel", "swapHoods", "([III)V"⟩, prog_14_method_55_code, 4, (Option.none : Option Jvm.ClassFile.FieldType), 12, 0, 3, 0, 0, xm_c232, xm_p232)
/-- NinthDayHoodedModel.undo()I -/
def xm_c233 : List Instr := [.aload 0, .sipush 0, .putfield 776, .aload 0, .getfield 799, .ifCond .ne 8, .sipush (-1), .ireturn, .aload 0, .dup, .getfield 799, .sipush 1, .isub, .putfield 799, .sipush 0, .istore 1, .iload 1, .sipush 353, .if_icmp .ge 34, .aload 0, .getfield 768, .iload 1, .aload 0, .getfield 798, .sipush 353, .aload 0, .getfield 799, .imul, .iload 1, .iadd, .iaload, .iastore, .iinc 1 1, .goto 16, .aload 0, .getfield 799, .ireturn]
def xm_p233 : List Nat := [0, 1, 2, 5, 6, 9, 12, 13, 14, 15, 16, 19, 20, 21, 24, 25, 26, 27, 30, 33, 34, 37, 38, 39, 42, 45, 46, 49, 50, 51, 52, 53, 54, 57, 60, 61, 64]
def xm_i233 : xe_I := (⟨"NinthDayHoodedModel", "undo", "()I"⟩, prog_14_method_56_code, 2, (Option.some Jvm.ClassFile.FieldType.int), 12, 1, 0, 0, 0, xm_c233, xm_p233)
/-- NinthDayHoodedModel.lineOf(II)I -/
def xm_c234 : List Instr := [.aload 0, .getfield 768, .sipush 83, .sipush 9, .aload 0, .getfield 768, .sipush 81, .iaload, .iload 2, .isub, .sipush 30, .irem, .imul, .iadd, .iload 1, .iadd, .iaload, .ireturn]
def xm_p234 : List Nat := [0, 1, 4, 6, 8, 9, 12, 14, 15, 16, 17, 19, 20, 21, 22, 23, 24, 25]
def xm_i234 : xe_I := (⟨"NinthDayHoodedModel", "lineOf", "(II)I"⟩, prog_14_method_57_code, 3, (Option.some Jvm.ClassFile.FieldType.int), 12, 1, 2, 0, 0, xm_c234, xm_p234)
/-- NinthDayHoodedModel.led(II)I -/
def xm_c235 : List Instr := [.aload 0, .sipush 0, .putfield 776, .aload 0, .iload 1, .invokevirtual 184, .ifCond .eq 12, .iload 2, .sipush 1, .sipush 30, .invokestatic 180, .ifCond .ne 14, .sipush (-1), .ireturn, .iload 2, .aload 0, .getfield 768, .sipush 82, .iaload, .if_icmp .le 22, .sipush (-4), .ireturn, .aload 0, .iload 1, .iload 2, .invokevirtual 234, .istore 3, .iload 3, .sipush 11, .if_icmp .ne 32, .sipush (-4), .goto 43, .iload 3, .sipush 10, .if_icmp .ne 37, .sipush (-2), .goto 43, .iload 3, .sipush 9, .if_icmp .ne 42, .sipush (-3), .goto 43, .iload 3, .ireturn]
def xm_p235 : List Nat := [0, 1, 2, 5, 6, 7, 10, 13, 14, 15, 17, 20, 23, 24, 25, 26, 27, 30, 32, 33, 36, 38, 39, 40, 41, 42, 45, 46, 47, 49, 52, 54, 57, 58, 60, 63, 65, 68, 69, 71, 74, 76, 79, 80]
def xm_i235 : xe_I := (⟨"NinthDayHoodedModel", "led", "(II)I"⟩, prog_14_method_58_code, 4, (Option.some Jvm.ClassFile.FieldType.int), 12, 1, 2, 0, 0, xm_c235, xm_p235)
/-- NinthDayHoodedModel.leads(I)I -/
def xm_c236 : List Instr := [.aload 0, .sipush 0, .putfield 776, .aload 0, .iload 1, .invokevirtual 184, .ifCond .ne 9, .sipush (-1), .ireturn, .sipush 0, .istore 2, .sipush 0, .istore 3, .sipush (-1), .istore 4, .sipush 0, .istore 5, .iload 5, .aload 0, .getfield 769, .if_icmp .ge 87, .aload 0, .getfield 803, .iload 5, .sipush 0, .iastore, .sipush 1, .istore 6, .iload 6, .aload 0, .getfield 768, .sipush 82, .iaload, .if_icmp .gt 52, .aload 0, .getfield 803, .iload 5, .dup2, .iaload, .aload 0, .iload 5, .iload 6, .invokevirtual 234, .iload 1, .if_icmp .ne 47, .sipush 1, .goto 48, .sipush 0, .iadd, .iastore, .iinc 6 1, .goto 28, .aload 0, .getfield 803, .iload 5, .iaload, .ifCond .ne 58, .goto 85, .iload 2, .aload 0, .getfield 803, .iload 5, .iaload, .iadd, .istore 2, .iload 3, .sipush 1, .iload 5, .ishl, .ior, .istore 3, .iload 4, .sipush (-1), .if_icmp .eq 83, .aload 0, .getfield 803, .iload 5, .iaload, .aload 0, .getfield 803, .iload 4, .iaload, .if_icmp .le 85, .iload 5, .istore 4, .iinc 5 1, .goto 17, .aload 0, .sipush 0, .putfield 775, .aload 0, .iload 3, .invokevirtual 183, .aload 0, .iload 4, .invokevirtual 183, .iload 2, .ireturn]
def xm_p236 : List Nat := [0, 1, 2, 5, 6, 7, 10, 13, 14, 15, 16, 17, 18, 19, 20, 22, 23, 25, 27, 28, 31, 34, 35, 38, 40, 41, 42, 43, 45, 47, 48, 51, 53, 54, 57, 58, 61, 63, 64, 65, 66, 68, 70, 73, 74, 77, 78, 81, 82, 83, 84, 87, 90, 91, 94, 96, 97, 100, 103, 104, 105, 108, 110, 111, 112, 113, 114, 115, 117, 118, 119, 120, 122, 123, 126, 127, 130, 132, 133, 134, 137, 139, 140, 143, 145, 147, 150, 153, 154, 155, 158, 159, 160, 163, 164, 166, 169, 170]
def xm_i236 : xe_I := (⟨"NinthDayHoodedModel", "leads", "(I)I"⟩, prog_14_method_59_code, 7, (Option.some Jvm.ClassFile.FieldType.int), 12, 1, 1, 0, 0, xm_c236, xm_p236)
/-- NinthDayHoodedModel.ahead(I)I -/
def xm_c237 : List Instr := [.aload 0, .sipush 0, .putfield 776, .iload 1, .sipush 0, .sipush 40, .invokestatic 180, .ifCond .ne 10, .sipush (-1), .ireturn, .aload 0, .getfield 768, .aload 0, .getfield 804, .sipush 0, .invokestatic 225, .sipush 0, .istore 2, .iload 2, .sipush 9, .if_icmp .ge 28, .aload 0, .getfield 803, .iload 2, .sipush 0, .iastore, .iinc 2 1, .goto 18, .sipush 0, .istore 2, .sipush 0, .istore 3, .sipush 0, .istore 4, .sipush 0, .istore 5, .iload 5, .iload 1, .if_icmp .ge 85, .aload 0, .aload 0, .getfield 804, .invokevirtual 223, .iload 2, .aload 0, .getfield 796, .iadd, .istore 2, .iload 3, .aload 0, .getfield 795, .iadd, .istore 3, .iload 4, .aload 0, .getfield 797, .iadd, .istore 4, .sipush 0, .istore 6, .iload 6, .aload 0, .getfield 769, .if_icmp .ge 83, .aload 0, .getfield 790, .iload 6, .iaload, .sipush 9, .if_icmp .ge 81, .aload 0, .getfield 803, .aload 0, .getfield 790, .iload 6, .iaload, .dup2, .iaload, .sipush 1, .iadd, .iastore, .iinc 6 1, .goto 60, .iinc 5 1, .goto 36, .aload 0, .sipush 0, .putfield 775, .sipush 0, .istore 5, .iload 5, .aload 0, .getfield 769, .if_icmp .ge 102, .aload 0, .aload 0, .getfield 803, .iload 5, .iaload, .invokevirtual 183, .iinc 5 1, .goto 90, .aload 0, .iload 3, .invokevirtual 183, .aload 0, .iload 4, .invokevirtual 183, .iload 2, .ireturn]
def xm_p237 : List Nat := [0, 1, 2, 5, 6, 7, 9, 12, 15, 16, 17, 18, 21, 22, 25, 26, 29, 30, 31, 32, 34, 37, 38, 41, 42, 43, 44, 47, 50, 51, 52, 53, 54, 55, 57, 58, 60, 62, 63, 66, 67, 68, 71, 74, 75, 76, 79, 80, 81, 82, 83, 86, 87, 88, 90, 91, 94, 95, 97, 98, 100, 102, 103, 106, 109, 110, 113, 115, 116, 118, 121, 122, 125, 126, 129, 131, 132, 133, 134, 135, 136, 137, 140, 143, 146, 149, 150, 151, 154, 155, 157, 159, 160, 163, 166, 167, 168, 171, 173, 174, 177, 180, 183, 184, 185, 188, 189, 191, 194, 195]
def xm_i237 : xe_I := (⟨"NinthDayHoodedModel", "ahead", "(I)I"⟩, prog_14_method_60_code, 7, (Option.some Jvm.ClassFile.FieldType.int), 12, 1, 1, 0, 0, xm_c237, xm_p237)
/-- NinthDayHoodedModel.learns(II)I -/
def xm_c238 : List Instr := [.aload 0, .sipush 0, .putfield 776, .aload 0, .iload 1, .invokevirtual 184, .ifCond .eq 12, .iload 2, .sipush 0, .sipush 5, .invokestatic 180, .ifCond .ne 14, .sipush (-1), .ireturn, .aload 0, .getfield 768, .aload 0, .getfield 804, .sipush 0, .invokestatic 225, .aload 0, .getfield 804, .sipush 18, .iload 1, .iadd, .iaload, .iload 2, .invokestatic 181, .ifCond .eq 31, .sipush 0, .goto 32, .sipush (-2), .istore 3, .sipush 1, .istore 4, .iload 4, .sipush 40, .if_icmp .gt 57, .iload 3, .ifCond .ge 57, .aload 0, .aload 0, .getfield 804, .invokevirtual 223, .aload 0, .getfield 804, .sipush 18, .iload 1, .iadd, .iaload, .iload 2, .invokestatic 181, .ifCond .eq 55, .iload 4, .istore 3, .iinc 4 1, .goto 35, .aload 0, .sipush 0, .putfield 775, .aload 0, .aload 0, .getfield 804, .sipush 27, .sipush 6, .iload 1, .imul, .iadd, .iload 2, .iadd, .iaload, .invokevirtual 183, .iload 3, .ireturn]
def xm_p238 : List Nat := [0, 1, 2, 5, 6, 7, 10, 13, 14, 15, 16, 19, 22, 23, 24, 25, 28, 29, 32, 33, 36, 37, 40, 42, 43, 44, 45, 46, 49, 52, 53, 56, 58, 59, 60, 62, 64, 66, 69, 70, 73, 74, 75, 78, 81, 82, 85, 87, 88, 89, 90, 91, 94, 97, 99, 100, 103, 106, 107, 108, 111, 112, 113, 116, 118, 120, 121, 122, 123, 124, 125, 126, 129, 130]
def xm_i238 : xe_I := (⟨"NinthDayHoodedModel", "learns", "(II)I"⟩, prog_14_method_61_code, 5, (Option.some Jvm.ClassFile.FieldType.int), 12, 1, 2, 0, 0, xm_c238, xm_p238)
/-- NinthDayHoodedModel.task(II)I -/
def xm_c239 : List Instr := [.aload 0, .sipush 0, .putfield 776, .iload 1, .sipush 0, .sipush 5, .invokestatic 180, .ifCond .eq 13, .iload 2, .sipush 1, .sipush 3, .invokestatic 180, .ifCond .ne 15, .sipush (-1), .ireturn, .aload 0, .getfield 806, .sipush 6, .if_icmp .ne 21, .sipush (-2), .ireturn, .aload 0, .getfield 805, .sipush 2, .aload 0, .getfield 806, .imul, .iload 1, .iastore, .aload 0, .getfield 805, .sipush 2, .aload 0, .getfield 806, .imul, .sipush 1, .iadd, .iload 2, .iastore, .aload 0, .dup, .getfield 806, .sipush 1, .iadd, .putfield 806, .aload 0, .getfield 806, .sipush 1, .isub, .ireturn]
def xm_p239 : List Nat := [0, 1, 2, 5, 6, 7, 8, 11, 14, 15, 16, 17, 20, 23, 24, 25, 26, 29, 31, 34, 36, 37, 38, 41, 42, 43, 46, 47, 48, 49, 50, 53, 54, 55, 58, 59, 60, 61, 62, 63, 64, 65, 68, 69, 70, 73, 74, 77, 78, 79]
def xm_i239 : xe_I := (⟨"NinthDayHoodedModel", "task", "(II)I"⟩, prog_14_method_62_code, 3, (Option.some Jvm.ClassFile.FieldType.int), 12, 1, 2, 0, 0, xm_c239, xm_p239)
/-- NinthDayHoodedModel.done()I -/
def xm_c240 : List Instr := [.aload 0, .sipush 0, .putfield 776, .aload 0, .getfield 806, .ifCond .ne 8, .sipush (-1), .ireturn, .aload 0, .dup, .getfield 806, .sipush 1, .isub, .putfield 806, .aload 0, .getfield 806, .ireturn]
def xm_p240 : List Nat := [0, 1, 2, 5, 6, 9, 12, 13, 14, 15, 16, 19, 20, 21, 24, 25, 28]
def xm_i240 : xe_I := (⟨"NinthDayHoodedModel", "done", "()I"⟩, prog_14_method_63_code, 1, (Option.some Jvm.ClassFile.FieldType.int), 12, 1, 0, 0, 0, xm_c240, xm_p240)
/-- NinthDayHoodedModel.ask()V -/
def xm_c241 : List Instr := [.aload 0, .aload 0, .getfield 769, .putfield 809, .sipush 0, .istore 1, .iload 1, .aload 0, .getfield 769, .if_icmp .ge 30, .aload 0, .getfield 807, .iload 1, .aload 0, .getfield 768, .iload 1, .iaload, .iastore, .aload 0, .getfield 808, .iload 1, .aload 0, .getfield 768, .sipush 18, .iload 1, .iadd, .iaload, .iastore, .iinc 1 1, .goto 6, .return_]
def xm_p241 : List Nat := [0, 1, 2, 5, 8, 9, 10, 11, 12, 15, 18, 19, 22, 23, 24, 27, 28, 29, 30, 31, 34, 35, 36, 39, 41, 42, 43, 44, 45, 48, 51]
def xm_i241 : xe_I := (⟨"NinthDayHoodedModel", "ask", "()V"⟩, prog_14_method_64_code, 2, (Option.none : Option Jvm.ClassFile.FieldType), 12, 1, 0, 0, 0, xm_c241, xm_p241)
/-- NinthDayHoodedModel.place(I)Z -/
def xm_c242 : List Instr := [.sipush 0, .istore 2, .iload 2, .aload 0, .getfield 806, .if_icmp .ge 103, .aload 0, .getfield 808, .iload 1, .iaload, .aload 0, .getfield 805, .sipush 2, .iload 2, .imul, .iaload, .invokestatic 181, .ifCond .eq 101, .aload 0, .getfield 811, .iload 2, .invokestatic 181, .ifCond .eq 24, .goto 101, .aload 0, .dup, .getfield 811, .sipush 1, .iload 2, .ishl, .ior, .putfield 811, .sipush 3, .iload 2, .imul, .istore 3, .iload 3, .sipush 3, .iload 2, .imul, .aload 0, .getfield 805, .sipush 2, .iload 2, .imul, .sipush 1, .iadd, .iaload, .iadd, .if_icmp .ge 66, .aload 0, .getfield 810, .iload 3, .iaload, .sipush (-1), .if_icmp .eq 57, .goto 64, .aload 0, .getfield 810, .iload 3, .iload 1, .iastore, .sipush 1, .freturn, .iinc 3 1, .goto 36, .sipush 3, .iload 2, .imul, .istore 3, .iload 3, .sipush 3, .iload 2, .imul, .aload 0, .getfield 805, .sipush 2, .iload 2, .imul, .sipush 1, .iadd, .iaload, .iadd, .if_icmp .ge 101, .aload 0, .aload 0, .getfield 810, .iload 3, .iaload, .invokevirtual 242, .ifCond .ne 92, .goto 99, .aload 0, .getfield 810, .iload 3, .iload 1, .iastore, .sipush 1, .freturn, .iinc 3 1, .goto 70, .iinc 2 1, .goto 2, .sipush 0, .freturn]
def xm_p242 : List Nat := [0, 1, 2, 3, 4, 7, 10, 11, 14, 15, 16, 17, 20, 21, 22, 23, 24, 27, 30, 31, 34, 35, 38, 41, 44, 45, 46, 49, 50, 51, 52, 53, 56, 57, 58, 59, 60, 61, 62, 63, 64, 65, 68, 69, 70, 71, 72, 73, 74, 75, 78, 79, 82, 83, 84, 85, 88, 91, 92, 95, 96, 97, 98, 99, 100, 103, 106, 107, 108, 109, 110, 111, 112, 113, 114, 115, 118, 119, 120, 121, 122, 123, 124, 125, 128, 129, 130, 133, 134, 135, 138, 141, 144, 145, 148, 149, 150, 151, 152, 153, 156, 159, 162, 165, 166]
def xm_i242 : xe_I := (⟨"NinthDayHoodedModel", "place", "(I)Z"⟩, prog_14_method_65_code, 4, (Option.some Jvm.ClassFile.FieldType.boolean), 12, 1, 1, 0, 0, xm_c242, xm_p242)
/-- NinthDayHoodedModel.wanting(I)I -/
def xm_c243 : List Instr := [.sipush 0, .istore 2, .sipush 0, .istore 3, .iload 3, .aload 0, .getfield 806, .if_icmp .ge 21, .iload 2, .aload 0, .getfield 805, .sipush 2, .iload 3, .imul, .sipush 1, .iadd, .iaload, .iadd, .istore 2, .iinc 3 1, .goto 4, .sipush 0, .istore 3, .iload 3, .sipush 18, .if_icmp .ge 33, .aload 0, .getfield 810, .iload 3, .sipush (-1), .iastore, .iinc 3 1, .goto 23, .sipush 0, .istore 3, .iload 3, .aload 0, .getfield 809, .if_icmp .ge 56, .aload 0, .getfield 807, .iload 3, .iaload, .iload 1, .if_icmp .ne 46, .goto 54, .aload 0, .sipush 0, .putfield 811, .aload 0, .iload 3, .invokevirtual 242, .ifCond .eq 54, .iinc 2 (-1), .iinc 3 1, .goto 35, .iload 2, .ireturn]
def xm_p243 : List Nat := [0, 1, 2, 3, 4, 5, 6, 9, 12, 13, 14, 17, 18, 19, 20, 21, 22, 23, 24, 25, 28, 31, 32, 33, 34, 36, 39, 40, 43, 44, 45, 46, 49, 52, 53, 54, 55, 56, 59, 62, 63, 66, 67, 68, 69, 72, 75, 76, 77, 80, 81, 82, 85, 88, 91, 94, 97, 98]
def xm_i243 : xe_I := (⟨"NinthDayHoodedModel", "wanting", "(I)I"⟩, prog_14_method_66_code, 4, (Option.some Jvm.ClassFile.FieldType.int), 12, 1, 1, 0, 0, xm_c243, xm_p243)
/-- NinthDayHoodedModel.allWanting()I -/
def xm_c244 : List Instr := [.sipush 0, .istore 1, .sipush 0, .istore 2, .iload 2, .sipush 9, .if_icmp .ge 15, .iload 1, .aload 0, .iload 2, .invokevirtual 243, .iadd, .istore 1, .iinc 2 1, .goto 4, .iload 1, .ireturn]
def xm_p244 : List Nat := [0, 1, 2, 3, 4, 5, 7, 10, 11, 12, 13, 16, 17, 18, 21, 24, 25]
def xm_i244 : xe_I := (⟨"NinthDayHoodedModel", "allWanting", "()I"⟩, prog_14_method_67_code, 3, (Option.some Jvm.ClassFile.FieldType.int), 12, 1, 0, 0, 0, xm_c244, xm_p244)
/-- NinthDayHoodedModel.manned(I)I -/
def xm_c245 : List Instr := [.aload 0, .sipush 0, .putfield 776, .iload 1, .invokestatic 186, .ifCond .ne 8, .sipush (-1), .ireturn, .aload 0, .invokevirtual 241, .aload 0, .sipush 0, .putfield 775, .aload 0, .aload 0, .getfield 769, .aload 0, .aload 0, .getfield 768, .iload 1, .invokevirtual 217, .invokestatic 0, .isub, .invokevirtual 183, .aload 0, .iload 1, .invokevirtual 243, .ireturn]
def xm_p245 : List Nat := [0, 1, 2, 5, 6, 9, 12, 13, 14, 15, 18, 19, 20, 23, 24, 25, 28, 29, 30, 33, 34, 37, 40, 41, 44, 45, 46, 49]
def xm_i245 : xe_I := (⟨"NinthDayHoodedModel", "manned", "(I)I"⟩, prog_14_method_68_code, 2, (Option.some Jvm.ClassFile.FieldType.int), 12, 1, 1, 0, 0, xm_c245, xm_p245)
/-- NinthDayHoodedModel.bare()I -/
def xm_c246 : List Instr := [.aload 0, .sipush 0, .putfield 776, .aload 0, .invokevirtual 241, .sipush 0, .istore 1, .sipush 0, .istore 2, .sipush 0, .istore 3, .iload 3, .sipush 9, .if_icmp .ge 34, .aload 0, .iload 3, .invokevirtual 243, .istore 4, .iload 2, .iload 4, .iadd, .istore 2, .iload 1, .iload 4, .ifCond .le 29, .sipush 1, .iload 3, .ishl, .goto 30, .sipush 0, .ior, .istore 1, .iinc 3 1, .goto 11, .aload 0, .sipush 0, .putfield 775, .aload 0, .iload 2, .invokevirtual 183, .iload 1, .ireturn]
def xm_p246 : List Nat := [0, 1, 2, 5, 6, 9, 10, 11, 12, 13, 14, 15, 16, 18, 21, 22, 23, 26, 28, 29, 31, 32, 33, 34, 36, 39, 40, 41, 42, 45, 46, 47, 48, 51, 54, 55, 56, 59, 60, 61, 64, 65]
def xm_i246 : xe_I := (⟨"NinthDayHoodedModel", "bare", "()I"⟩, prog_14_method_69_code, 5, (Option.some Jvm.ClassFile.FieldType.int), 12, 1, 0, 0, 0, xm_c246, xm_p246)
/-- NinthDayHoodedModel.blindest()I -/
def xm_c247 : List Instr := [.aload 0, .sipush 0, .putfield 776, .sipush 0, .istore 1, .sipush (-1), .istore 2, .sipush 0, .istore 3, .iload 3, .sipush 9, .if_icmp .ge 29, .aload 0, .aload 0, .getfield 768, .iload 3, .invokevirtual 217, .invokestatic 0, .istore 4, .iload 4, .iload 2, .if_icmp .gt 23, .goto 27, .iload 3, .istore 1, .iload 4, .istore 2, .iinc 3 1, .goto 9, .aload 0, .sipush 0, .putfield 775, .aload 0, .iload 2, .invokevirtual 183, .iload 1, .ireturn]
def xm_p247 : List Nat := [0, 1, 2, 5, 6, 7, 8, 9, 10, 11, 12, 14, 17, 18, 19, 22, 23, 26, 29, 31, 33, 34, 37, 40, 41, 42, 44, 45, 48, 51, 52, 53, 56, 57, 58, 61, 62]
def xm_i247 : xe_I := (⟨"NinthDayHoodedModel", "blindest", "()I"⟩, prog_14_method_70_code, 5, (Option.some Jvm.ClassFile.FieldType.int), 12, 1, 0, 0, 0, xm_c247, xm_p247)
/-- NinthDayHoodedModel.findMends()I -/
def xm_c248 : List Instr := [.aload 0, .invokevirtual 241, .aload 0, .invokevirtual 244, .ifCond .ne 7, .sipush 0, .ireturn, .sipush 0, .istore 1, .iload 1, .aload 0, .getfield 769, .if_icmp .ge 57, .sipush 0, .istore 2, .iload 2, .sipush 9, .if_icmp .ge 47, .iload 2, .aload 0, .getfield 768, .iload 1, .iaload, .if_icmp .ne 25, .goto 45, .aload 0, .getfield 807, .iload 1, .iload 2, .iastore, .aload 0, .getfield 812, .sipush 0, .iload 1, .iastore, .aload 0, .getfield 812, .sipush 1, .iload 2, .iastore, .aload 0, .invokevirtual 244, .ifCond .ne 45, .sipush 1, .ireturn, .iinc 2 1, .goto 15, .aload 0, .getfield 807, .iload 1, .aload 0, .getfield 768, .iload 1, .iaload, .iastore, .iinc 1 1, .goto 9, .sipush 0, .istore 1, .iload 1, .aload 0, .getfield 769, .if_icmp .ge 118, .sipush 0, .istore 2, .iload 2, .sipush 9, .if_icmp .ge 108, .iload 2, .aload 0, .getfield 768, .iload 1, .iaload, .if_icmp .ne 75, .goto 106, .aload 0, .getfield 807, .iload 1, .iload 2, .iastore, .aload 0, .getfield 812, .sipush 0, .iload 1, .iastore, .aload 0, .getfield 812, .sipush 1, .iload 2, .iastore, .iload 1, .sipush 1, .iadd, .istore 3, .iload 3, .aload 0, .getfield 769, .if_icmp .ge 106, .aload 0, .iload 3, .invokevirtual 249, .ifCond .eq 104, .sipush 2, .ireturn, .iinc 3 1, .goto 94, .iinc 2 1, .goto 65, .aload 0, .getfield 807, .iload 1, .aload 0, .getfield 768, .iload 1, .iaload, .iastore, .iinc 1 1, .goto 59, .sipush (-2), .ireturn]
def xm_p248 : List Nat := [0, 1, 4, 5, 8, 11, 12, 13, 14, 15, 16, 17, 20, 23, 24, 25, 26, 28, 31, 32, 33, 36, 37, 38, 41, 44, 45, 48, 49, 50, 51, 52, 55, 56, 57, 58, 59, 62, 63, 64, 65, 66, 69, 72, 73, 74, 77, 80, 81, 84, 85, 86, 89, 90, 91, 92, 95, 98, 99, 100, 101, 102, 105, 108, 109, 110, 111, 113, 116, 117, 118, 121, 122, 123, 126, 129, 130, 133, 134, 135, 136, 137, 140, 141, 142, 143, 144, 147, 148, 149, 150, 151, 152, 153, 154, 155, 156, 159, 162, 163, 164, 167, 170, 171, 172, 175, 178, 181, 184, 185, 188, 189, 190, 193, 194, 195, 196, 199, 202, 204]
def xm_i248 : xe_I := (⟨"NinthDayHoodedModel", "findMends", "()I"⟩, prog_14_method_71_code, 4, (Option.some Jvm.ClassFile.FieldType.int), 12, 1, 0, 0, 0, xm_c248, xm_p248)
/-- NinthDayHoodedModel.mendsWith(I)Z -/
def xm_c249 : List Instr := [.sipush 0, .istore 2, .iload 2, .sipush 9, .if_icmp .ge 34, .iload 2, .aload 0, .getfield 768, .iload 1, .iaload, .if_icmp .ne 12, .goto 32, .aload 0, .getfield 807, .iload 1, .iload 2, .iastore, .aload 0, .getfield 812, .sipush 2, .iload 1, .iastore, .aload 0, .getfield 812, .sipush 3, .iload 2, .iastore, .aload 0, .invokevirtual 244, .ifCond .ne 32, .sipush 1, .freturn, .iinc 2 1, .goto 2, .aload 0, .getfield 807, .iload 1, .aload 0, .getfield 768, .iload 1, .iaload, .iastore, .sipush 0, .freturn]
def xm_p249 : List Nat := [0, 1, 2, 3, 5, 8, 9, 10, 13, 14, 15, 18, 21, 22, 25, 26, 27, 28, 29, 32, 33, 34, 35, 36, 39, 40, 41, 42, 43, 46, 49, 50, 51, 54, 57, 58, 61, 62, 63, 66, 67, 68, 69, 70]
def xm_i249 : xe_I := (⟨"NinthDayHoodedModel", "mendsWith", "(I)Z"⟩, prog_14_method_72_code, 3, (Option.some Jvm.ClassFile.FieldType.boolean), 12, 1, 1, 0, 0, xm_c249, xm_p249)
/-- NinthDayHoodedModel.tellMends()I -/
def xm_c250 : List Instr := [.aload 0, .invokevirtual 248, .istore 1, .iload 1, .ifCond .ge 7, .iload 1, .ireturn, .aload 0, .sipush 0, .putfield 775, .sipush 0, .istore 2, .iload 2, .sipush 2, .iload 1, .imul, .if_icmp .ge 25, .aload 0, .aload 0, .getfield 812, .iload 2, .iaload, .invokevirtual 183, .iinc 2 1, .goto 12, .iload 1, .ireturn]
def xm_p250 : List Nat := [0, 1, 4, 5, 6, 9, 10, 11, 12, 13, 16, 17, 18, 19, 20, 21, 22, 25, 26, 27, 30, 31, 32, 35, 38, 41, 42]
def xm_i250 : xe_I := (⟨"NinthDayHoodedModel", "tellMends", "()I"⟩, prog_14_method_73_code, 3, (Option.some Jvm.ClassFile.FieldType.int), 12, 1, 0, 0, 0, xm_c250, xm_p250)
/-- NinthDayHoodedModel.mends()I -/
def xm_c251 : List Instr := [.aload 0, .sipush 0, .putfield 776, .aload 0, .invokevirtual 250, .ireturn]
def xm_p251 : List Nat := [0, 1, 2, 5, 6, 9]
def xm_i251 : xe_I := (⟨"NinthDayHoodedModel", "mends", "()I"⟩, prog_14_method_74_code, 1, (Option.some Jvm.ClassFile.FieldType.int), 12, 1, 0, 0, 0, xm_c251, xm_p251)
/-- NinthDayHoodedModel.mend()I -/
def xm_c252 : List Instr := [.aload 0, .sipush 0, .putfield 776, .aload 0, .invokevirtual 250, .istore 1, .iload 1, .ifCond .gt 10, .iload 1, .ireturn, .aload 0, .aload 0, .getfield 768, .invokevirtual 226, .sipush 0, .istore 2, .iload 2, .iload 1, .if_icmp .ge 38, .aload 0, .getfield 768, .aload 0, .getfield 812, .sipush 2, .iload 2, .imul, .iaload, .aload 0, .getfield 812, .sipush 2, .iload 2, .imul, .sipush 1, .iadd, .iaload, .iastore, .iinc 2 1, .goto 16, .iload 1, .ireturn]
def xm_p252 : List Nat := [0, 1, 2, 5, 6, 9, 10, 11, 14, 15, 16, 17, 18, 21, 24, 25, 26, 27, 28, 31, 32, 35, 36, 39, 40, 41, 42, 43, 44, 47, 48, 49, 50, 51, 52, 53, 54, 57, 60, 61]
def xm_i252 : xe_I := (⟨"NinthDayHoodedModel", "mend", "()I"⟩, prog_14_method_75_code, 3, (Option.some Jvm.ClassFile.FieldType.int), 12, 1, 0, 0, 0, xm_c252, xm_p252)
/-- NinthDayHoodedModel.newcomer(I)I -/
def xm_c253 : List Instr := [.aload 0, .sipush 0, .putfield 776, .iload 1, .sipush 0, .sipush 63, .invokestatic 180, .ifCond .ne 10, .sipush (-1), .ireturn, .aload 0, .invokevirtual 241, .sipush 0, .istore 2, .sipush 1000000, .istore 3, .aload 0, .getfield 808, .aload 0, .getfield 769, .iload 1, .iastore, .aload 0, .aload 0, .getfield 769, .sipush 1, .iadd, .putfield 809, .sipush 0, .istore 4, .iload 4, .sipush 9, .if_icmp .ge 52, .aload 0, .getfield 807, .aload 0, .getfield 769, .iload 4, .iastore, .aload 0, .invokevirtual 244, .istore 5, .iload 5, .iload 3, .if_icmp .lt 46, .goto 50, .iload 4, .istore 2, .iload 5, .istore 3, .iinc 4 1, .goto 30, .aload 0, .sipush 0, .putfield 775, .aload 0, .iload 3, .invokevirtual 183, .iload 2, .ireturn]
def xm_p253 : List Nat := [0, 1, 2, 5, 6, 7, 9, 12, 15, 16, 17, 18, 21, 22, 23, 26, 27, 28, 31, 32, 35, 36, 37, 38, 39, 42, 43, 44, 47, 48, 50, 52, 54, 57, 58, 61, 62, 65, 67, 68, 69, 72, 74, 76, 77, 80, 83, 85, 86, 88, 89, 92, 95, 96, 97, 100, 101, 102, 105, 106]
def xm_i253 : xe_I := (⟨"NinthDayHoodedModel", "newcomer", "(I)I"⟩, prog_14_method_76_code, 6, (Option.some Jvm.ClassFile.FieldType.int), 12, 1, 1, 0, 0, xm_c253, xm_p253)
/-- NinthDayHoodedModel.needed()I -/
def xm_c254 : List Instr := [.aload 0, .sipush 0, .putfield 776, .aload 0, .invokevirtual 241, .aload 0, .invokevirtual 244, .istore 1, .sipush 0, .istore 2, .sipush 0, .istore 3, .iload 3, .aload 0, .getfield 769, .if_icmp .ge 45, .aload 0, .getfield 808, .iload 3, .iaload, .istore 4, .aload 0, .getfield 808, .iload 3, .sipush 0, .iastore, .iload 2, .aload 0, .invokevirtual 244, .iload 1, .if_icmp .le 35, .sipush 1, .iload 3, .ishl, .goto 36, .sipush 0, .ior, .istore 2, .aload 0, .getfield 808, .iload 3, .iload 4, .iastore, .iinc 3 1, .goto 12, .iload 2, .ireturn]
def xm_p254 : List Nat := [0, 1, 2, 5, 6, 9, 10, 13, 14, 15, 16, 17, 18, 19, 20, 23, 26, 27, 30, 31, 32, 34, 35, 38, 39, 40, 41, 42, 43, 46, 47, 50, 51, 52, 53, 56, 57, 58, 59, 60, 63, 64, 66, 67, 70, 73, 74]
def xm_i254 : xe_I := (⟨"NinthDayHoodedModel", "needed", "()I"⟩, prog_14_method_77_code, 5, (Option.some Jvm.ClassFile.FieldType.int), 12, 1, 0, 0, 0, xm_c254, xm_p254)
/-- NinthDayHoodedModel.gain(II)I -/
def xm_c255 : List Instr := [.aload 0, .sipush 0, .putfield 776, .aload 0, .iload 1, .iload 2, .invokevirtual 185, .ifCond .ne 11, .aload 0, .invokevirtual 182, .ireturn, .aload 0, .invokevirtual 241, .aload 0, .invokevirtual 244, .istore 3, .aload 0, .getfield 807, .iload 1, .iload 2, .invokestatic 232, .iload 3, .aload 0, .invokevirtual 244, .isub, .ireturn]
def xm_p255 : List Nat := [0, 1, 2, 5, 6, 7, 8, 11, 14, 15, 18, 19, 20, 23, 24, 27, 28, 29, 32, 33, 34, 37, 38, 39, 42, 43]
def xm_i255 : xe_I := (⟨"NinthDayHoodedModel", "gain", "(II)I"⟩, prog_14_method_78_code, 4, (Option.some Jvm.ClassFile.FieldType.int), 12, 1, 2, 0, 0, xm_c255, xm_p255)
/-- NinthDayHoodedModel.ferry(III)I -/
def xm_c256 : List Instr := [.aload 0, .sipush 0, .putfield 776, .iload 1, .sipush 0, .sipush 8, .invokestatic 180, .ifCond .eq 18, .iload 2, .sipush 0, .sipush 8, .invokestatic 180, .ifCond .eq 18, .iload 3, .sipush 1, .sipush 3, .invokestatic 180, .ifCond .ne 20, .sipush (-1), .ireturn, .sipush 0, .istore 4, .sipush 0, .istore 5, .iload 5, .sipush 9, .if_icmp .ge 78, .sipush 0, .istore 6, .sipush 0, .istore 7, .iload 7, .aload 0, .getfield 769, .if_icmp .ge 65, .iload 6, .aload 0, .getfield 768, .iload 7, .iaload, .iload 5, .if_icmp .eq 60, .aload 0, .getfield 768, .sipush 9, .iload 7, .iadd, .iaload, .iload 1, .if_icmp .eq 58, .aload 0, .getfield 768, .sipush 9, .iload 7, .iadd, .iaload, .iload 2, .if_icmp .ne 60, .sipush 1, .goto 61, .sipush 0, .iadd, .istore 6, .iinc 7 1, .goto 31, .iload 4, .iload 6, .iload 3, .if_icmp .lt 73, .sipush 1, .iload 5, .ishl, .goto 74, .sipush 0, .ior, .istore 4, .iinc 5 1, .goto 24, .iload 4, .ireturn]
def xm_p256 : List Nat := [0, 1, 2, 5, 6, 7, 9, 12, 15, 16, 17, 19, 22, 25, 26, 27, 28, 31, 34, 35, 36, 37, 39, 40, 42, 44, 46, 49, 50, 52, 53, 55, 57, 58, 61, 64, 66, 67, 70, 72, 73, 75, 78, 79, 82, 84, 86, 87, 88, 89, 92, 93, 96, 98, 100, 101, 102, 103, 106, 107, 110, 111, 112, 114, 117, 120, 122, 124, 125, 128, 129, 131, 132, 135, 136, 137, 139, 142, 145, 147]
def xm_i256 : xe_I := (⟨"NinthDayHoodedModel", "ferry", "(III)I"⟩, prog_14_method_79_code, 8, (Option.some Jvm.ClassFile.FieldType.int), 12, 1, 3, 0, 0, xm_c256, xm_p256)
/-- NinthDayHoodedModel.wish(III)I -/
def xm_c257 : List Instr := [.aload 0, .sipush 0, .putfield 776, .aload 0, .iload 1, .iload 2, .invokevirtual 185, .ifCond .eq 13, .iload 3, .sipush 0, .sipush 1, .invokestatic 180, .ifCond .ne 15, .sipush (-1), .ireturn, .aload 0, .getfield 814, .sipush 12, .if_icmp .ne 21, .sipush (-2), .ireturn, .aload 0, .getfield 813, .sipush 3, .aload 0, .getfield 814, .imul, .iload 1, .iastore, .aload 0, .getfield 813, .sipush 3, .aload 0, .getfield 814, .imul, .sipush 1, .iadd, .iload 2, .iastore, .aload 0, .getfield 813, .sipush 3, .aload 0, .getfield 814, .imul, .sipush 2, .iadd, .iload 3, .iastore, .aload 0, .dup, .getfield 814, .sipush 1, .iadd, .putfield 814, .aload 0, .getfield 814, .ireturn]
def xm_p257 : List Nat := [0, 1, 2, 5, 6, 7, 8, 11, 14, 15, 16, 17, 20, 23, 24, 25, 26, 29, 31, 34, 36, 37, 38, 41, 42, 43, 46, 47, 48, 49, 50, 53, 54, 55, 58, 59, 60, 61, 62, 63, 64, 67, 68, 69, 72, 73, 74, 75, 76, 77, 78, 79, 82, 83, 84, 87, 88, 91]
def xm_i257 : xe_I := (⟨"NinthDayHoodedModel", "wish", "(III)I"⟩, prog_14_method_80_code, 4, (Option.some Jvm.ClassFile.FieldType.int), 12, 1, 3, 0, 0, xm_c257, xm_p257)
/-- NinthDayHoodedModel.forget()I -/
def xm_c258 : List Instr := [.aload 0, .sipush 0, .putfield 776, .aload 0, .getfield 814, .istore 1, .aload 0, .sipush 0, .putfield 814, .iload 1, .ireturn]
def xm_p258 : List Nat := [0, 1, 2, 5, 6, 9, 10, 11, 12, 15, 16]
def xm_i258 : xe_I := (⟨"NinthDayHoodedModel", "forget", "()I"⟩, prog_14_method_81_code, 2, (Option.some Jvm.ClassFile.FieldType.int), 12, 1, 0, 0, 0, xm_c258, xm_p258)
/-- NinthDayHoodedModel.metBy([I)I -/
def xm_c259 : List Instr := [.sipush 0, .istore 2, .sipush 0, .istore 3, .iload 3, .aload 0, .getfield 814, .if_icmp .ge 54, .iload 2, .aload 1, .aload 0, .getfield 813, .sipush 3, .iload 3, .imul, .iaload, .iaload, .aload 1, .aload 0, .getfield 813, .sipush 3, .iload 3, .imul, .sipush 1, .iadd, .iaload, .iaload, .if_icmp .ne 30, .sipush 1, .goto 31, .sipush 0, .aload 0, .getfield 813, .sipush 3, .iload 3, .imul, .sipush 2, .iadd, .iaload, .sipush 1, .if_icmp .ne 43, .sipush 1, .goto 44, .sipush 0, .if_icmp .ne 49, .sipush 1, .iload 3, .ishl, .goto 50, .sipush 0, .ior, .istore 2, .iinc 3 1, .goto 4, .iload 2, .ireturn]
def xm_p259 : List Nat := [0, 1, 2, 3, 4, 5, 6, 9, 12, 13, 14, 15, 18, 19, 20, 21, 22, 23, 24, 25, 28, 29, 30, 31, 32, 33, 34, 35, 38, 39, 42, 43, 44, 47, 48, 49, 50, 51, 52, 53, 54, 57, 58, 61, 62, 65, 66, 67, 68, 71, 72, 73, 74, 77, 80, 81]
def xm_i259 : xe_I := (⟨"NinthDayHoodedModel", "metBy", "([I)I"⟩, prog_14_method_82_code, 4, (Option.some Jvm.ClassFile.FieldType.int), 12, 1, 1, 0, 0, xm_c259, xm_p259)
/-- NinthDayHoodedModel.met()I -/
def xm_c260 : List Instr := [.aload 0, .sipush 0, .putfield 776, .aload 0, .aload 0, .getfield 768, .invokevirtual 259, .istore 1, .aload 0, .sipush 0, .putfield 775, .aload 0, .iload 1, .invokevirtual 183, .iload 1, .invokestatic 0, .ireturn]
def xm_p260 : List Nat := [0, 1, 2, 5, 6, 7, 10, 13, 14, 15, 16, 19, 20, 21, 24, 25, 28]
def xm_i260 : xe_I := (⟨"NinthDayHoodedModel", "met", "()I"⟩, prog_14_method_83_code, 2, (Option.some Jvm.ClassFile.FieldType.int), 12, 1, 0, 0, 0, xm_c260, xm_p260)
/-- NinthDayHoodedModel.please()I -/
def xm_c261 : List Instr := [.aload 0, .sipush 0, .putfield 776, .aload 0, .invokevirtual 241, .aload 0, .invokevirtual 244, .istore 1, .sipush (-1), .istore 2, .sipush (-1), .istore 3, .aload 0, .aload 0, .getfield 768, .invokevirtual 259, .invokestatic 0, .istore 4, .sipush 0, .istore 5, .iload 5, .aload 0, .getfield 769, .if_icmp .ge 66, .sipush 0, .istore 6, .iload 6, .sipush 9, .if_icmp .ge 56, .aload 0, .getfield 807, .iload 5, .iload 6, .iastore, .aload 0, .aload 0, .getfield 807, .invokevirtual 259, .invokestatic 0, .istore 7, .iload 7, .iload 4, .if_icmp .le 54, .aload 0, .invokevirtual 244, .iload 1, .if_icmp .le 48, .goto 54, .iload 5, .istore 2, .iload 6, .istore 3, .iload 7, .istore 4, .iinc 6 1, .goto 26, .aload 0, .getfield 807, .iload 5, .aload 0, .getfield 768, .iload 5, .iaload, .iastore, .iinc 5 1, .goto 20, .aload 0, .sipush 0, .putfield 775, .aload 0, .iload 3, .invokevirtual 183, .aload 0, .iload 4, .invokevirtual 183, .iload 2, .ireturn]
def xm_p261 : List Nat := [0, 1, 2, 5, 6, 9, 10, 13, 14, 15, 16, 17, 18, 19, 20, 23, 26, 29, 31, 32, 34, 36, 37, 40, 43, 44, 46, 48, 50, 53, 54, 57, 59, 61, 62, 63, 64, 67, 70, 73, 75, 77, 79, 82, 83, 86, 87, 90, 93, 95, 96, 98, 99, 101, 103, 106, 109, 110, 113, 115, 116, 119, 121, 122, 123, 126, 129, 130, 131, 134, 135, 136, 139, 140, 142, 145, 146]
def xm_i261 : xe_I := (⟨"NinthDayHoodedModel", "please", "()I"⟩, prog_14_method_84_code, 8, (Option.some Jvm.ClassFile.FieldType.int), 12, 1, 0, 0, 0, xm_c261, xm_p261)
/-- NinthDayHoodedModel.goColour(II)V -/
def xm_c262 : List Instr := [.iload 2, .aload 0, .getfield 817, .if_icmp .lt 5, .return_, .iload 1, .aload 0, .getfield 769, .if_icmp .ne 29, .aload 0, .iload 2, .putfield 817, .sipush 0, .istore 3, .iload 3, .aload 0, .getfield 769, .if_icmp .ge 28, .aload 0, .getfield 816, .iload 3, .aload 0, .getfield 815, .iload 3, .iaload, .iastore, .iinc 3 1, .goto 14, .return_, .sipush 0, .istore 3, .iload 3, .iload 2, .if_icmp .gt 115, .iload 3, .sipush 9, .if_icmp .ge 115, .aload 0, .getfield 815, .iload 1, .iload 3, .iastore, .sipush 1, .istore 4, .sipush 0, .istore 5, .iload 5, .aload 0, .getfield 814, .if_icmp .ge 101, .aload 0, .getfield 813, .sipush 3, .iload 5, .imul, .iaload, .istore 6, .aload 0, .getfield 813, .sipush 3, .iload 5, .imul, .sipush 1, .iadd, .iaload, .istore 7, .iload 6, .iload 7, .invokestatic 4, .iload 1, .if_icmp .ne 99, .aload 0, .getfield 815, .iload 6, .iaload, .aload 0, .getfield 815, .iload 7, .iaload, .if_icmp .ne 82, .sipush 1, .goto 83, .sipush 0, .aload 0, .getfield 813, .sipush 3, .iload 5, .imul, .sipush 2, .iadd, .iaload, .sipush 1, .if_icmp .ne 95, .sipush 1, .goto 96, .sipush 0, .if_icmp .eq 99, .sipush 0, .istore 4, .iinc 5 1, .goto 46, .iload 4, .ifCond .eq 113, .aload 0, .iload 1, .sipush 1, .iadd, .iload 2, .iload 3, .sipush 1, .iadd, .invokestatic 4, .invokevirtual 262, .iinc 3 1, .goto 31, .return_]
def xm_p262 : List Nat := [0, 1, 2, 5, 8, 9, 10, 11, 14, 17, 18, 19, 22, 23, 24, 25, 26, 29, 32, 33, 36, 37, 38, 41, 42, 43, 44, 47, 50, 51, 52, 53, 54, 55, 58, 59, 61, 64, 65, 68, 69, 70, 71, 72, 74, 75, 77, 79, 80, 83, 86, 87, 90, 91, 93, 94, 95, 97, 98, 101, 102, 104, 105, 106, 107, 108, 110, 112, 114, 117, 118, 121, 122, 125, 127, 128, 129, 132, 134, 135, 138, 139, 142, 143, 144, 147, 148, 150, 151, 152, 153, 154, 155, 158, 159, 162, 163, 166, 167, 169, 172, 175, 177, 180, 181, 182, 183, 184, 185, 186, 187, 188, 191, 194, 197, 200]
def xm_i262 : xe_I := (⟨"NinthDayHoodedModel", "goColour", "(II)V"⟩, prog_14_method_85_code, 8, (Option.none : Option Jvm.ClassFile.FieldType), 12, 1, 2, 0, 0, xm_c262, xm_p262)
/-- NinthDayHoodedModel.colours()I -/
def xm_c263 : List Instr := [.aload 0, .sipush 0, .putfield 776, .aload 0, .getfield 769, .ifCond .ne 11, .aload 0, .sipush 0, .putfield 775, .sipush 0, .ireturn, .aload 0, .sipush 1000000, .putfield 817, .aload 0, .sipush 0, .sipush 0, .invokevirtual 262, .aload 0, .getfield 817, .sipush 1000000, .if_icmp .ne 24, .sipush (-2), .ireturn, .aload 0, .sipush 0, .putfield 775, .sipush 0, .istore 1, .iload 1, .aload 0, .getfield 769, .if_icmp .ge 41, .aload 0, .aload 0, .getfield 816, .iload 1, .iaload, .invokevirtual 183, .iinc 1 1, .goto 29, .aload 0, .getfield 817, .ireturn]
def xm_p263 : List Nat := [0, 1, 2, 5, 6, 9, 12, 13, 14, 17, 18, 19, 20, 23, 26, 27, 28, 29, 32, 33, 36, 39, 42, 44, 45, 46, 47, 50, 51, 52, 53, 54, 57, 60, 61, 62, 65, 66, 67, 70, 73, 76, 77, 80]
def xm_i263 : xe_I := (⟨"NinthDayHoodedModel", "colours", "()I"⟩, prog_14_method_86_code, 2, (Option.some Jvm.ClassFile.FieldType.int), 12, 1, 0, 0, 0, xm_c263, xm_p263)
/-- NinthDayHoodedModel.friend(I)I -/
def xm_c264 : List Instr := [.aload 0, .sipush 0, .putfield 776, .aload 0, .iload 1, .invokevirtual 184, .ifCond .ne 9, .sipush (-2), .ireturn, .sipush (-1), .istore 2, .sipush 1000000, .istore 3, .sipush 0, .istore 4, .sipush (-1), .istore 5, .iload 5, .aload 0, .getfield 769, .if_icmp .ge 112, .iload 5, .iload 1, .if_icmp .ne 25, .goto 110, .iload 5, .sipush (-1), .if_icmp .ne 30, .sipush 0, .goto 38, .aload 0, .getfield 770, .sipush 9, .iload 1, .imul, .iload 5, .iadd, .iaload, .istore 6, .iload 5, .sipush (-1), .if_icmp .eq 51, .aload 0, .getfield 770, .sipush 9, .iload 1, .imul, .iload 5, .iadd, .sipush 9, .iastore, .sipush 0, .istore 7, .sipush 0, .istore 8, .sipush 0, .istore 9, .iload 9, .sipush 9, .if_icmp .ge 82, .aload 0, .aload 0, .getfield 768, .aload 0, .getfield 768, .sipush 81, .iaload, .iload 9, .iadd, .invokevirtual 219, .iload 7, .aload 0, .getfield 794, .iadd, .istore 7, .iload 8, .aload 0, .getfield 795, .iadd, .istore 8, .iinc 9 1, .goto 57, .iload 5, .sipush (-1), .if_icmp .eq 94, .aload 0, .getfield 770, .sipush 9, .iload 1, .imul, .iload 5, .iadd, .iload 6, .iastore, .iload 7, .iload 3, .if_icmp .gt 110, .iload 7, .iload 3, .if_icmp .ne 104, .iload 8, .iload 4, .if_icmp .lt 104, .goto 110, .iload 5, .istore 2, .iload 7, .istore 3, .iload 8, .istore 4, .iinc 5 1, .goto 17, .aload 0, .sipush 0, .putfield 775, .aload 0, .iload 3, .invokevirtual 183, .aload 0, .iload 4, .invokevirtual 183, .iload 2, .ireturn]
def xm_p264 : List Nat := [0, 1, 2, 5, 6, 7, 10, 13, 15, 16, 17, 18, 21, 22, 23, 25, 26, 28, 30, 31, 34, 37, 39, 40, 43, 46, 48, 49, 52, 53, 56, 57, 60, 62, 63, 64, 66, 67, 68, 70, 72, 73, 76, 77, 80, 82, 83, 84, 86, 87, 89, 90, 91, 93, 94, 96, 97, 99, 101, 103, 106, 107, 108, 111, 112, 115, 117, 118, 120, 121, 124, 126, 127, 130, 131, 133, 135, 136, 139, 140, 142, 145, 148, 150, 151, 154, 155, 158, 160, 161, 162, 164, 165, 167, 168, 170, 171, 174, 176, 177, 180, 182, 184, 187, 190, 192, 193, 195, 196, 198, 200, 203, 206, 207, 208, 211, 212, 213, 216, 217, 219, 222, 223]
def xm_i264 : xe_I := (⟨"NinthDayHoodedModel", "friend", "(I)I"⟩, prog_14_method_87_code, 10, (Option.some Jvm.ClassFile.FieldType.int), 12, 1, 1, 0, 0, xm_c264, xm_p264)
/-- NinthDayHoodedModel.swap(II)Z -/
def xm_c265 : List Instr := [.aload 0, .sipush 0, .putfield 776, .aload 0, .iload 1, .iload 2, .invokevirtual 185, .ifCond .ne 10, .sipush 0, .freturn, .aload 0, .aload 0, .getfield 768, .invokevirtual 226, .aload 0, .getfield 768, .iload 1, .iload 2, .invokestatic 232, .sipush 1, .freturn]
def xm_p265 : List Nat := [0, 1, 2, 5, 6, 7, 8, 11, 14, 15, 16, 17, 18, 21, 24, 25, 28, 29, 30, 33, 34]
def xm_i265 : xe_I := (⟨"NinthDayHoodedModel", "swap", "(II)Z"⟩, prog_14_method_88_code, 3, (Option.some Jvm.ClassFile.FieldType.boolean), 12, 1, 2, 0, 0, xm_c265, xm_p265)
/-- NinthDayHoodedModel.wants([III)Z -/
def xm_c266 : List Instr := [.aload 0, .getfield 771, .sipush 9, .iload 2, .imul, .aload 1, .iload 3, .iaload, .iadd, .iaload, .aload 0, .getfield 771, .sipush 9, .iload 2, .imul, .aload 1, .iload 2, .iaload, .iadd, .iaload, .if_icmp .le 23, .sipush 1, .goto 24, .sipush 0, .freturn]
def xm_p266 : List Nat := [0, 1, 4, 6, 7, 8, 9, 10, 11, 12, 13, 14, 17, 19, 20, 21, 22, 23, 24, 25, 26, 29, 30, 33, 34]
def xm_i266 : xe_I := (⟨"NinthDayHoodedModel", "wants", "([III)Z"⟩, prog_14_method_89_code, 4, (Option.some Jvm.ClassFile.FieldType.boolean), 12, 1, 3, 0, 0, xm_c266, xm_p266)
/-- NinthDayHoodedModel.goRing([III)Z -/
def xm_c267 : List Instr := [.iload 2, .iload 3, .if_icmp .ne 17, .aload 0, .aload 1, .aload 0, .getfield 818, .iload 2, .sipush 1, .isub, .iaload, .aload 0, .getfield 818, .sipush 0, .iaload, .invokevirtual 266, .freturn, .aload 0, .getfield 818, .sipush 0, .iaload, .sipush 1, .iadd, .istore 4, .iload 4, .aload 0, .getfield 769, .if_icmp .ge 80, .sipush 0, .istore 5, .sipush 0, .istore 6, .iload 6, .iload 2, .if_icmp .ge 49, .iload 5, .ifCond .ne 43, .aload 0, .getfield 818, .iload 6, .iaload, .iload 4, .if_icmp .ne 45, .sipush 1, .goto 46, .sipush 0, .istore 5, .iinc 6 1, .goto 32, .iload 5, .ifCond .ne 78, .aload 0, .aload 1, .aload 0, .getfield 818, .iload 2, .sipush 1, .isub, .iaload, .iload 4, .invokevirtual 266, .ifCond .ne 63, .goto 78, .aload 0, .getfield 818, .iload 2, .iload 4, .iastore, .aload 0, .aload 1, .iload 2, .sipush 1, .iadd, .iload 3, .invokevirtual 267, .ifCond .eq 78, .sipush 1, .freturn, .iinc 4 1, .goto 24, .sipush 0, .freturn]
def xm_p267 : List Nat := [0, 1, 2, 5, 6, 7, 8, 11, 12, 13, 14, 15, 16, 19, 20, 21, 24, 25, 26, 29, 30, 31, 32, 33, 35, 37, 38, 41, 44, 45, 47, 48, 50, 52, 53, 56, 58, 61, 62, 65, 67, 68, 70, 73, 74, 77, 78, 80, 83, 86, 88, 91, 92, 93, 94, 97, 98, 99, 100, 101, 103, 106, 109, 112, 113, 116, 117, 119, 120, 121, 122, 123, 124, 125, 126, 129, 132, 133, 134, 137, 140, 141]
def xm_i267 : xe_I := (⟨"NinthDayHoodedModel", "goRing", "([III)Z"⟩, prog_14_method_90_code, 7, (Option.some Jvm.ClassFile.FieldType.boolean), 12, 1, 3, 0, 0, xm_c267, xm_p267)
/-- NinthDayHoodedModel.findRing([I)Z -/
def xm_c268 : List Instr := [.sipush 2, .istore 2, .iload 2, .sipush 4, .if_icmp .gt 31, .aload 0, .iload 2, .putfield 819, .sipush 0, .istore 3, .iload 3, .aload 0, .getfield 769, .if_icmp .ge 29, .aload 0, .getfield 818, .sipush 0, .iload 3, .iastore, .aload 0, .aload 1, .sipush 1, .iload 2, .invokevirtual 267, .ifCond .eq 27, .sipush 1, .freturn, .iinc 3 1, .goto 10, .iinc 2 1, .goto 2, .sipush 0, .freturn]
def xm_p268 : List Nat := [0, 1, 2, 3, 4, 7, 8, 9, 12, 13, 14, 15, 16, 19, 22, 23, 26, 27, 28, 29, 30, 31, 32, 33, 36, 39, 40, 41, 44, 47, 50, 53, 54]
def xm_i268 : xe_I := (⟨"NinthDayHoodedModel", "findRing", "([I)Z"⟩, prog_14_method_91_code, 4, (Option.some Jvm.ClassFile.FieldType.boolean), 12, 1, 1, 0, 0, xm_c268, xm_p268)
/-- NinthDayHoodedModel.turnRing([I)V -/
def xm_c269 : List Instr := [.aload 1, .aload 0, .getfield 818, .sipush 0, .iaload, .iaload, .istore 2, .sipush 0, .istore 3, .iload 3, .sipush 1, .iadd, .aload 0, .getfield 819, .if_icmp .ge 31, .aload 1, .aload 0, .getfield 818, .iload 3, .iaload, .aload 1, .aload 0, .getfield 818, .iload 3, .sipush 1, .iadd, .iaload, .iaload, .iastore, .iinc 3 1, .goto 9, .aload 1, .aload 0, .getfield 818, .aload 0, .getfield 819, .sipush 1, .isub, .iaload, .iload 2, .iastore, .return_]
def xm_p269 : List Nat := [0, 1, 2, 5, 6, 7, 8, 9, 10, 11, 12, 13, 14, 15, 18, 21, 22, 23, 26, 27, 28, 29, 30, 33, 34, 35, 36, 37, 38, 39, 42, 45, 46, 47, 50, 51, 54, 55, 56, 57, 58, 59]
def xm_i269 : xe_I := (⟨"NinthDayHoodedModel", "turnRing", "([I)V"⟩, prog_14_method_92_code, 4, (Option.none : Option Jvm.ClassFile.FieldType), 12, 1, 1, 0, 0, xm_c269, xm_p269)
/-- NinthDayHoodedModel.tellRing()I -/
def xm_c270 : List Instr := [.aload 0, .aload 0, .getfield 768, .invokevirtual 268, .ifCond .ne 7, .sipush (-2), .ireturn, .aload 0, .sipush 0, .putfield 775, .sipush 0, .istore 1, .iload 1, .aload 0, .getfield 819, .if_icmp .ge 24, .aload 0, .aload 0, .getfield 818, .iload 1, .iaload, .invokevirtual 183, .iinc 1 1, .goto 12, .aload 0, .getfield 819, .ireturn]
def xm_p270 : List Nat := [0, 1, 2, 5, 8, 11, 13, 14, 15, 16, 19, 20, 21, 22, 23, 26, 29, 30, 31, 34, 35, 36, 39, 42, 45, 46, 49]
def xm_i270 : xe_I := (⟨"NinthDayHoodedModel", "tellRing", "()I"⟩, prog_14_method_93_code, 2, (Option.some Jvm.ClassFile.FieldType.int), 12, 1, 0, 0, 0, xm_c270, xm_p270)
/-- NinthDayHoodedModel.ring()I -/
def xm_c271 : List Instr := [.aload 0, .sipush 0, .putfield 776, .aload 0, .invokevirtual 270, .ireturn]
def xm_p271 : List Nat := [0, 1, 2, 5, 6, 9]
def xm_i271 : xe_I := (⟨"NinthDayHoodedModel", "ring", "()I"⟩, prog_14_method_94_code, 1, (Option.some Jvm.ClassFile.FieldType.int), 12, 1, 0, 0, 0, xm_c271, xm_p271)
/-- NinthDayHoodedModel.turn()I -/
def xm_c272 : List Instr := [.aload 0, .sipush 0, .putfield 776, .aload 0, .invokevirtual 270, .istore 1, .iload 1, .ifCond .ge 10, .iload 1, .ireturn, .aload 0, .aload 0, .getfield 768, .invokevirtual 226, .aload 0, .aload 0, .getfield 768, .invokevirtual 269, .iload 1, .ireturn]
def xm_p272 : List Nat := [0, 1, 2, 5, 6, 9, 10, 11, 14, 15, 16, 17, 18, 21, 24, 25, 26, 29, 32, 33]
def xm_i272 : xe_I := (⟨"NinthDayHoodedModel", "turn", "()I"⟩, prog_14_method_95_code, 2, (Option.some Jvm.ClassFile.FieldType.int), 12, 1, 0, 0, 0, xm_c272, xm_p272)
/-- NinthDayHoodedModel.rests()I -/
def xm_c273 : List Instr := [.aload 0, .sipush 0, .putfield 776, .aload 0, .getfield 768, .aload 0, .getfield 804, .sipush 0, .invokestatic 225, .sipush 0, .istore 1, .aload 0, .aload 0, .getfield 804, .invokevirtual 268, .ifCond .eq 22, .aload 0, .aload 0, .getfield 804, .invokevirtual 269, .iinc 1 1, .goto 11, .aload 0, .sipush 0, .putfield 775, .sipush 0, .istore 2, .iload 2, .aload 0, .getfield 769, .if_icmp .ge 39, .aload 0, .aload 0, .getfield 804, .iload 2, .iaload, .invokevirtual 183, .iinc 2 1, .goto 27, .iload 1, .ireturn]
def xm_p273 : List Nat := [0, 1, 2, 5, 6, 9, 10, 13, 14, 17, 18, 19, 20, 21, 24, 27, 30, 31, 32, 35, 38, 41, 44, 45, 46, 49, 50, 51, 52, 53, 56, 59, 60, 61, 64, 65, 66, 69, 72, 75, 76]
def xm_i273 : xe_I := (⟨"NinthDayHoodedModel", "rests", "()I"⟩, prog_14_method_96_code, 3, (Option.some Jvm.ClassFile.FieldType.int), 12, 1, 0, 0, 0, xm_c273, xm_p273)
/-- NinthDayHoodedModel.liked()I -/
def xm_c274 : List Instr := [.aload 0, .sipush 0, .putfield 776, .sipush 0, .istore 1, .sipush 0, .istore 2, .iload 2, .aload 0, .getfield 769, .if_icmp .ge 27, .iload 1, .aload 0, .getfield 771, .sipush 9, .iload 2, .imul, .aload 0, .getfield 768, .iload 2, .iaload, .iadd, .iaload, .iadd, .istore 1, .iinc 2 1, .goto 7, .sipush 1, .istore 2, .iload 2, .sipush 1, .aload 0, .getfield 769, .ishl, .if_icmp .ge 90, .iload 2, .invokestatic 0, .sipush 1, .isub, .istore 3, .aload 0, .getfield 820, .iload 2, .sipush (-1), .iastore, .sipush 0, .istore 4, .iload 4, .aload 0, .getfield 769, .if_icmp .ge 88, .iload 2, .iload 4, .invokestatic 181, .ifCond .eq 86, .aload 0, .getfield 820, .iload 2, .aload 0, .getfield 820, .iload 2, .iaload, .aload 0, .getfield 820, .iload 2, .sipush 1, .iload 4, .ishl, .sipush (-1), .ixor, .iand, .iaload, .aload 0, .getfield 771, .sipush 9, .iload 3, .imul, .aload 0, .getfield 768, .iload 4, .iaload, .iadd, .iaload, .iadd, .invokestatic 4, .iastore, .iinc 4 1, .goto 47, .iinc 2 1, .goto 29, .aload 0, .sipush 0, .putfield 775, .aload 0, .aload 0, .getfield 820, .sipush 1, .aload 0, .getfield 769, .ishl, .sipush 1, .isub, .iaload, .invokevirtual 183, .iload 1, .ireturn]
def xm_p274 : List Nat := [0, 1, 2, 5, 6, 7, 8, 9, 10, 11, 14, 17, 18, 19, 22, 24, 25, 26, 27, 30, 31, 32, 33, 34, 35, 36, 39, 42, 43, 44, 45, 46, 47, 50, 51, 54, 55, 58, 59, 60, 61, 62, 65, 66, 67, 68, 69, 71, 73, 74, 77, 80, 81, 83, 86, 89, 90, 93, 94, 95, 98, 99, 100, 101, 104, 105, 106, 108, 109, 110, 111, 112, 113, 114, 117, 119, 120, 121, 122, 125, 127, 128, 129, 130, 131, 134, 135, 138, 141, 144, 147, 148, 149, 152, 153, 154, 157, 158, 159, 162, 163, 164, 165, 166, 169, 170]
def xm_i274 : xe_I := (⟨"NinthDayHoodedModel", "liked", "()I"⟩, prog_14_method_97_code, 5, (Option.some Jvm.ClassFile.FieldType.int), 12, 1, 0, 0, 0, xm_c274, xm_p274)
/-- NinthDayHoodedModel.theft(II)I -/
def xm_c275 : List Instr := [.aload 0, .sipush 0, .putfield 776, .aload 0, .iload 1, .invokevirtual 184, .ifCond .eq 16, .iload 2, .sipush 0, .sipush 999, .invokestatic 180, .ifCond .eq 16, .aload 0, .getfield 822, .sipush 10, .if_icmp .ne 18, .sipush (-1), .ireturn, .aload 0, .getfield 821, .sipush 2, .aload 0, .getfield 822, .imul, .iload 1, .iastore, .aload 0, .getfield 821, .sipush 2, .aload 0, .getfield 822, .imul, .sipush 1, .iadd, .iload 2, .iastore, .aload 0, .dup, .getfield 822, .sipush 1, .iadd, .putfield 822, .aload 0, .getfield 822, .ireturn]
def xm_p275 : List Nat := [0, 1, 2, 5, 6, 7, 10, 13, 14, 15, 18, 21, 24, 25, 28, 30, 33, 34, 35, 36, 39, 40, 41, 44, 45, 46, 47, 48, 51, 52, 53, 56, 57, 58, 59, 60, 61, 62, 63, 66, 67, 68, 71, 72, 75]
def xm_i275 : xe_I := (⟨"NinthDayHoodedModel", "theft", "(II)I"⟩, prog_14_method_98_code, 3, (Option.some Jvm.ClassFile.FieldType.int), 12, 1, 2, 0, 0, xm_c275, xm_p275)
/-- NinthDayHoodedModel.pardon()I -/
def xm_c276 : List Instr := [.aload 0, .sipush 0, .putfield 776, .aload 0, .getfield 822, .istore 1, .aload 0, .sipush 0, .putfield 822, .iload 1, .ireturn]
def xm_p276 : List Nat := [0, 1, 2, 5, 6, 9, 10, 11, 12, 15, 16]
def xm_i276 : xe_I := (⟨"NinthDayHoodedModel", "pardon", "()I"⟩, prog_14_method_99_code, 2, (Option.some Jvm.ClassFile.FieldType.int), 12, 1, 0, 0, 0, xm_c276, xm_p276)
/-- NinthDayHoodedModel.suspectsOf(I)I -/
def xm_c277 : List Instr := [.aload 0, .getfield 821, .sipush 2, .iload 1, .imul, .iaload, .istore 2, .aload 0, .getfield 821, .sipush 2, .iload 1, .imul, .sipush 1, .iadd, .iaload, .sipush 9, .irem, .istore 3, .sipush 0, .istore 4, .sipush 0, .istore 5, .iload 5, .aload 0, .getfield 769, .if_icmp .ge 75, .iload 5, .iload 2, .if_icmp .eq 73, .aload 0, .getfield 768, .iload 5, .iaload, .iload 3, .if_icmp .eq 73, .aload 0, .getfield 768, .sipush 9, .iload 5, .iadd, .iaload, .aload 0, .getfield 768, .sipush 9, .iload 2, .iadd, .iaload, .invokestatic 208, .sipush 2, .if_icmp .le 51, .goto 73, .aload 0, .getfield 768, .iload 2, .iaload, .iload 3, .if_icmp .ne 67, .aload 0, .getfield 770, .sipush 9, .iload 2, .imul, .iload 5, .iadd, .iaload, .ifCond .ne 67, .goto 73, .iload 4, .sipush 1, .iload 5, .ishl, .ior, .istore 4, .iinc 5 1, .goto 22, .iload 4, .ireturn]
def xm_p277 : List Nat := [0, 1, 4, 5, 6, 7, 8, 9, 10, 13, 14, 15, 16, 17, 18, 19, 21, 22, 23, 24, 26, 27, 29, 31, 32, 35, 38, 40, 41, 44, 45, 48, 50, 51, 52, 55, 56, 59, 61, 63, 64, 65, 66, 69, 71, 72, 73, 74, 77, 78, 81, 84, 85, 88, 89, 90, 91, 94, 95, 98, 100, 101, 102, 104, 105, 106, 109, 112, 114, 115, 117, 118, 119, 121, 124, 127, 129]
def xm_i277 : xe_I := (⟨"NinthDayHoodedModel", "suspectsOf", "(I)I"⟩, prog_14_method_100_code, 6, (Option.some Jvm.ClassFile.FieldType.int), 12, 1, 1, 0, 0, xm_c277, xm_p277)
/-- NinthDayHoodedModel.suspects(I)I -/
def xm_c278 : List Instr := [.aload 0, .sipush 0, .putfield 776, .iload 1, .sipush 0, .aload 0, .getfield 822, .sipush 1, .isub, .invokestatic 180, .ifCond .ne 13, .sipush (-1), .ireturn, .aload 0, .iload 1, .invokevirtual 277, .istore 2, .aload 0, .sipush 0, .putfield 775, .aload 0, .iload 2, .invokevirtual 183, .iload 2, .invokestatic 0, .ireturn]
def xm_p278 : List Nat := [0, 1, 2, 5, 6, 7, 8, 11, 12, 13, 16, 19, 20, 21, 22, 23, 26, 27, 28, 29, 32, 33, 34, 37, 38, 41]
def xm_i278 : xe_I := (⟨"NinthDayHoodedModel", "suspects", "(I)I"⟩, prog_14_method_101_code, 3, (Option.some Jvm.ClassFile.FieldType.int), 12, 1, 1, 0, 0, xm_c278, xm_p278)
/-- NinthDayHoodedModel.thief()I -/
def xm_c279 : List Instr := [.aload 0, .sipush 0, .putfield 776, .sipush 1, .aload 0, .getfield 769, .ishl, .sipush 1, .isub, .istore 1, .sipush 0, .istore 2, .iload 2, .aload 0, .getfield 822, .if_icmp .ge 24, .iload 1, .aload 0, .iload 2, .invokevirtual 277, .iand, .istore 1, .iinc 2 1, .goto 12, .sipush (-1), .istore 2, .sipush 0, .istore 3, .iload 3, .sipush 1, .aload 0, .getfield 769, .ishl, .if_icmp .ge 71, .iload 2, .sipush (-1), .if_icmp .eq 43, .iload 3, .invokestatic 0, .iload 2, .invokestatic 0, .if_icmp .lt 43, .goto 69, .sipush 1, .istore 4, .sipush 0, .istore 5, .iload 5, .aload 0, .getfield 822, .if_icmp .ge 65, .iload 4, .ifCond .eq 61, .aload 0, .iload 5, .invokevirtual 277, .iload 3, .iand, .ifCond .eq 61, .sipush 1, .goto 62, .sipush 0, .istore 4, .iinc 5 1, .goto 47, .iload 4, .ifCond .eq 69, .iload 3, .istore 2, .iinc 3 1, .goto 28, .aload 0, .sipush 0, .putfield 775, .aload 0, .iload 2, .sipush (-1), .if_icmp .ne 80, .sipush (-1), .goto 82, .iload 2, .invokestatic 0, .invokevirtual 183, .aload 0, .iload 2, .sipush (-1), .if_icmp .ne 89, .sipush 0, .goto 90, .iload 2, .invokevirtual 183, .iload 1, .ireturn]
def xm_p279 : List Nat := [0, 1, 2, 5, 6, 7, 10, 11, 12, 13, 14, 15, 16, 17, 18, 21, 24, 25, 26, 27, 30, 31, 32, 35, 38, 39, 40, 41, 42, 43, 44, 45, 48, 49, 52, 53, 54, 57, 58, 61, 62, 65, 68, 71, 72, 74, 75, 77, 79, 80, 83, 86, 88, 91, 92, 94, 97, 98, 99, 102, 103, 106, 107, 109, 112, 115, 117, 120, 121, 122, 125, 128, 129, 130, 133, 134, 135, 136, 139, 140, 143, 144, 147, 150, 151, 152, 153, 156, 157, 160, 161, 164, 165]
def xm_i279 : xe_I := (⟨"NinthDayHoodedModel", "thief", "()I"⟩, prog_14_method_102_code, 6, (Option.some Jvm.ClassFile.FieldType.int), 12, 1, 0, 0, 0, xm_c279, xm_p279)
/-- NinthDayHoodedModel.witnesses(II)I -/
def xm_c280 : List Instr := [.aload 0, .sipush 0, .putfield 823, .aload 0, .sipush 0, .putfield 824, .sipush 0, .istore 3, .iload 3, .aload 0, .getfield 769, .if_icmp .ge 50, .aload 0, .getfield 768, .sipush 9, .iload 3, .iadd, .iaload, .iload 1, .invokestatic 208, .sipush 1, .if_icmp .le 23, .goto 48, .aload 0, .getfield 768, .iload 3, .iaload, .iload 2, .sipush 9, .irem, .if_icmp .ne 40, .aload 0, .dup, .getfield 824, .sipush 1, .iload 3, .ishl, .ior, .putfield 824, .goto 48, .aload 0, .dup, .getfield 823, .sipush 1, .iload 3, .ishl, .ior, .putfield 823, .iinc 3 1, .goto 8, .sipush 2, .aload 0, .getfield 823, .invokestatic 0, .imul, .aload 0, .getfield 824, .invokestatic 0, .iadd, .ireturn]
def xm_p280 : List Nat := [0, 1, 2, 5, 6, 7, 10, 11, 12, 13, 14, 17, 20, 21, 24, 26, 27, 28, 29, 30, 33, 34, 37, 40, 41, 44, 45, 46, 47, 49, 50, 53, 54, 55, 58, 59, 60, 61, 62, 65, 68, 69, 70, 73, 74, 75, 76, 77, 80, 83, 86, 87, 88, 91, 94, 95, 96, 99, 102, 103]
def xm_i280 : xe_I := (⟨"NinthDayHoodedModel", "witnesses", "(II)I"⟩, prog_14_method_103_code, 4, (Option.some Jvm.ClassFile.FieldType.int), 12, 1, 2, 0, 0, xm_c280, xm_p280)
/-- NinthDayHoodedModel.witness(II)I -/
def xm_c281 : List Instr := [.aload 0, .sipush 0, .putfield 776, .iload 1, .sipush 0, .sipush 8, .invokestatic 180, .ifCond .eq 13, .iload 2, .sipush 0, .sipush 999, .invokestatic 180, .ifCond .ne 15, .sipush (-1), .ireturn, .aload 0, .iload 1, .iload 2, .invokevirtual 280, .istore 3, .aload 0, .sipush 0, .putfield 775, .aload 0, .aload 0, .getfield 823, .invokevirtual 183, .aload 0, .aload 0, .getfield 824, .invokevirtual 183, .iload 3, .ireturn]
def xm_p281 : List Nat := [0, 1, 2, 5, 6, 7, 9, 12, 15, 16, 17, 20, 23, 26, 27, 28, 29, 30, 31, 34, 35, 36, 37, 40, 41, 42, 45, 48, 49, 50, 53, 56, 57]
def xm_i281 : xe_I := (⟨"NinthDayHoodedModel", "witness", "(II)I"⟩, prog_14_method_104_code, 4, (Option.some Jvm.ClassFile.FieldType.int), 12, 1, 2, 0, 0, xm_c281, xm_p281)
/-- NinthDayHoodedModel.dark(III)I -/
def xm_c282 : List Instr := [.aload 0, .sipush 0, .putfield 776, .iload 1, .sipush 0, .sipush 8, .invokestatic 180, .ifCond .eq 18, .iload 2, .sipush 0, .sipush 20, .invokestatic 180, .ifCond .eq 18, .iload 3, .sipush 1, .sipush 40, .invokestatic 180, .ifCond .ne 20, .sipush (-1), .ireturn, .sipush 0, .istore 4, .iload 4, .iload 3, .if_icmp .ge 40, .aload 0, .iload 1, .aload 0, .getfield 768, .sipush 81, .iaload, .iload 4, .iadd, .invokevirtual 280, .iload 2, .if_icmp .gt 38, .iload 4, .ireturn, .iinc 4 1, .goto 22, .sipush (-2), .ireturn]
def xm_p282 : List Nat := [0, 1, 2, 5, 6, 7, 9, 12, 15, 16, 17, 19, 22, 25, 26, 27, 29, 32, 35, 36, 37, 38, 40, 42, 43, 46, 47, 48, 49, 52, 54, 55, 57, 58, 61, 62, 65, 67, 68, 71, 74, 76]
def xm_i282 : xe_I := (⟨"NinthDayHoodedModel", "dark", "(III)I"⟩, prog_14_method_105_code, 5, (Option.some Jvm.ClassFile.FieldType.int), 12, 1, 3, 0, 0, xm_c282, xm_p282)
/-- NinthDayHoodedModel.comes(I)I -/
def xm_c283 : List Instr := [.aload 0, .sipush 0, .putfield 776, .aload 0, .getfield 769, .sipush 9, .if_icmp .ne 9, .sipush (-1), .ireturn, .iload 1, .sipush 1103515245, .imul, .sipush 12345, .iadd, .istore 2, .iload 2, .sipush 16, .iushr, .sipush 9, .irem, .istore 3, .iload 2, .sipush 1103515245, .imul, .sipush 12345, .iadd, .istore 2, .iload 2, .sipush 16, .iushr, .sipush 9, .irem, .istore 4, .iload 2, .sipush 1103515245, .imul, .sipush 12345, .iadd, .istore 2, .aload 0, .iload 3, .iload 4, .iload 2, .sipush 16, .iushr, .sipush 64, .irem, .invokevirtual 199, .aload 0, .getfield 769, .sipush 1, .isub, .ireturn]
def xm_p283 : List Nat := [0, 1, 2, 5, 6, 9, 11, 14, 15, 16, 17, 20, 21, 24, 25, 26, 27, 29, 30, 32, 33, 34, 35, 38, 39, 42, 43, 44, 45, 47, 48, 50, 51, 53, 54, 57, 58, 61, 62, 63, 64, 65, 67, 68, 70, 71, 73, 74, 77, 78, 81, 82, 83]
def xm_i283 : xe_I := (⟨"NinthDayHoodedModel", "comes", "(I)I"⟩, prog_14_method_106_code, 5, (Option.some Jvm.ClassFile.FieldType.int), 12, 1, 1, 0, 0, xm_c283, xm_p283)
/-- NinthDayHoodedModel.keep(I)Z -/
def xm_c284 : List Instr := [.aload 0, .sipush 0, .putfield 776, .iload 1, .sipush 0, .sipush 1, .invokestatic 180, .ifCond .ne 10, .sipush 0, .freturn, .aload 0, .getfield 827, .iload 1, .sipush 1, .bastore, .aload 0, .getfield 828, .iload 1, .aload 0, .getfield 825, .iastore, .aload 0, .getfield 768, .aload 0, .getfield 826, .sipush 353, .iload 1, .imul, .invokestatic 225, .sipush 1, .freturn]
def xm_p284 : List Nat := [0, 1, 2, 5, 6, 7, 8, 11, 14, 15, 16, 17, 20, 21, 22, 23, 24, 27, 28, 29, 32, 33, 34, 37, 38, 41, 44, 45, 46, 49, 50]
def xm_i284 : xe_I := (⟨"NinthDayHoodedModel", "keep", "(I)Z"⟩, prog_14_method_107_code, 2, (Option.some Jvm.ClassFile.FieldType.boolean), 12, 1, 1, 0, 0, xm_c284, xm_p284)
/-- NinthDayHoodedModel.again(I)Z -/
def xm_c285 : List Instr := [.aload 0, .sipush 0, .putfield 776, .iload 1, .sipush 0, .sipush 1, .invokestatic 180, .ifCond .eq 20, .aload 0, .getfield 827, .iload 1, .baload, .ifCond .eq 20, .aload 0, .getfield 828, .iload 1, .iaload, .aload 0, .getfield 825, .if_icmp .eq 22, .sipush 0, .freturn, .sipush 0, .istore 2, .iload 2, .sipush 353, .if_icmp .ge 41, .aload 0, .getfield 768, .iload 2, .aload 0, .getfield 826, .sipush 353, .iload 1, .imul, .iload 2, .iadd, .iaload, .iastore, .iinc 2 1, .goto 24, .aload 0, .sipush 0, .putfield 799, .sipush 1, .freturn]
def xm_p285 : List Nat := [0, 1, 2, 5, 6, 7, 8, 11, 14, 15, 18, 19, 20, 23, 24, 27, 28, 29, 30, 33, 36, 37, 38, 39, 40, 41, 44, 47, 48, 51, 52, 53, 56, 59, 60, 61, 62, 63, 64, 65, 68, 71, 72, 73, 76, 77]
def xm_i285 : xe_I := (⟨"NinthDayHoodedModel", "again", "(I)Z"⟩, prog_14_method_108_code, 3, (Option.some Jvm.ClassFile.FieldType.boolean), 12, 1, 1, 0, 0, xm_c285, xm_p285)
/-- NinthDayHoodedModel.count(I)I -/
def xm_c286 : List Instr := [.aload 0, .sipush 0, .putfield 776, .iload 1, .tableswitch 45 0 9 #[5, 8, 13, 22, 25, 28, 31, 36, 39, 42], .aload 0, .getfield 769, .ireturn, .aload 0, .getfield 768, .sipush 81, .iaload, .ireturn, .aload 0, .aload 0, .getfield 768, .aload 0, .getfield 768, .sipush 81, .iaload, .invokevirtual 217, .ireturn, .aload 0, .getfield 806, .ireturn, .aload 0, .getfield 814, .ireturn, .aload 0, .getfield 822, .ireturn, .aload 0, .getfield 768, .sipush 82, .iaload, .ireturn, .aload 0, .getfield 799, .ireturn, .aload 0, .getfield 775, .ireturn, .aload 0, .getfield 773, .ireturn, .sipush (-1), .ireturn]
def xm_p286 : List Nat := [0, 1, 2, 5, 6, 60, 61, 64, 65, 66, 69, 71, 72, 73, 74, 75, 78, 79, 82, 84, 85, 88, 89, 90, 93, 94, 95, 98, 99, 100, 103, 104, 105, 108, 110, 111, 112, 113, 116, 117, 118, 121, 122, 123, 126, 127, 128]
def xm_i286 : xe_I := (⟨"NinthDayHoodedModel", "count", "(I)I"⟩, prog_14_method_109_code, 2, (Option.some Jvm.ClassFile.FieldType.int), 12, 1, 1, 0, 0, xm_c286, xm_p286)
/-- NinthDayHoodedModel.row(I)I -/
def xm_c287 : List Instr := [.aload 0, .sipush 0, .putfield 776, .iload 1, .sipush 0, .aload 0, .getfield 775, .sipush 1, .isub, .invokestatic 180, .ifCond .eq 16, .aload 0, .getfield 774, .iload 1, .iaload, .goto 18, .aload 0, .invokevirtual 182, .ireturn]
def xm_p287 : List Nat := [0, 1, 2, 5, 6, 7, 8, 11, 12, 13, 16, 19, 20, 23, 24, 25, 28, 29, 32]
def xm_i287 : xe_I := (⟨"NinthDayHoodedModel", "row", "(I)I"⟩, prog_14_method_110_code, 2, (Option.some Jvm.ClassFile.FieldType.int), 12, 1, 1, 0, 0, xm_c287, xm_p287)
/-- NinthDayHoodedLaw.of(LNinthDayHooded;II[J)I -/
def xm_c288 : List Instr := [.aload 3, .sipush 0, .aload 0, .iload 1, .iload 2, .invokedynamic 108, .i2l, .lastore, .goto 12, .astore 4, .sipush 1, .ireturn, .sipush 0, .ireturn]
def xm_p288 : List Nat := [0, 1, 2, 3, 4, 5, 8, 9, 10, 13, 15, 16, 17, 18]
def xm_i288 : xe_I := (⟨"NinthDayHoodedLaw", "of", "(LNinthDayHooded;II[J)I"⟩, method_3_code, 5, (Option.some Jvm.ClassFile.FieldType.int), 99, 4, 4, 1, 6, xm_c288, xm_p288)
/-- NinthDayHoodedLaw.cost(LNinthDayHooded;II[J)I -/
def xm_c289 : List Instr := [.aload 3, .sipush 0, .aload 0, .iload 1, .iload 2, .invokedynamic 114, .i2l, .lastore, .goto 12, .astore 4, .sipush 1, .ireturn, .sipush 0, .ireturn]
def xm_p289 : List Nat := [0, 1, 2, 3, 4, 5, 8, 9, 10, 13, 15, 16, 17, 18]
def xm_i289 : xe_I := (⟨"NinthDayHoodedLaw", "cost", "(LNinthDayHooded;II[J)I"⟩, method_4_code, 5, (Option.some Jvm.ClassFile.FieldType.int), 99, 4, 4, 1, 6, xm_c289, xm_p289)
/-- NinthDayHoodedLaw.gain(LNinthDayHooded;II[J)I -/
def xm_c290 : List Instr := [.aload 3, .sipush 0, .aload 0, .iload 1, .iload 2, .invokedynamic 142, .i2l, .lastore, .goto 12, .astore 4, .sipush 1, .ireturn, .sipush 0, .ireturn]
def xm_p290 : List Nat := [0, 1, 2, 3, 4, 5, 8, 9, 10, 13, 15, 16, 17, 18]
def xm_i290 : xe_I := (⟨"NinthDayHoodedLaw", "gain", "(LNinthDayHooded;II[J)I"⟩, method_5_code, 5, (Option.some Jvm.ClassFile.FieldType.int), 99, 4, 4, 1, 6, xm_c290, xm_p290)
/-- NinthDayHoodedLaw.row(LNinthDayHooded;I[J)I -/
def xm_c291 : List Instr := [.aload 2, .sipush 0, .aload 0, .iload 1, .invokedynamic 169, .i2l, .lastore, .goto 11, .astore 3, .sipush 1, .ireturn, .sipush 0, .ireturn]
def xm_p291 : List Nat := [0, 1, 2, 3, 4, 7, 8, 9, 12, 13, 14, 15, 16]
def xm_i291 : xe_I := (⟨"NinthDayHoodedLaw", "row", "(LNinthDayHooded;I[J)I"⟩, method_6_code, 4, (Option.some Jvm.ClassFile.FieldType.int), 99, 4, 3, 1, 6, xm_c291, xm_p291)
/-- the law -/
def xm_law : List Instr := [.new 11, .dup, .invokespecial 97, .astore 1, .new 12, .dup, .invokespecial 178, .astore 2, .sipush 1, .newarray .long, .astore 3, .sipush 0, .istore 4, .iload 4, .aload 0, .arraylength, .sipush 5, .isub, .if_icmp .gt 1051, .aload 0, .iload 4, .iaload, .sipush 63, .iand, .tableswitch 1049 0 55 #[25, 42, 59, 66, 83, 100, 107, 152, 179, 206, 243, 290, 335, 352, 369, 376, 383, 400, 407, 414, 441, 458, 475, 502, 529, 536, 553, 560, 567, 574, 581, 598, 605, 650, 687, 724, 731, 738, 745, 752, 769, 796, 803, 810, 817, 824, 851, 858, 875, 882, 909, 946, 963, 980, 997, 1014], .aload 1, .aload 0, .iload 4, .sipush 1, .iadd, .iaload, .invokevirtual 98, .aload 2, .aload 0, .iload 4, .sipush 1, .iadd, .iaload, .invokevirtual 187, .if_icmp .eq 1049, .sipush 0, .freturn, .aload 1, .aload 0, .iload 4, .sipush 1, .iadd, .iaload, .invokevirtual 99, .aload 2, .aload 0, .iload 4, .sipush 1, .iadd, .iaload, .invokevirtual 188, .if_icmp .eq 1049, .sipush 0, .freturn, .aload 1, .invokevirtual 100, .aload 2, .invokevirtual 197, .if_icmp .eq 1049, .sipush 0, .freturn, .aload 1, .aload 0, .iload 4, .sipush 1, .iadd, .iaload, .invokevirtual 105, .aload 2, .aload 0, .iload 4, .sipush 1, .iadd, .iaload, .invokevirtual 201, .if_icmp .eq 1049, .sipush 0, .freturn, .aload 1, .aload 0, .iload 4, .sipush 1, .iadd, .iaload, .invokevirtual 106, .aload 2, .aload 0, .iload 4, .sipush 1, .iadd, .iaload, .invokevirtual 202, .if_icmp .eq 1049, .sipush 0, .freturn, .aload 1, .invokevirtual 107, .aload 2, .invokevirtual 209, .if_icmp .eq 1049, .sipush 0, .freturn, .aload 1, .aload 0, .iload 4, .sipush 1, .iadd, .iaload, .aload 0, .iload 4, .sipush 2, .iadd, .iaload, .aload 3, .invokestatic 288, .istore 5, .aload 2, .aload 0, .iload 4, .sipush 1, .iadd, .iaload, .aload 0, .iload 4, .sipush 2, .iadd, .iaload, .invokevirtual 211, .istore 6, .aload 2, .invokevirtual 179, .iload 5, .if_icmp .eq 140, .sipush 0, .freturn, .iload 5, .ifCond .ne 151, .aload 3, .sipush 0, .laload, .iload 6, .i2l, .lcmp, .ifCond .eq 151, .sipush 0, .freturn, .goto 1049, .aload 1, .aload 0, .iload 4, .sipush 1, .iadd, .iaload, .aload 0, .iload 4, .sipush 2, .iadd, .iaload, .invokevirtual 109, .aload 2, .aload 0, .iload 4, .sipush 1, .iadd, .iaload, .aload 0, .iload 4, .sipush 2, .iadd, .iaload, .invokevirtual 212, .if_icmp .eq 1049, .sipush 0, .freturn, .aload 1, .aload 0, .iload 4, .sipush 1, .iadd, .iaload, .aload 0, .iload 4, .sipush 2, .iadd, .iaload, .invokevirtual 110, .aload 2, .aload 0, .iload 4, .sipush 1, .iadd, .iaload, .aload 0, .iload 4, .sipush 2, .iadd, .iaload, .invokevirtual 213, .if_icmp .eq 1049, .sipush 0, .freturn, .aload 1, .aload 0, .iload 4, .sipush 1, .iadd, .iaload, .aload 0, .iload 4, .sipush 2, .iadd, .iaload, .aload 0, .iload 4, .sipush 3, .iadd, .iaload, .invokevirtual 111, .aload 2, .aload 0, .iload 4, .sipush 1, .iadd, .iaload, .aload 0, .iload 4, .sipush 2, .iadd, .iaload, .aload 0, .iload 4, .sipush 3, .iadd, .iaload, .invokevirtual 214, .if_icmp .eq 1049, .sipush 0, .freturn, .aload 1, .aload 0, .iload 4, .sipush 1, .iadd, .iaload, .aload 0, .iload 4, .sipush 2, .iadd, .iaload, .aload 0, .iload 4, .sipush 3, .iadd, .iaload, .aload 0, .iload 4, .sipush 4, .iadd, .iaload, .invokevirtual 112, .aload 2, .aload 0, .iload 4, .sipush 1, .iadd, .iaload, .aload 0, .iload 4, .sipush 2, .iadd, .iaload, .aload 0, .iload 4, .sipush 3, .iadd, .iaload, .aload 0, .iload 4, .sipush 4, .iadd, .iaload, .invokevirtual 215, .if_icmp .eq 1049, .sipush 0, .freturn, .aload 1, .aload 0, .iload 4, .sipush 1, .iadd, .iaload, .aload 0, .iload 4, .sipush 2, .iadd, .iaload, .aload 3, .invokestatic 289, .istore 5, .aload 2, .aload 0, .iload 4, .sipush 1, .iadd, .iaload, .aload 0, .iload 4, .sipush 2, .iadd, .iaload, .invokevirtual 216, .istore 6, .aload 2, .invokevirtual 179, .iload 5, .if_icmp .eq 323, .sipush 0, .freturn, .iload 5, .ifCond .ne 334, .aload 3, .sipush 0, .laload, .iload 6, .i2l, .lcmp, .ifCond .eq 334, .sipush 0, .freturn, .goto 1049, .aload 1, .aload 0, .iload 4, .sipush 1, .iadd, .iaload, .invokevirtual 115, .aload 2, .aload 0, .iload 4, .sipush 1, .iadd, .iaload, .invokevirtual 220, .if_icmp .eq 1049, .sipush 0, .freturn, .aload 1, .aload 0, .iload 4, .sipush 1, .iadd, .iaload, .invokevirtual 116, .aload 2, .aload 0, .iload 4, .sipush 1, .iadd, .iaload, .invokevirtual 221, .if_icmp .eq 1049, .sipush 0, .freturn, .aload 1, .invokevirtual 117, .aload 2, .invokevirtual 222, .if_icmp .eq 1049, .sipush 0, .freturn, .aload 1, .invokevirtual 118, .aload 2, .invokevirtual 227, .if_icmp .eq 1049, .sipush 0, .freturn, .aload 1, .aload 0, .iload 4, .sipush 1, .iadd, .iaload, .invokevirtual 119, .aload 2, .aload 0, .iload 4, .sipush 1, .iadd, .iaload, .invokevirtual 228, .if_icmp .eq 1049, .sipush 0, .freturn, .aload 1, .invokevirtual 121, .aload 2, .invokevirtual 229, .if_icmp .eq 1049, .sipush 0, .freturn, .aload 1, .invokevirtual 127, .aload 2, .invokevirtual 233, .if_icmp .eq 1049, .sipush 0, .freturn, .aload 1, .aload 0, .iload 4, .sipush 1, .iadd, .iaload, .aload 0, .iload 4, .sipush 2, .iadd, .iaload, .invokevirtual 128, .aload 2, .aload 0, .iload 4, .sipush 1, .iadd, .iaload, .aload 0, .iload 4, .sipush 2, .iadd, .iaload, .invokevirtual 235, .if_icmp .eq 1049, .sipush 0, .freturn, .aload 1, .aload 0, .iload 4, .sipush 1, .iadd, .iaload, .invokevirtual 129, .aload 2, .aload 0, .iload 4, .sipush 1, .iadd, .iaload, .invokevirtual 236, .if_icmp .eq 1049, .sipush 0, .freturn, .aload 1, .aload 0, .iload 4, .sipush 1, .iadd, .iaload, .invokevirtual 130, .aload 2, .aload 0, .iload 4, .sipush 1, .iadd, .iaload, .invokevirtual 237, .if_icmp .eq 1049, .sipush 0, .freturn, .aload 1, .aload 0, .iload 4, .sipush 1, .iadd, .iaload, .aload 0, .iload 4, .sipush 2, .iadd, .iaload, .invokevirtual 131, .aload 2, .aload 0, .iload 4, .sipush 1, .iadd, .iaload, .aload 0, .iload 4, .sipush 2, .iadd, .iaload, .invokevirtual 238, .if_icmp .eq 1049, .sipush 0, .freturn, .aload 1, .aload 0, .iload 4, .sipush 1, .iadd, .iaload, .aload 0, .iload 4, .sipush 2, .iadd, .iaload, .invokevirtual 132, .aload 2, .aload 0, .iload 4, .sipush 1, .iadd, .iaload, .aload 0, .iload 4, .sipush 2, .iadd, .iaload, .invokevirtual 239, .if_icmp .eq 1049, .sipush 0, .freturn, .aload 1, .invokevirtual 133, .aload 2, .invokevirtual 240, .if_icmp .eq 1049, .sipush 0, .freturn, .aload 1, .aload 0, .iload 4, .sipush 1, .iadd, .iaload, .invokevirtual 134, .aload 2, .aload 0, .iload 4, .sipush 1, .iadd, .iaload, .invokevirtual 245, .if_icmp .eq 1049, .sipush 0, .freturn, .aload 1, .invokevirtual 135, .aload 2, .invokevirtual 246, .if_icmp .eq 1049, .sipush 0, .freturn, .aload 1, .invokevirtual 136, .aload 2, .invokevirtual 247, .if_icmp .eq 1049, .sipush 0, .freturn, .aload 1, .invokevirtual 137, .aload 2, .invokevirtual 251, .if_icmp .eq 1049, .sipush 0, .freturn, .aload 1, .invokevirtual 138, .aload 2, .invokevirtual 252, .if_icmp .eq 1049, .sipush 0, .freturn, .aload 1, .aload 0, .iload 4, .sipush 1, .iadd, .iaload, .invokevirtual 140, .aload 2, .aload 0, .iload 4, .sipush 1, .iadd, .iaload, .invokevirtual 253, .if_icmp .eq 1049, .sipush 0, .freturn, .aload 1, .invokevirtual 141, .aload 2, .invokevirtual 254, .if_icmp .eq 1049, .sipush 0, .freturn, .aload 1, .aload 0, .iload 4, .sipush 1, .iadd, .iaload, .aload 0, .iload 4, .sipush 2, .iadd, .iaload, .aload 3, .invokestatic 290, .istore 5, .aload 2, .aload 0, .iload 4, .sipush 1, .iadd, .iaload, .aload 0, .iload 4, .sipush 2, .iadd, .iaload, .invokevirtual 255, .istore 6, .aload 2, .invokevirtual 179, .iload 5, .if_icmp .eq 638, .sipush 0, .freturn, .iload 5, .ifCond .ne 649, .aload 3, .sipush 0, .laload, .iload 6, .i2l, .lcmp, .ifCond .eq 649, .sipush 0, .freturn, .goto 1049, .aload 1, .aload 0, .iload 4, .sipush 1, .iadd, .iaload, .aload 0, .iload 4, .sipush 2, .iadd, .iaload, .aload 0, .iload 4, .sipush 3, .iadd, .iaload, .invokevirtual 143, .aload 2, .aload 0, .iload 4, .sipush 1, .iadd, .iaload, .aload 0, .iload 4, .sipush 2, .iadd, .iaload, .aload 0, .iload 4, .sipush 3, .iadd, .iaload, .invokevirtual 256, .if_icmp .eq 1049, .sipush 0, .freturn, .aload 1, .aload 0, .iload 4, .sipush 1, .iadd, .iaload, .aload 0, .iload 4, .sipush 2, .iadd, .iaload, .aload 0, .iload 4, .sipush 3, .iadd, .iaload, .invokevirtual 144, .aload 2, .aload 0, .iload 4, .sipush 1, .iadd, .iaload, .aload 0, .iload 4, .sipush 2, .iadd, .iaload, .aload 0, .iload 4, .sipush 3, .iadd, .iaload, .invokevirtual 257, .if_icmp .eq 1049, .sipush 0, .freturn, .aload 1, .invokevirtual 145, .aload 2, .invokevirtual 258, .if_icmp .eq 1049, .sipush 0, .freturn, .aload 1, .invokevirtual 146, .aload 2, .invokevirtual 260, .if_icmp .eq 1049, .sipush 0, .freturn, .aload 1, .invokevirtual 147, .aload 2, .invokevirtual 261, .if_icmp .eq 1049, .sipush 0, .freturn, .aload 1, .invokevirtual 148, .aload 2, .invokevirtual 263, .if_icmp .eq 1049, .sipush 0, .freturn, .aload 1, .aload 0, .iload 4, .sipush 1, .iadd, .iaload, .invokevirtual 149, .aload 2, .aload 0, .iload 4, .sipush 1, .iadd, .iaload, .invokevirtual 264, .if_icmp .eq 1049, .sipush 0, .freturn, .aload 1, .aload 0, .iload 4, .sipush 1, .iadd, .iaload, .aload 0, .iload 4, .sipush 2, .iadd, .iaload, .invokevirtual 151, .aload 2, .aload 0, .iload 4, .sipush 1, .iadd, .iaload, .aload 0, .iload 4, .sipush 2, .iadd, .iaload, .invokevirtual 265, .if_icmp .eq 1049, .sipush 0, .freturn, .aload 1, .invokevirtual 152, .aload 2, .invokevirtual 271, .if_icmp .eq 1049, .sipush 0, .freturn, .aload 1, .invokevirtual 153, .aload 2, .invokevirtual 272, .if_icmp .eq 1049, .sipush 0, .freturn, .aload 1, .invokevirtual 155, .aload 2, .invokevirtual 273, .if_icmp .eq 1049, .sipush 0, .freturn, .aload 1, .invokevirtual 156, .aload 2, .invokevirtual 274, .if_icmp .eq 1049, .sipush 0, .freturn, .aload 1, .aload 0, .iload 4, .sipush 1, .iadd, .iaload, .aload 0, .iload 4, .sipush 2, .iadd, .iaload, .invokevirtual 157, .aload 2, .aload 0, .iload 4, .sipush 1, .iadd, .iaload, .aload 0, .iload 4, .sipush 2, .iadd, .iaload, .invokevirtual 275, .if_icmp .eq 1049, .sipush 0, .freturn, .aload 1, .invokevirtual 158, .aload 2, .invokevirtual 276, .if_icmp .eq 1049, .sipush 0, .freturn, .aload 1, .aload 0, .iload 4, .sipush 1, .iadd, .iaload, .invokevirtual 159, .aload 2, .aload 0, .iload 4, .sipush 1, .iadd, .iaload, .invokevirtual 278, .if_icmp .eq 1049, .sipush 0, .freturn, .aload 1, .invokevirtual 160, .aload 2, .invokevirtual 279, .if_icmp .eq 1049, .sipush 0, .freturn, .aload 1, .aload 0, .iload 4, .sipush 1, .iadd, .iaload, .aload 0, .iload 4, .sipush 2, .iadd, .iaload, .invokevirtual 161, .aload 2, .aload 0, .iload 4, .sipush 1, .iadd, .iaload, .aload 0, .iload 4, .sipush 2, .iadd, .iaload, .invokevirtual 281, .if_icmp .eq 1049, .sipush 0, .freturn, .aload 1, .aload 0, .iload 4, .sipush 1, .iadd, .iaload, .aload 0, .iload 4, .sipush 2, .iadd, .iaload, .aload 0, .iload 4, .sipush 3, .iadd, .iaload, .invokevirtual 163, .aload 2, .aload 0, .iload 4, .sipush 1, .iadd, .iaload, .aload 0, .iload 4, .sipush 2, .iadd, .iaload, .aload 0, .iload 4, .sipush 3, .iadd, .iaload, .invokevirtual 282, .if_icmp .eq 1049, .sipush 0, .freturn, .aload 1, .aload 0, .iload 4, .sipush 1, .iadd, .iaload, .invokevirtual 164, .aload 2, .aload 0, .iload 4, .sipush 1, .iadd, .iaload, .invokevirtual 283, .if_icmp .eq 1049, .sipush 0, .freturn, .aload 1, .aload 0, .iload 4, .sipush 1, .iadd, .iaload, .invokevirtual 166, .aload 2, .aload 0, .iload 4, .sipush 1, .iadd, .iaload, .invokevirtual 284, .if_icmp .eq 1049, .sipush 0, .freturn, .aload 1, .aload 0, .iload 4, .sipush 1, .iadd, .iaload, .invokevirtual 167, .aload 2, .aload 0, .iload 4, .sipush 1, .iadd, .iaload, .invokevirtual 285, .if_icmp .eq 1049, .sipush 0, .freturn, .aload 1, .aload 0, .iload 4, .sipush 1, .iadd, .iaload, .invokevirtual 168, .aload 2, .aload 0, .iload 4, .sipush 1, .iadd, .iaload, .invokevirtual 286, .if_icmp .eq 1049, .sipush 0, .freturn, .aload 1, .aload 0, .iload 4, .sipush 1, .iadd, .iaload, .aload 3, .invokestatic 291, .istore 5, .aload 2, .aload 0, .iload 4, .sipush 1, .iadd, .iaload, .invokevirtual 287, .istore 6, .aload 2, .invokevirtual 179, .iload 5, .if_icmp .eq 1037, .sipush 0, .freturn, .iload 5, .ifCond .ne 1048, .aload 3, .sipush 0, .laload, .iload 6, .i2l, .lcmp, .ifCond .eq 1048, .sipush 0, .freturn, .goto 1049, .iinc 4 5, .goto 13, .sipush 1, .freturn]
def xm_lawp : List Nat := [0, 3, 4, 7, 8, 11, 12, 15, 16, 17, 19, 20, 21, 23, 25, 26, 27, 28, 29, 32, 33, 35, 36, 38, 39, 276, 277, 278, 280, 281, 282, 283, 286, 287, 288, 290, 291, 292, 293, 296, 299, 300, 301, 302, 303, 305, 306, 307, 308, 311, 312, 313, 315, 316, 317, 318, 321, 324, 325, 326, 327, 330, 331, 334, 337, 338, 339, 340, 341, 343, 344, 345, 346, 349, 350, 351, 353, 354, 355, 356, 359, 362, 363, 364, 365, 366, 368, 369, 370, 371, 374, 375, 376, 378, 379, 380, 381, 384, 387, 388, 389, 390, 393, 394, 397, 400, 401, 402, 403, 404, 406, 407, 408, 409, 410, 412, 413, 414, 415, 416, 419, 421, 422, 423, 425, 426, 427, 428, 429, 431, 432, 433, 434, 437, 439, 440, 443, 445, 448, 449, 450, 452, 455, 456, 457, 458, 460, 461, 462, 465, 466, 467, 470, 471, 472, 474, 475, 476, 477, 478, 480, 481, 482, 483, 486, 487, 488, 490, 491, 492, 493, 494, 496, 497, 498, 499, 502, 505, 506, 507, 508, 509, 511, 512, 513, 514, 515, 517, 518, 519, 520, 523, 524, 525, 527, 528, 529, 530, 531, 533, 534, 535, 536, 539, 542, 543, 544, 545, 546, 548, 549, 550, 551, 552, 554, 555, 556, 557, 558, 560, 561, 562, 563, 566, 567, 568, 570, 571, 572, 573, 574, 576, 577, 578, 579, 580, 582, 583, 584, 585, 588, 591, 592, 593, 594, 595, 597, 598, 599, 600, 601, 603, 604, 605, 606, 607, 609, 610, 611, 612, 613, 615, 616, 617, 618, 621, 622, 623, 625, 626, 627, 628, 629, 631, 632, 633, 634, 635, 637, 638, 639, 640, 641, 643, 644, 645, 646, 649, 652, 653, 654, 655, 656, 658, 659, 660, 661, 662, 664, 665, 666, 667, 668, 671, 673, 674, 675, 677, 678, 679, 680, 681, 683, 684, 685, 686, 689, 691, 692, 695, 697, 700, 701, 702, 704, 707, 708, 709, 710, 712, 713, 714, 717, 718, 719, 722, 723, 724, 726, 727, 728, 729, 732, 733, 734, 736, 737, 738, 739, 742, 745, 746, 747, 748, 749, 751, 752, 753, 754, 757, 758, 759, 761, 762, 763, 764, 767, 770, 771, 772, 773, 776, 777, 780, 783, 784, 785, 786, 789, 790, 793, 796, 797, 798, 799, 800, 802, 803, 804, 805, 808, 809, 810, 812, 813, 814, 815, 818, 821, 822, 823, 824, 827, 828, 831, 834, 835, 836, 837, 840, 841, 844, 847, 848, 849, 850, 851, 853, 854, 855, 856, 857, 859, 860, 861, 862, 865, 866, 867, 869, 870, 871, 872, 873, 875, 876, 877, 878, 881, 884, 885, 886, 887, 888, 890, 891, 892, 893, 896, 897, 898, 900, 901, 902, 903, 906, 909, 910, 911, 912, 913, 915, 916, 917, 918, 921, 922, 923, 925, 926, 927, 928, 931, 934, 935, 936, 937, 938, 940, 941, 942, 943, 944, 946, 947, 948, 949, 952, 953, 954, 956, 957, 958, 959, 960, 962, 963, 964, 965, 968, 971, 972, 973, 974, 975, 977, 978, 979, 980, 981, 983, 984, 985, 986, 989, 990, 991, 993, 994, 995, 996, 997, 999, 1000, 1001, 1002, 1005, 1008, 1009, 1010, 1011, 1014, 1015, 1018, 1021, 1022, 1023, 1024, 1025, 1027, 1028, 1029, 1030, 1033, 1034, 1035, 1037, 1038, 1039, 1040, 1043, 1046, 1047, 1048, 1049, 1052, 1053, 1056, 1059, 1060, 1061, 1062, 1065, 1066, 1069, 1072, 1073, 1074, 1075, 1078, 1079, 1082, 1085, 1086, 1087, 1088, 1091, 1092, 1095, 1098, 1099, 1100, 1101, 1102, 1104, 1105, 1106, 1107, 1110, 1111, 1112, 1114, 1115, 1116, 1117, 1120, 1123, 1124, 1125, 1126, 1129, 1130, 1133, 1136, 1137, 1138, 1139, 1140, 1142, 1143, 1144, 1145, 1146, 1148, 1149, 1150, 1151, 1152, 1155, 1157, 1158, 1159, 1161, 1162, 1163, 1164, 1165, 1167, 1168, 1169, 1170, 1173, 1175, 1176, 1179, 1181, 1184, 1185, 1186, 1188, 1191, 1192, 1193, 1194, 1196, 1197, 1198, 1201, 1202, 1203, 1206, 1207, 1208, 1210, 1211, 1212, 1213, 1214, 1216, 1217, 1218, 1219, 1220, 1222, 1223, 1224, 1225, 1228, 1229, 1230, 1232, 1233, 1234, 1235, 1236, 1238, 1239, 1240, 1241, 1242, 1244, 1245, 1246, 1247, 1250, 1253, 1254, 1255, 1256, 1257, 1259, 1260, 1261, 1262, 1263, 1265, 1266, 1267, 1268, 1269, 1271, 1272, 1273, 1274, 1277, 1278, 1279, 1281, 1282, 1283, 1284, 1285, 1287, 1288, 1289, 1290, 1291, 1293, 1294, 1295, 1296, 1299, 1302, 1303, 1304, 1305, 1308, 1309, 1312, 1315, 1316, 1317, 1318, 1321, 1322, 1325, 1328, 1329, 1330, 1331, 1334, 1335, 1338, 1341, 1342, 1343, 1344, 1347, 1348, 1351, 1354, 1355, 1356, 1357, 1358, 1360, 1361, 1362, 1363, 1366, 1367, 1368, 1370, 1371, 1372, 1373, 1376, 1379, 1380, 1381, 1382, 1383, 1385, 1386, 1387, 1388, 1389, 1391, 1392, 1393, 1394, 1397, 1398, 1399, 1401, 1402, 1403, 1404, 1405, 1407, 1408, 1409, 1410, 1413, 1416, 1417, 1418, 1419, 1422, 1423, 1426, 1429, 1430, 1431, 1432, 1435, 1436, 1439, 1442, 1443, 1444, 1445, 1448, 1449, 1452, 1455, 1456, 1457, 1458, 1461, 1462, 1465, 1468, 1469, 1470, 1471, 1472, 1474, 1475, 1476, 1477, 1478, 1480, 1481, 1482, 1483, 1486, 1487, 1488, 1490, 1491, 1492, 1493, 1494, 1496, 1497, 1498, 1499, 1502, 1505, 1506, 1507, 1508, 1511, 1512, 1515, 1518, 1519, 1520, 1521, 1522, 1524, 1525, 1526, 1527, 1530, 1531, 1532, 1534, 1535, 1536, 1537, 1540, 1543, 1544, 1545, 1546, 1549, 1550, 1553, 1556, 1557, 1558, 1559, 1560, 1562, 1563, 1564, 1565, 1566, 1568, 1569, 1570, 1571, 1574, 1575, 1576, 1578, 1579, 1580, 1581, 1582, 1584, 1585, 1586, 1587, 1590, 1593, 1594, 1595, 1596, 1597, 1599, 1600, 1601, 1602, 1603, 1605, 1606, 1607, 1608, 1609, 1611, 1612, 1613, 1614, 1617, 1618, 1619, 1621, 1622, 1623, 1624, 1625, 1627, 1628, 1629, 1630, 1631, 1633, 1634, 1635, 1636, 1639, 1642, 1643, 1644, 1645, 1646, 1648, 1649, 1650, 1651, 1654, 1655, 1656, 1658, 1659, 1660, 1661, 1664, 1667, 1668, 1669, 1670, 1671, 1673, 1674, 1675, 1676, 1679, 1680, 1681, 1683, 1684, 1685, 1686, 1689, 1692, 1693, 1694, 1695, 1696, 1698, 1699, 1700, 1701, 1704, 1705, 1706, 1708, 1709, 1710, 1711, 1714, 1717, 1718, 1719, 1720, 1721, 1723, 1724, 1725, 1726, 1729, 1730, 1731, 1733, 1734, 1735, 1736, 1739, 1742, 1743, 1744, 1745, 1746, 1748, 1749, 1750, 1751, 1752, 1755, 1757, 1758, 1759, 1761, 1762, 1763, 1764, 1767, 1769, 1770, 1773, 1775, 1778, 1779, 1780, 1782, 1785, 1786, 1787, 1788, 1790, 1791, 1792, 1795, 1796, 1797, 1800, 1803, 1806, 1807]
def xm_T : List xe_I := [xm_i0, xm_i1, xm_i2, xm_i3, xm_i4, xm_i5, xm_i6, xm_i7, xm_i8, xm_i9, xm_i10, xm_i11, xm_i12, xm_i13, xm_i14, xm_i15, xm_i16, xm_i17, xm_i18, xm_i19, xm_i20, xm_i21, xm_i22, xm_i23, xm_i24, xm_i25, xm_i26, xm_i27, xm_i28, xm_i29, xm_i30, xm_i31, xm_i32, xm_i33, xm_i34, xm_i35, xm_i36, xm_i37, xm_i38, xm_i39, xm_i40, xm_i41, xm_i42, xm_i43, xm_i44, xm_i45, xm_i46, xm_i47, xm_i48, xm_i49, xm_i50, xm_i51, xm_i52, xm_i53, xm_i54, xm_i55, xm_i56, xm_i57, xm_i58, xm_i59, xm_i60, xm_i61, xm_i62, xm_i63, xm_i64, xm_i65, xm_i66, xm_i67, xm_i68, xm_i69, xm_i70, xm_i71, xm_i72, xm_i73, xm_i74, xm_i75, xm_i76, xm_i77, xm_i78, xm_i79, xm_i80, xm_i81, xm_i82, xm_i83, xm_i84, xm_i85, xm_i86, xm_i87, xm_i88, xm_i89, xm_i90, xm_i91, xm_i92, xm_i93, xm_i94, xm_i95, xm_i96, xm_i97, xm_i98, xm_i99, xm_i100, xm_i101, xm_i102, xm_i103, xm_i104, xm_i105, xm_i106, xm_i107, xm_i108, xm_i109, xm_i110, xm_i111, xm_i112, xm_i113, xm_i114, xm_i115, xm_i116, xm_i117, xm_i118, xm_i119, xm_i120, xm_i121, xm_i122, xm_i123, xm_i124, xm_i125, xm_i126, xm_i127, xm_i128, xm_i129, xm_i130, xm_i131, xm_i132, xm_i133, xm_i134, xm_i135, xm_i136, xm_i137, xm_i138, xm_i139, xm_i140, xm_i141, xm_i142, xm_i143, xm_i144, xm_i145, xm_i146, xm_i147, xm_i148, xm_i149, xm_i150, xm_i151, xm_i152, xm_i153, xm_i154, xm_i155, xm_i156, xm_i157, xm_i158, xm_i159, xm_i160, xm_i161, xm_i162, xm_i163, xm_i164, xm_i165, xm_i166, xm_i167, xm_i168, xm_i169, xm_i170, xm_i171, xm_i172, xm_i173, xm_i174, xm_i175, xm_i176, xm_i177, xm_i178, xm_i179, xm_i180, xm_i181, xm_i182, xm_i183, xm_i184, xm_i185, xm_i186, xm_i187, xm_i188, xm_i189, xm_i190, xm_i191, xm_i192, xm_i193, xm_i194, xm_i195, xm_i196, xm_i197, xm_i198, xm_i199, xm_i200, xm_i201, xm_i202, xm_i203, xm_i204, xm_i205, xm_i206, xm_i207, xm_i208, xm_i209, xm_i210, xm_i211, xm_i212, xm_i213, xm_i214, xm_i215, xm_i216, xm_i217, xm_i218, xm_i219, xm_i220, xm_i221, xm_i222, xm_i223, xm_i224, xm_i225, xm_i226, xm_i227, xm_i228, xm_i229, xm_i230, xm_i231, xm_i232, xm_i233, xm_i234, xm_i235, xm_i236, xm_i237, xm_i238, xm_i239, xm_i240, xm_i241, xm_i242, xm_i243, xm_i244, xm_i245, xm_i246, xm_i247, xm_i248, xm_i249, xm_i250, xm_i251, xm_i252, xm_i253, xm_i254, xm_i255, xm_i256, xm_i257, xm_i258, xm_i259, xm_i260, xm_i261, xm_i262, xm_i263, xm_i264, xm_i265, xm_i266, xm_i267, xm_i268, xm_i269, xm_i270, xm_i271, xm_i272, xm_i273, xm_i274, xm_i275, xm_i276, xm_i277, xm_i278, xm_i279, xm_i280, xm_i281, xm_i282, xm_i283, xm_i284, xm_i285, xm_i286, xm_i287, xm_i288, xm_i289, xm_i290, xm_i291]
end
section
/-! LINKS, by their places in the tables: by program. -/
def xm_w (j : Nat) (w : Cond) : Bool := decide (lw_tbl[j]? = some w)
theorem xm_w_good {j : Nat} {w : Cond} (h : xm_w j w = true) (hg : goodWord w = true) : w ∈ xe_good := List.mem_filter.mpr ⟨List.mem_of_getElem? (of_decide_eq_true h), hg⟩
theorem xm_w_nest {j : Nat} {w : Cond} (h : xm_w j w = true) (hg : xe_isN w = true) (hs : ∀ a b c, w ≠ .selects a b c) : w ∈ xe_nest := by
  have h1 := List.mem_of_getElem? (of_decide_eq_true h)
  rcases List.mem_append.mp h1 with h2 | h2
  · obtain ⟨q, -, hq⟩ := List.mem_map.mp h2
    exact absurd hq.symm (hs _ _ _)
  · exact List.mem_filter.mpr ⟨h2, hg⟩
/-- fields: (entry, class, place in it, place in the tables) -/
def xm_ckF (own : String) (q : Nat × Nat × Nat × Nat) : Bool := match xe_cl[q.2.1]? with
  | none => false
  | some r => decide (q.2.2.1 < r.2.2) && decide ((r.2.1 q.2.2.1).1 = r.1) && (xm_w q.2.2.2 (.fieldLink own q.1 r.1 (r.2.1 q.2.2.1).2.1 (r.2.1 q.2.2.1).2.2.1) || xm_w q.2.2.2 (.fieldLinkNest own q.1 r.1 (r.2.1 q.2.2.1).2.1 (r.2.1 q.2.2.1).2.2.1 "NinthDayHooded"))
def xm_ckM (own : String) (T : List xe_I) (q : Nat × Nat × Nat) : Bool := match T[q.2.1]? with
  | none => false
  | some f => xm_w q.2.2 (.methodLink own q.1 (xe_iy f)) || xm_w q.2.2 (.methodLinkNest own q.1 (xe_iy f) "NinthDayHooded")
def xm_ckC (own : String) (q : Nat × Nat × Nat × Nat × Nat) : Bool := match xe_cl[q.2.1]? with
  | none => false
  | some r => xm_w q.2.2.1 (.classLink own q.1 r.1) && xm_w q.2.2.2.1 (.instantiable r.1 r.2.2) && xm_w q.2.2.2.2 (.initialized r.1)
abbrev xm_L : Type := List (Nat × Nat × Nat × Nat) × List (Nat × Nat × Nat) × List (Nat × Int × Nat) × List (Nat × Nat × Nat × Nat × Nat) × List (Nat × Nat) × List (Nat × Nat)
def xm_cp (L : xm_L) : xe_cp := (L.1.map (fun q => (q.1, q.2.1, q.2.2.1)), L.2.1.map (fun q => (q.1, q.2.1)), L.2.2.1.map (fun q => (q.1, q.2.1)), L.2.2.2.1.map (fun q => (q.1, q.2.1)), L.2.2.2.2.1.map (fun q => q.1), L.2.2.2.2.2.map (fun q => q.1))
def xm_ckL (own : String) (T : List xe_I) (L : xm_L) : Bool := L.1.all (xm_ckF own) && L.2.1.all (xm_ckM own T) && L.2.2.1.all (fun q => xm_w q.2.2 (.constant own q.1 (Int32.ofInt q.2.1))) && L.2.2.2.1.all (xm_ckC own) && L.2.2.2.2.1.all (fun q => xm_w q.2 (.methodLink own q.1 arraycopyName)) && L.2.2.2.2.2.all (fun q => xm_w q.2 (.methodLink own q.1 objectInit))

theorem xm_u0 : (u_ws RX0 TX0 9 = [363, 365, 367, 369, 371, 373, 375, 377, 379].filterMap (fun i => lw_tbl[i]?)) ∧ (u_ws RX0 TX0 9).all goodWord = true := by decide +kernel
theorem xm_u1 : (u_ws RX1 TX1 5 = [281, 283, 285, 287, 289].filterMap (fun i => lw_tbl[i]?)) ∧ (u_ws RX1 TX1 5).all goodWord = true := by decide +kernel
theorem xm_u2 : (u_ws RX2 TX2 5 = [216, 218, 220, 222, 224].filterMap (fun i => lw_tbl[i]?)) ∧ (u_ws RX2 TX2 5).all goodWord = true := by decide +kernel
theorem xm_u3 : (u_ws RX3 TX3 2 = [190, 192].filterMap (fun i => lw_tbl[i]?)) ∧ (u_ws RX3 TX3 2).all goodWord = true := by decide +kernel
theorem xm_u4 : (u_ws RX4 TX4 12 = [310, 312, 314, 316, 318, 320, 322, 324, 326, 328, 330, 332].filterMap (fun i => lw_tbl[i]?)) ∧ (u_ws RX4 TX4 12).all goodWord = true := by decide +kernel
theorem xm_u5 : (u_ws RX5 TX5 6 = [250, 252, 254, 256, 258, 260].filterMap (fun i => lw_tbl[i]?)) ∧ (u_ws RX5 TX5 6).all goodWord = true := by decide +kernel
theorem xm_u6 : (u_ws RX6 TX6 11 = [424, 426, 428, 430, 432, 434, 436, 438, 440, 442, 444].filterMap (fun i => lw_tbl[i]?)) ∧ (u_ws RX6 TX6 11).all goodWord = true := by decide +kernel
theorem xm_u7 : (u_ws RX7 TX7 2 = [174, 176].filterMap (fun i => lw_tbl[i]?)) ∧ (u_ws RX7 TX7 2).all goodWord = true := by decide +kernel
theorem xm_u8 : (u_ws RX8 TX8 4 = [485, 487, 489, 491].filterMap (fun i => lw_tbl[i]?)) ∧ (u_ws RX8 TX8 4).all goodWord = true := by decide +kernel
theorem xm_u9 : (u_ws RX9 TX9 5 = [392, 394, 396, 398, 400].filterMap (fun i => lw_tbl[i]?)) ∧ (u_ws RX9 TX9 5).all goodWord = true := by decide +kernel
theorem xm_u10 : (u_ws RX10 TX10 6 = [461, 463, 465, 467, 469, 471].filterMap (fun i => lw_tbl[i]?)) ∧ (u_ws RX10 TX10 6).all goodWord = true := by decide +kernel
theorem xm_u11 : (u_ws RX11 TX11 11 = [505, 507, 509, 511, 513, 515, 517, 519, 521, 523, 525].filterMap (fun i => lw_tbl[i]?)) ∧ (u_ws RX11 TX11 11).all goodWord = true := by decide +kernel
theorem xm_u12 : (u_ws RX12 TX12 61 = [1353, 1355, 1357, 1359, 1361, 1363, 1365, 1367, 1369, 1371, 1373, 1375, 1377, 1379, 1381, 1383, 1385, 1387, 1389, 1391, 1393, 1395, 1397, 1399, 1401, 1403, 1405, 1407, 1409, 1411, 1413, 1415, 1417, 1419, 1421, 1423, 1425, 1427, 1429, 1431, 1433, 1435, 1437, 1439, 1441, 1443, 1445, 1447, 1449, 1451, 1453, 1455, 1457, 1459, 1461, 1463, 1465, 1467, 1469, 1471, 1473].filterMap (fun i => lw_tbl[i]?)) ∧ (u_ws RX12 TX12 61).all goodWord = true := by decide +kernel
theorem xm_uof {ws : List Cond} {ps : List Nat} (h : (ws = ps.filterMap (fun i => lw_tbl[i]?)) ∧ ws.all goodWord = true) : ∀ w ∈ ws, w ∈ xe_good := by
  intro w hw
  have h2 := List.all_eq_true.mp h.2 w hw
  rw [h.1] at hw
  obtain ⟨i, -, hi⟩ := List.mem_filterMap.mp hw
  exact List.mem_filter.mpr ⟨List.mem_of_getElem? hi, h2⟩
theorem xm_u : ∀ (ci : Nat) (r : vw_C), xe_cl[ci]? = some r → ∀ w ∈ u_ws r.1 r.2.1 r.2.2, w ∈ xe_good := by
  intro ci r h
  match ci, h with
  | 0, h => cases h; exact xm_uof xm_u0
  | 1, h => cases h; exact xm_uof xm_u1
  | 2, h => cases h; exact xm_uof xm_u2
  | 3, h => cases h; exact xm_uof xm_u3
  | 4, h => cases h; exact xm_uof xm_u4
  | 5, h => cases h; exact xm_uof xm_u5
  | 6, h => cases h; exact xm_uof xm_u6
  | 7, h => cases h; exact xm_uof xm_u7
  | 8, h => cases h; exact xm_uof xm_u8
  | 9, h => cases h; exact xm_uof xm_u9
  | 10, h => cases h; exact xm_uof xm_u10
  | 11, h => cases h; exact xm_uof xm_u11
  | 12, h => cases h; exact xm_uof xm_u12
  | n + 13, h => simp [xe_cl] at h
theorem xm_cpok {own : String} {T : List xe_I} {L : xm_L} (h : xm_ckL own T L = true) : xe_cpok own T (xm_cp L) := by
  simp only [xm_ckL, Bool.and_eq_true, List.all_eq_true] at h
  obtain ⟨⟨⟨⟨⟨h1, h2⟩, h3⟩, h4⟩, h5⟩, h6⟩ := h
  refine ⟨fun q hq => ?_, fun q hq inf hT => ?_, fun q hq => ?_, fun q hq => ?_, fun q hq => ?_, fun q hq => ?_⟩
  · obtain ⟨x, hx, rfl⟩ := List.mem_map.mp hq
    have hk := h1 x hx
    unfold xm_ckF at hk
    split at hk
    · cases hk
    · rename_i r hr
      simp only [Bool.and_eq_true, Bool.or_eq_true, decide_eq_true_eq] at hk
      refine ⟨r, hr, hk.1.1, hk.1.2, xm_u _ r hr, ?_⟩
      rcases hk.2 with q | q
      · exact Or.inl (xm_w_good q rfl)
      · exact Or.inr ⟨_, xm_w_nest q rfl (fun _ _ _ h => by cases h)⟩
  · obtain ⟨x, hx, rfl⟩ := List.mem_map.mp hq
    have hk := h2 x hx
    unfold xm_ckM at hk
    rw [show T[x.2.1]? = some inf from hT] at hk
    simp only [Bool.or_eq_true] at hk
    rcases hk with q | q
    · exact Or.inl (xm_w_good q rfl)
    · exact Or.inr ⟨_, xm_w_nest q rfl (fun _ _ _ h => by cases h)⟩
  · obtain ⟨x, hx, rfl⟩ := List.mem_map.mp hq
    exact xm_w_good (h3 x hx) rfl
  · obtain ⟨x, hx, rfl⟩ := List.mem_map.mp hq
    have hk := h4 x hx
    unfold xm_ckC at hk
    split at hk
    · cases hk
    · rename_i r hr
      simp only [Bool.and_eq_true] at hk
      exact ⟨r, hr, xm_u _ r hr, xm_w_good hk.1.1 rfl, xm_w_good hk.1.2 rfl, xm_w_good hk.2 rfl⟩
  · obtain ⟨x, hx, rfl⟩ := List.mem_map.mp hq
    exact xm_w_good (h5 x hx) rfl
  · obtain ⟨x, hx, rfl⟩ := List.mem_map.mp hq
    exact xm_w_good (h6 x hx) rfl

def xm_L0 : xm_L := ([], [], [(265, 1431655765, 721), (266, 858993459, 722), (267, 252645135, 723), (264, 65536, 1669)], [], [], [])
theorem xm_K0 : xm_ckL "java/lang/Integer" xm_T xm_L0 = true := by decide +kernel
def xm_L1 : xm_L := ([(9, 0, 0, 348), (15, 0, 1, 350), (18, 0, 2, 353), (21, 0, 3, 354), (24, 0, 4, 355), (27, 0, 5, 356), (30, 0, 6, 357), (34, 0, 7, 360), (37, 0, 8, 361), (40, 2, 4, 212), (43, 5, 0, 234), (60, 2, 0, 202)], [(48, 9, 704), (52, 10, 732), (56, 11, 736), (63, 46, 708), (69, 47, 724)], [], [], [(73, 740)], [(3, 347)])
theorem xm_K1 : xm_ckL "NinthDayHooded$Guides" xm_T xm_L1 = true := by decide +kernel
def xm_L2 : xm_L := ([(13, 1, 0, 273), (17, 1, 1, 274), (20, 1, 2, 276), (24, 1, 3, 278), (28, 1, 4, 279)], [(31, 49, 272), (32, 50, 789), (36, 5, 794)], [], [(11, 5, 270, 228, 139)], [], [(3, 269)])
theorem xm_K2 : xm_ckL "NinthDayHooded$Past" xm_T xm_L2 = true := by decide +kernel
def xm_L3 : xm_L := ([(9, 2, 0, 201), (15, 2, 1, 206), (18, 2, 2, 208), (21, 2, 3, 210), (24, 2, 4, 211)], [(28, 21, 670), (32, 25, 1078), (36, 27, 1082), (39, 26, 1086), (43, 23, 1114), (47, 0, 1118), (53, 4, 1119)], [], [], [], [(3, 200)])
theorem xm_K3 : xm_ckL "NinthDayHooded$People" xm_T xm_L3 = true := by decide +kernel
def xm_L4 : xm_L := ([(9, 3, 0, 186), (13, 3, 1, 188)], [], [], [], [], [(1, 185)])
theorem xm_K4 : xm_ckL "NinthDayHooded$Row" xm_T xm_L4 = true := by decide +kernel
def xm_L5 : xm_L := ([(11, 4, 0, 298), (15, 4, 1, 299), (18, 4, 2, 300), (21, 4, 3, 301), (24, 4, 4, 302), (27, 4, 5, 303), (31, 4, 6, 304), (35, 4, 7, 305), (38, 4, 8, 306), (41, 4, 9, 307), (44, 4, 10, 308), (47, 4, 11, 309), (54, 7, 1, 172), (111, 2, 0, 205), (116, 5, 1, 240), (124, 5, 2, 243)], [(51, 35, 612), (59, 5, 616), (65, 75, 617), (69, 36, 618), (73, 38, 637), (76, 43, 649), (86, 42, 622), (89, 37, 626), (93, 41, 630), (96, 45, 634), (99, 39, 641), (102, 40, 645), (105, 44, 653), (108, 4, 656), (121, 177, 712), (127, 0, 718), (132, 176, 728), (135, 48, 729)], [], [], [(80, 659)], [(3, 297)])
theorem xm_K5 : xm_ckL "NinthDayHooded$Rule" xm_T xm_L5 = true := by decide +kernel
def xm_L6 : xm_L := ([(9, 5, 0, 233), (15, 5, 1, 237), (18, 5, 2, 241), (21, 5, 3, 244), (24, 5, 4, 246), (28, 5, 5, 247)], [(38, 177, 1002), (42, 54, 1262), (46, 5, 884), (51, 3, 873)], [], [], [(32, 793)], [(3, 232)])
theorem xm_K6 : xm_ckL "NinthDayHooded$State" xm_T xm_L6 = true := by decide +kernel
def xm_L7 : xm_L := ([(11, 6, 0, 409), (15, 6, 1, 410), (18, 6, 2, 411), (21, 6, 3, 412), (24, 6, 4, 413), (27, 6, 5, 414), (30, 6, 6, 415), (33, 6, 7, 417), (36, 6, 8, 419), (40, 6, 9, 421), (43, 6, 10, 423), (94, 5, 0, 236)], [(46, 51, 921), (52, 6, 922), (58, 54, 923), (62, 66, 933), (65, 0, 937), (71, 4, 938), (76, 64, 947), (79, 65, 948), (82, 63, 961), (86, 71, 962), (90, 68, 966), (97, 69, 970)], [], [], [], [(3, 408)])
theorem xm_K7 : xm_ckL "NinthDayHooded$Tasks" xm_T xm_L7 = true := by decide +kernel
def xm_L8 : xm_L := ([(11, 7, 0, 170), (15, 7, 1, 171)], [(19, 75, 570), (23, 76, 599)], [], [], [], [(3, 169)])
theorem xm_K8 : xm_ckL "NinthDayHooded$Text" xm_T xm_L8 = true := by decide +kernel
def xm_L9 : xm_L := ([(11, 8, 0, 480), (15, 8, 1, 481), (18, 8, 2, 482), (21, 8, 3, 483), (25, 2, 4, 213), (34, 5, 1, 238), (41, 2, 0, 203)], [(28, 51, 1140), (37, 52, 1141), (44, 81, 1151), (48, 23, 1152), (52, 0, 1153), (58, 83, 1154)], [], [], [], [(3, 479)])
theorem xm_K9 : xm_ckL "NinthDayHooded$Thefts" xm_T xm_L9 = true := by decide +kernel
def xm_L10 : xm_L := ([(12, 9, 0, 382), (18, 9, 1, 384), (22, 9, 2, 386), (26, 9, 3, 388), (29, 9, 4, 390), (38, 5, 5, 248), (47, 2, 4, 214), (63, 0, 6, 358), (64, 0, 0, 349), (67, 0, 1, 351)], [(11, 7, 344), (32, 6, 799), (43, 8, 806), (52, 59, 807), (56, 87, 811), (60, 13, 823), (70, 60, 815), (74, 56, 819)], [], [(9, 0, 342, 343, 143)], [], [(3, 341)])
theorem xm_K10 : xm_ckL "NinthDayHooded$Walk" xm_T xm_L10 = true := by decide +kernel
def xm_L11 : xm_L := ([(11, 10, 0, 453), (15, 10, 1, 454), (18, 10, 2, 455), (21, 10, 3, 456), (24, 10, 4, 458), (27, 10, 5, 459)], [(31, 91, 1023), (35, 93, 1040), (39, 95, 1048), (43, 5, 1052), (49, 96, 1053), (53, 4, 1057)], [], [], [], [(3, 452)])
theorem xm_K11 : xm_ckL "NinthDayHooded$Wishes" xm_T xm_L11 = true := by decide +kernel
def xm_L12 : xm_L := ([(10, 11, 0, 494), (19, 11, 1, 495), (26, 11, 2, 496), (33, 11, 3, 497), (37, 11, 4, 498), (43, 11, 5, 499), (50, 11, 6, 500), (57, 11, 7, 501), (64, 11, 8, 502), (71, 11, 9, 503), (78, 11, 10, 504), (90, 7, 1, 173), (101, 2, 4, 215), (133, 5, 0, 235), (137, 5, 1, 239), (140, 5, 2, 242), (149, 2, 0, 204), (152, 2, 1, 207), (162, 5, 5, 249), (175, 5, 3, 245), (194, 9, 0, 383), (214, 0, 6, 359), (215, 0, 1, 352), (227, 0, 8, 362), (243, 9, 3, 389), (245, 9, 4, 391), (248, 9, 2, 387), (280, 1, 4, 280), (292, 9, 1, 385), (298, 6, 8, 420), (329, 6, 6, 416), (332, 6, 7, 418), (338, 6, 9, 422), (351, 10, 5, 460), (364, 10, 3, 457), (380, 2, 2, 209), (386, 8, 3, 484), (406, 1, 1, 275), (410, 1, 2, 277), (413, 3, 1, 189), (416, 3, 0, 187)], [(9, 72, 166), (18, 30, 182), (25, 20, 197), (32, 49, 229), (42, 16, 266), (49, 33, 294), (56, 84, 338), (63, 61, 405), (70, 88, 449), (77, 79, 476), (82, 73, 532), (86, 74, 536), (94, 101, 548), (98, 102, 562), (104, 5, 552), (110, 75, 555), (114, 170, 559), (117, 77, 566), (120, 76, 571), (123, 103, 575), (126, 104, 579), (130, 19, 583), (143, 21, 591), (146, 78, 595), (155, 34, 608), (165, 55, 1258), (168, 22, 666), (172, 172, 675), (178, 113, 686), (181, 176, 689), (184, 46, 1270), (188, 47, 1271), (191, 175, 697), (198, 8, 700), (204, 31, 741), (207, 13, 745), (208, 32, 749), (211, 51, 753), (218, 12, 757), (221, 15, 765), (224, 14, 769), (230, 120, 781), (233, 17, 785), (237, 85, 795), (240, 86, 802), (251, 122, 832), (254, 125, 845), (257, 126, 849), (260, 123, 836), (263, 124, 839), (266, 171, 842), (269, 53, 853), (273, 4, 692), (276, 18, 861), (283, 58, 869), (286, 57, 880), (289, 50, 889), (295, 54, 894), (299, 62, 902), (301, 173, 914), (304, 63, 917), (308, 64, 924), (311, 0, 928), (316, 65, 929), (319, 67, 943), (322, 70, 957), (326, 139, 974), (335, 66, 986), (341, 69, 1031), (344, 174, 995), (347, 52, 998), (352, 89, 1007), (354, 90, 1019), (358, 92, 1036), (361, 94, 1044), (367, 150, 1062), (370, 24, 1074), (373, 154, 1090), (376, 28, 1098), (383, 29, 1110), (387, 80, 1124), (388, 81, 1136), (392, 23, 1146), (395, 82, 1147), (399, 162, 1162), (402, 165, 1173), (419, 2, 715)], [(405, 1103515245, 1176)], [(7, 7, 164, 165, 136), (16, 3, 180, 181, 137), (23, 2, 195, 196, 138), (30, 5, 227, 228, 139), (40, 1, 264, 265, 140), (47, 4, 292, 293, 141), (54, 9, 336, 337, 142), (61, 6, 403, 404, 144), (68, 10, 447, 448, 145), (75, 8, 474, 475, 146)], [], [(1, 161)])
theorem xm_K12 : xm_ckL "NinthDayHooded" xm_T xm_L12 = true := by decide +kernel
def xm_L13 : xm_L := ([(9, 12, 0, 1292), (13, 12, 2, 1294), (16, 12, 3, 1295), (19, 12, 4, 1296), (23, 12, 6, 1298), (26, 12, 14, 1306), (29, 12, 15, 1307), (32, 12, 21, 1313), (35, 12, 22, 1314), (38, 12, 23, 1315), (41, 12, 24, 1316), (44, 12, 30, 1322), (47, 12, 32, 1324), (50, 12, 33, 1325), (53, 12, 35, 1327), (56, 12, 36, 1328), (59, 12, 37, 1329), (62, 12, 39, 1331), (65, 12, 40, 1332), (68, 12, 42, 1334), (71, 12, 44, 1336), (74, 12, 45, 1337), (77, 12, 47, 1339), (80, 12, 48, 1340), (83, 12, 50, 1342), (86, 12, 52, 1344), (89, 12, 53, 1345), (92, 12, 58, 1350), (95, 12, 59, 1351), (99, 12, 60, 1352), (102, 12, 8, 1300), (106, 12, 7, 1299), (109, 12, 1, 1293), (120, 12, 5, 1297), (123, 12, 9, 1301), (126, 12, 10, 1302), (129, 12, 11, 1303), (132, 12, 12, 1304), (135, 12, 13, 1305), (169, 12, 57, 1349), (172, 12, 31, 1323), (194, 12, 17, 1309), (201, 12, 18, 1310), (204, 12, 19, 1311), (216, 12, 20, 1312), (227, 12, 16, 1308), (247, 12, 26, 1318), (250, 12, 27, 1319), (253, 12, 25, 1317), (272, 12, 28, 1320), (275, 12, 29, 1321), (299, 12, 34, 1326), (314, 12, 38, 1330), (317, 12, 41, 1333), (320, 12, 43, 1335), (347, 12, 46, 1338), (354, 12, 49, 1341), (368, 12, 51, 1343), (381, 12, 54, 1346), (387, 12, 55, 1347), (390, 12, 56, 1348)], [(112, 180, 1489), (116, 184, 1532), (138, 191, 1500), (142, 190, 1516), (146, 193, 1520), (150, 192, 1504), (154, 189, 1496), (158, 198, 1508), (161, 199, 1524), (165, 195, 1512), (175, 200, 1536), (178, 204, 1552), (181, 205, 1556), (184, 206, 1560), (187, 203, 1548), (190, 194, 1564), (197, 207, 1568), (207, 208, 1572), (211, 0, 1577), (219, 2, 1575), (224, 5, 1576), (230, 4, 1609), (233, 182, 1582), (236, 181, 1586), (240, 185, 1593), (243, 210, 1614), (256, 218, 1631), (260, 217, 1626), (265, 219, 1622), (269, 183, 1635), (278, 224, 1662), (282, 1, 1666), (285, 225, 1655), (289, 226, 1651), (293, 223, 1658), (296, 230, 1678), (302, 231, 1686), (305, 196, 1682), (308, 232, 1690), (311, 234, 1701), (323, 242, 1740), (326, 243, 1736), (329, 186, 1729), (332, 241, 1732), (335, 244, 1764), (338, 249, 1768), (341, 248, 1760), (344, 250, 1756), (350, 259, 1804), (357, 262, 1816), (361, 266, 1844), (365, 267, 1840), (371, 268, 1836), (375, 270, 1832), (378, 269, 1852), (384, 277, 1876), (393, 280, 1888)], [(264, 1000000, 1630), (396, 1103515245, 1900)], [], [], [(3, 1291)])
theorem xm_K13 : xm_ckL "NinthDayHoodedModel" xm_T xm_L13 = true := by decide +kernel
def xm_L14 : xm_L := ([], [(7, 108, 1193), (15, 114, 1266), (18, 142, 1275), (21, 169, 1282), (25, 97, 158), (28, 178, 1288), (29, 98, 528), (32, 187, 1481), (33, 99, 540), (37, 188, 1485), (38, 100, 544), (42, 197, 1492), (43, 105, 587), (46, 201, 1528), (47, 106, 600), (50, 202, 1540), (51, 107, 604), (54, 209, 1544), (55, 288, 1189), (60, 211, 1578), (61, 179, 1477), (64, 109, 662), (67, 212, 1589), (68, 110, 671), (71, 213, 1597), (72, 111, 678), (76, 214, 1601), (77, 112, 682), (81, 215, 1605), (82, 289, 1263), (84, 216, 1610), (85, 115, 693), (88, 220, 1618), (89, 116, 761), (92, 221, 1639), (93, 117, 773), (96, 222, 1643), (97, 118, 777), (100, 227, 1647), (101, 119, 824), (104, 228, 1670), (105, 121, 828), (108, 229, 1674), (109, 127, 857), (112, 233, 1693), (113, 128, 865), (116, 235, 1697), (117, 129, 876), (120, 236, 1705), (121, 130, 885), (124, 237, 1709), (125, 131, 890), (128, 238, 1713), (129, 132, 898), (132, 239, 1717), (133, 133, 906), (136, 240, 1721), (137, 134, 910), (140, 245, 1725), (141, 135, 939), (144, 246, 1744), (145, 136, 949), (148, 247, 1748), (149, 137, 953), (152, 251, 1752), (153, 138, 978), (156, 252, 1772), (157, 140, 982), (160, 253, 1776), (161, 141, 987), (164, 254, 1780), (165, 290, 1272), (167, 255, 1784), (168, 143, 991), (171, 256, 1788), (172, 144, 1003), (175, 257, 1792), (176, 145, 1011), (179, 258, 1796), (180, 146, 1015), (183, 260, 1800), (184, 147, 1027), (187, 261, 1808), (188, 148, 1032), (191, 263, 1812), (192, 149, 1058), (195, 264, 1820), (196, 151, 1066), (200, 265, 1824), (201, 152, 1070), (204, 271, 1828), (205, 153, 1094), (208, 272, 1848), (209, 155, 1102), (212, 273, 1856), (213, 156, 1106), (216, 274, 1860), (217, 157, 1120), (220, 275, 1864), (221, 158, 1128), (224, 276, 1868), (225, 159, 1132), (228, 278, 1872), (229, 160, 1142), (232, 279, 1880), (233, 161, 1158), (236, 281, 1884), (237, 163, 1165), (240, 282, 1892), (241, 164, 1169), (244, 283, 1896), (245, 166, 1177), (248, 284, 1901), (249, 167, 1181), (252, 285, 1905), (253, 168, 1185), (256, 286, 1909), (257, 291, 1279), (260, 287, 1913)], [], [(8, 11, 156, 157, 135), (26, 12, 1286, 1287, 147)], [], [])
theorem xm_K14 : xm_ckL "NinthDayHoodedLaw" xm_T xm_L14 = true := by decide +kernel
end
section
/-! EVERY METHOD keeps to its bytes: by program, decided by the kernel. -/
/-- places of: code, initialized, instanceMethod, selects, static -/
def xm_okB (inf : xe_I) (cp : xe_cp) (j1 j2 j3 j4 j5 : Nat) : Bool :=
  xm_w j1 (.code (xe_iy inf) (xe_ib inf) (xe_iL inf) (xe_ir inf)) && xm_w j2 (.initialized (xe_iy inf).cls) && plainFor (xe_iy inf) && decide ((xe_iy inf).cls ≠ "java/lang/invoke/MethodHandle") && decide ((xe_iy inf).cls ≠ "java/lang/invoke/VarHandle") && decide ((parseMethodDescriptor (xe_iy inf).desc).map (fun d => d.parameters.length) = some (xe_in inf)) && decide (xe_iL inf ≤ 45) && decide (xe_in inf + (if xe_ik inf = 0 then 0 else 1) ≤ xe_iL inf) &&
  (!(decide (xe_ik inf = 1) || decide (xe_ik inf = 3)) || (xm_w j3 (.instanceMethod (xe_iy inf)) && xm_w j4 (.selects (xe_iy inf).cls (xe_iy inf) (xe_iy inf)) && (match xe_cl[xe_ic inf]? with | some r => decide (r.1 = (xe_iy inf).cls) | none => false))) &&
  (!decide (xe_ik inf = 2) || (xm_w j3 (.instanceMethod (xe_iy inf)) && decide ((xe_iy inf).name = "<init>") && decide (xe_ir inf = none))) &&
  (!decide (xe_ik inf = 0) || xm_w j5 (.static (xe_iy inf))) && decide ((xe_pcs inf).getD 0 0 = 0) &&
  (xe_code inf).zipIdx.all (fun q => xe_chk cp (xe_ib inf) (xe_ik inf) (xe_iy inf).cls (xe_ir inf) (xe_pcs inf) q.2 q.1)
theorem xm_ok_of {T : List xe_I} {inf : xe_I} {cp : xe_cp} {j1 j2 j3 j4 j5 : Nat} (hcp : xe_cpok (xe_iy inf).cls T cp) (h : xm_okB inf cp j1 j2 j3 j4 j5 = true) : xe_ok T inf := by
  simp only [xm_okB, Bool.and_eq_true, Bool.or_eq_true, Bool.not_eq_true', Bool.or_eq_false_iff, decide_eq_false_iff_not, decide_eq_true_eq] at h
  obtain ⟨⟨⟨⟨⟨⟨⟨⟨⟨⟨⟨⟨h1, h2⟩, h3⟩, h4⟩, h5⟩, h6⟩, h7⟩, h8⟩, h9⟩, h10⟩, h11⟩, h12⟩, h13⟩ := h
  refine ⟨xm_w_good h1 rfl, xm_w_good h2 rfl, h3, ⟨h4, h5, h6⟩, h7, h8, fun q => ?_, fun q => ?_, fun q => ?_, h12, cp, hcp, fun i ins hi => ?_⟩
  · rcases h9 with h | ⟨⟨a1, a2⟩, a3⟩
    · exact absurd q (fun q => q.elim h.1 h.2)
    · refine ⟨xm_w_good a1 rfl, xm_w_good a2 rfl, ?_⟩
      split at a3
      · rename_i r hr
        exact ⟨r, hr, of_decide_eq_true a3⟩
      · cases a3
  · rcases h10 with h | ⟨⟨a1, a2⟩, a3⟩
    · exact absurd q h
    · exact ⟨xm_w_good a1 rfl, a2, a3⟩
  · rcases h11 with h | h
    · exact absurd q h
    · exact xm_w_good h rfl
  · have := List.all_eq_true.mp h13 (ins, i) (List.mem_zipIdx_iff_getElem?.mpr hi)
    exact this
theorem xm_ok0 : xe_ok xm_T xm_i0 := xm_ok_of (cp := xm_cp xm_L0) (j1 := 720) (j2 := 150) (j3 := 0) (j4 := 0) (j5 := 719) (xm_cpok xm_K0) (by decide +kernel)
theorem xm_ok1 : xe_ok xm_T xm_i1 := xm_ok_of (cp := xm_cp xm_L0) (j1 := 1668) (j2 := 150) (j3 := 0) (j4 := 0) (j5 := 1667) (xm_cpok xm_K0) (by decide +kernel)
theorem xm_ok2 : xe_ok xm_T xm_i2 := xm_ok_of (cp := xm_cp ([], [], [], [], [], [])) (j1 := 717) (j2 := 148) (j3 := 0) (j4 := 0) (j5 := 716) (xm_cpok (L := ([], [], [], [], [], [])) rfl) (by decide +kernel)
theorem xm_ok3 : xe_ok xm_T xm_i3 := xm_ok_of (cp := xm_cp ([], [], [], [], [], [])) (j1 := 875) (j2 := 148) (j3 := 0) (j4 := 0) (j5 := 874) (xm_cpok (L := ([], [], [], [], [], [])) rfl) (by decide +kernel)
theorem xm_ok4 : xe_ok xm_T xm_i4 := xm_ok_of (cp := xm_cp ([], [], [], [], [], [])) (j1 := 658) (j2 := 148) (j3 := 0) (j4 := 0) (j5 := 657) (xm_cpok (L := ([], [], [], [], [], [])) rfl) (by decide +kernel)
theorem xm_ok5 : xe_ok xm_T xm_i5 := xm_ok_of (cp := xm_cp ([], [], [], [], [], [])) (j1 := 554) (j2 := 148) (j3 := 0) (j4 := 0) (j5 := 553) (xm_cpok (L := ([], [], [], [], [], [])) rfl) (by decide +kernel)
theorem xm_ok6 : xe_ok xm_T xm_i6 := xm_ok_of (cp := xm_cp ([], [], [], [], [], [])) (j1 := 801) (j2 := 155) (j3 := 0) (j4 := 0) (j5 := 800) (xm_cpok (L := ([], [], [], [], [], [])) rfl) (by decide +kernel)
theorem xm_ok7 : xe_ok xm_T xm_i7 := xm_ok_of (cp := xm_cp xm_L1) (j1 := 346) (j2 := 143) (j3 := 345) (j4 := 0) (j5 := 0) (xm_cpok xm_K1) (by decide +kernel)
theorem xm_ok8 : xe_ok xm_T xm_i8 := xm_ok_of (cp := xm_cp xm_L1) (j1 := 703) (j2 := 143) (j3 := 702) (j4 := 23) (j5 := 0) (xm_cpok xm_K1) (by decide +kernel)
theorem xm_ok9 : xe_ok xm_T xm_i9 := xm_ok_of (cp := xm_cp xm_L1) (j1 := 707) (j2 := 143) (j3 := 706) (j4 := 24) (j5 := 0) (xm_cpok xm_K1) (by decide +kernel)
theorem xm_ok10 : xe_ok xm_T xm_i10 := xm_ok_of (cp := xm_cp xm_L1) (j1 := 735) (j2 := 143) (j3 := 734) (j4 := 27) (j5 := 0) (xm_cpok xm_K1) (by decide +kernel)
theorem xm_ok11 : xe_ok xm_T xm_i11 := xm_ok_of (cp := xm_cp xm_L1) (j1 := 739) (j2 := 143) (j3 := 738) (j4 := 28) (j5 := 0) (xm_cpok xm_K1) (by decide +kernel)
theorem xm_ok12 : xe_ok xm_T xm_i12 := xm_ok_of (cp := xm_cp xm_L1) (j1 := 760) (j2 := 143) (j3 := 759) (j4 := 33) (j5 := 0) (xm_cpok xm_K1) (by decide +kernel)
theorem xm_ok13 : xe_ok xm_T xm_i13 := xm_ok_of (cp := xm_cp xm_L1) (j1 := 748) (j2 := 143) (j3 := 747) (j4 := 30) (j5 := 0) (xm_cpok xm_K1) (by decide +kernel)
theorem xm_ok14 : xe_ok xm_T xm_i14 := xm_ok_of (cp := xm_cp xm_L1) (j1 := 772) (j2 := 143) (j3 := 771) (j4 := 35) (j5 := 0) (xm_cpok xm_K1) (by decide +kernel)
theorem xm_ok15 : xe_ok xm_T xm_i15 := xm_ok_of (cp := xm_cp xm_L1) (j1 := 768) (j2 := 143) (j3 := 767) (j4 := 34) (j5 := 0) (xm_cpok xm_K1) (by decide +kernel)
theorem xm_ok16 : xe_ok xm_T xm_i16 := xm_ok_of (cp := xm_cp xm_L2) (j1 := 268) (j2 := 140) (j3 := 267) (j4 := 0) (j5 := 0) (xm_cpok xm_K2) (by decide +kernel)
theorem xm_ok17 : xe_ok xm_T xm_i17 := xm_ok_of (cp := xm_cp xm_L2) (j1 := 788) (j2 := 140) (j3 := 787) (j4 := 37) (j5 := 0) (xm_cpok xm_K2) (by decide +kernel)
theorem xm_ok18 : xe_ok xm_T xm_i18 := xm_ok_of (cp := xm_cp xm_L2) (j1 := 864) (j2 := 140) (j3 := 863) (j4 := 49) (j5 := 0) (xm_cpok xm_K2) (by decide +kernel)
theorem xm_ok19 : xe_ok xm_T xm_i19 := xm_ok_of (cp := xm_cp xm_L2) (j1 := 586) (j2 := 140) (j3 := 585) (j4 := 9) (j5 := 0) (xm_cpok xm_K2) (by decide +kernel)
theorem xm_ok20 : xe_ok xm_T xm_i20 := xm_ok_of (cp := xm_cp xm_L3) (j1 := 199) (j2 := 138) (j3 := 198) (j4 := 0) (j5 := 0) (xm_cpok xm_K3) (by decide +kernel)
theorem xm_ok21 : xe_ok xm_T xm_i21 := xm_ok_of (cp := xm_cp xm_L3) (j1 := 594) (j2 := 138) (j3 := 593) (j4 := 10) (j5 := 0) (xm_cpok xm_K3) (by decide +kernel)
theorem xm_ok22 : xe_ok xm_T xm_i22 := xm_ok_of (cp := xm_cp xm_L3) (j1 := 669) (j2 := 138) (j3 := 668) (j4 := 22) (j5 := 0) (xm_cpok xm_K3) (by decide +kernel)
theorem xm_ok23 : xe_ok xm_T xm_i23 := xm_ok_of (cp := xm_cp xm_L3) (j1 := 1117) (j2 := 138) (j3 := 1116) (j4 := 81) (j5 := 0) (xm_cpok xm_K3) (by decide +kernel)
theorem xm_ok24 : xe_ok xm_T xm_i24 := xm_ok_of (cp := xm_cp xm_L3) (j1 := 1077) (j2 := 138) (j3 := 1076) (j4 := 74) (j5 := 0) (xm_cpok xm_K3) (by decide +kernel)
theorem xm_ok25 : xe_ok xm_T xm_i25 := xm_ok_of (cp := xm_cp xm_L3) (j1 := 1081) (j2 := 138) (j3 := 1080) (j4 := 75) (j5 := 0) (xm_cpok xm_K3) (by decide +kernel)
theorem xm_ok26 : xe_ok xm_T xm_i26 := xm_ok_of (cp := xm_cp xm_L3) (j1 := 1089) (j2 := 138) (j3 := 1088) (j4 := 77) (j5 := 0) (xm_cpok xm_K3) (by decide +kernel)
theorem xm_ok27 : xe_ok xm_T xm_i27 := xm_ok_of (cp := xm_cp xm_L3) (j1 := 1085) (j2 := 138) (j3 := 1084) (j4 := 76) (j5 := 0) (xm_cpok xm_K3) (by decide +kernel)
theorem xm_ok28 : xe_ok xm_T xm_i28 := xm_ok_of (cp := xm_cp xm_L3) (j1 := 1101) (j2 := 138) (j3 := 1100) (j4 := 79) (j5 := 0) (xm_cpok xm_K3) (by decide +kernel)
theorem xm_ok29 : xe_ok xm_T xm_i29 := xm_ok_of (cp := xm_cp xm_L3) (j1 := 1113) (j2 := 138) (j3 := 1112) (j4 := 80) (j5 := 0) (xm_cpok xm_K3) (by decide +kernel)
theorem xm_ok30 : xe_ok xm_T xm_i30 := xm_ok_of (cp := xm_cp xm_L4) (j1 := 184) (j2 := 137) (j3 := 183) (j4 := 0) (j5 := 0) (xm_cpok xm_K4) (by decide +kernel)
theorem xm_ok31 : xe_ok xm_T xm_i31 := xm_ok_of (cp := xm_cp xm_L4) (j1 := 744) (j2 := 137) (j3 := 743) (j4 := 29) (j5 := 0) (xm_cpok xm_K4) (by decide +kernel)
theorem xm_ok32 : xe_ok xm_T xm_i32 := xm_ok_of (cp := xm_cp xm_L4) (j1 := 752) (j2 := 137) (j3 := 751) (j4 := 31) (j5 := 0) (xm_cpok xm_K4) (by decide +kernel)
theorem xm_ok33 : xe_ok xm_T xm_i33 := xm_ok_of (cp := xm_cp xm_L5) (j1 := 296) (j2 := 141) (j3 := 295) (j4 := 0) (j5 := 0) (xm_cpok xm_K5) (by decide +kernel)
theorem xm_ok34 : xe_ok xm_T xm_i34 := xm_ok_of (cp := xm_cp xm_L5) (j1 := 611) (j2 := 141) (j3 := 610) (j4 := 12) (j5 := 0) (xm_cpok xm_K5) (by decide +kernel)
theorem xm_ok35 : xe_ok xm_T xm_i35 := xm_ok_of (cp := xm_cp xm_L5) (j1 := 615) (j2 := 141) (j3 := 614) (j4 := 13) (j5 := 0) (xm_cpok xm_K5) (by decide +kernel)
theorem xm_ok36 : xe_ok xm_T xm_i36 := xm_ok_of (cp := xm_cp xm_L5) (j1 := 621) (j2 := 141) (j3 := 620) (j4 := 14) (j5 := 0) (xm_cpok xm_K5) (by decide +kernel)
theorem xm_ok37 : xe_ok xm_T xm_i37 := xm_ok_of (cp := xm_cp xm_L5) (j1 := 629) (j2 := 141) (j3 := 628) (j4 := 16) (j5 := 0) (xm_cpok xm_K5) (by decide +kernel)
theorem xm_ok38 : xe_ok xm_T xm_i38 := xm_ok_of (cp := xm_cp xm_L5) (j1 := 640) (j2 := 141) (j3 := 639) (j4 := 18) (j5 := 0) (xm_cpok xm_K5) (by decide +kernel)
theorem xm_ok39 : xe_ok xm_T xm_i39 := xm_ok_of (cp := xm_cp xm_L5) (j1 := 644) (j2 := 141) (j3 := 643) (j4 := 19) (j5 := 0) (xm_cpok xm_K5) (by decide +kernel)
theorem xm_ok40 : xe_ok xm_T xm_i40 := xm_ok_of (cp := xm_cp xm_L5) (j1 := 648) (j2 := 141) (j3 := 647) (j4 := 20) (j5 := 0) (xm_cpok xm_K5) (by decide +kernel)
theorem xm_ok41 : xe_ok xm_T xm_i41 := xm_ok_of (cp := xm_cp xm_L5) (j1 := 633) (j2 := 141) (j3 := 632) (j4 := 17) (j5 := 0) (xm_cpok xm_K5) (by decide +kernel)
theorem xm_ok42 : xe_ok xm_T xm_i42 := xm_ok_of (cp := xm_cp xm_L5) (j1 := 625) (j2 := 141) (j3 := 624) (j4 := 15) (j5 := 0) (xm_cpok xm_K5) (by decide +kernel)
theorem xm_ok43 : xe_ok xm_T xm_i43 := xm_ok_of (cp := xm_cp xm_L5) (j1 := 652) (j2 := 141) (j3 := 651) (j4 := 21) (j5 := 0) (xm_cpok xm_K5) (by decide +kernel)
theorem xm_ok44 : xe_ok xm_T xm_i44 := xm_ok_of (cp := xm_cp xm_L5) (j1 := 655) (j2 := 141) (j3 := 0) (j4 := 0) (j5 := 654) (xm_cpok xm_K5) (by decide +kernel)
theorem xm_ok45 : xe_ok xm_T xm_i45 := xm_ok_of (cp := xm_cp xm_L5) (j1 := 636) (j2 := 141) (j3 := 0) (j4 := 0) (j5 := 635) (xm_cpok xm_K5) (by decide +kernel)
theorem xm_ok46 : xe_ok xm_T xm_i46 := xm_ok_of (cp := xm_cp xm_L5) (j1 := 711) (j2 := 141) (j3 := 710) (j4 := 25) (j5 := 0) (xm_cpok xm_K5) (by decide +kernel)
theorem xm_ok47 : xe_ok xm_T xm_i47 := xm_ok_of (cp := xm_cp xm_L5) (j1 := 727) (j2 := 141) (j3 := 726) (j4 := 26) (j5 := 0) (xm_cpok xm_K5) (by decide +kernel)
theorem xm_ok48 : xe_ok xm_T xm_i48 := xm_ok_of (cp := xm_cp xm_L5) (j1 := 731) (j2 := 141) (j3 := 0) (j4 := 0) (j5 := 730) (xm_cpok xm_K5) (by decide +kernel)
theorem xm_ok49 : xe_ok xm_T xm_i49 := xm_ok_of (cp := xm_cp xm_L6) (j1 := 231) (j2 := 139) (j3 := 230) (j4 := 0) (j5 := 0) (xm_cpok xm_K6) (by decide +kernel)
theorem xm_ok50 : xe_ok xm_T xm_i50 := xm_ok_of (cp := xm_cp xm_L6) (j1 := 792) (j2 := 139) (j3 := 791) (j4 := 38) (j5 := 0) (xm_cpok xm_K6) (by decide +kernel)
theorem xm_ok51 : xe_ok xm_T xm_i51 := xm_ok_of (cp := xm_cp xm_L6) (j1 := 756) (j2 := 139) (j3 := 755) (j4 := 32) (j5 := 0) (xm_cpok xm_K6) (by decide +kernel)
theorem xm_ok52 : xe_ok xm_T xm_i52 := xm_ok_of (cp := xm_cp xm_L6) (j1 := 1001) (j2 := 139) (j3 := 1000) (j4 := 64) (j5 := 0) (xm_cpok xm_K6) (by decide +kernel)
theorem xm_ok53 : xe_ok xm_T xm_i53 := xm_ok_of (cp := xm_cp xm_L6) (j1 := 856) (j2 := 139) (j3 := 855) (j4 := 48) (j5 := 0) (xm_cpok xm_K6) (by decide +kernel)
theorem xm_ok54 : xe_ok xm_T xm_i54 := xm_ok_of (cp := xm_cp xm_L6) (j1 := 897) (j2 := 139) (j3 := 896) (j4 := 52) (j5 := 0) (xm_cpok xm_K6) (by decide +kernel)
theorem xm_ok55 : xe_ok xm_T xm_i55 := xm_ok_of (cp := xm_cp xm_L6) (j1 := 1261) (j2 := 139) (j3 := 1260) (j4 := 87) (j5 := 0) (xm_cpok xm_K6) (by decide +kernel)
theorem xm_ok56 : xe_ok xm_T xm_i56 := xm_ok_of (cp := xm_cp xm_L6) (j1 := 822) (j2 := 139) (j3 := 821) (j4 := 44) (j5 := 0) (xm_cpok xm_K6) (by decide +kernel)
theorem xm_ok57 : xe_ok xm_T xm_i57 := xm_ok_of (cp := xm_cp xm_L6) (j1 := 883) (j2 := 139) (j3 := 882) (j4 := 51) (j5 := 0) (xm_cpok xm_K6) (by decide +kernel)
theorem xm_ok58 : xe_ok xm_T xm_i58 := xm_ok_of (cp := xm_cp xm_L6) (j1 := 872) (j2 := 139) (j3 := 871) (j4 := 50) (j5 := 0) (xm_cpok xm_K6) (by decide +kernel)
theorem xm_ok59 : xe_ok xm_T xm_i59 := xm_ok_of (cp := xm_cp xm_L6) (j1 := 810) (j2 := 139) (j3 := 809) (j4 := 41) (j5 := 0) (xm_cpok xm_K6) (by decide +kernel)
theorem xm_ok60 : xe_ok xm_T xm_i60 := xm_ok_of (cp := xm_cp xm_L6) (j1 := 818) (j2 := 139) (j3 := 817) (j4 := 43) (j5 := 0) (xm_cpok xm_K6) (by decide +kernel)
theorem xm_ok61 : xe_ok xm_T xm_i61 := xm_ok_of (cp := xm_cp xm_L7) (j1 := 407) (j2 := 144) (j3 := 406) (j4 := 0) (j5 := 0) (xm_cpok xm_K7) (by decide +kernel)
theorem xm_ok62 : xe_ok xm_T xm_i62 := xm_ok_of (cp := xm_cp xm_L7) (j1 := 905) (j2 := 144) (j3 := 904) (j4 := 53) (j5 := 0) (xm_cpok xm_K7) (by decide +kernel)
theorem xm_ok63 : xe_ok xm_T xm_i63 := xm_ok_of (cp := xm_cp xm_L7) (j1 := 920) (j2 := 144) (j3 := 919) (j4 := 54) (j5 := 0) (xm_cpok xm_K7) (by decide +kernel)
theorem xm_ok64 : xe_ok xm_T xm_i64 := xm_ok_of (cp := xm_cp xm_L7) (j1 := 927) (j2 := 144) (j3 := 926) (j4 := 55) (j5 := 0) (xm_cpok xm_K7) (by decide +kernel)
theorem xm_ok65 : xe_ok xm_T xm_i65 := xm_ok_of (cp := xm_cp xm_L7) (j1 := 932) (j2 := 144) (j3 := 931) (j4 := 56) (j5 := 0) (xm_cpok xm_K7) (by decide +kernel)
theorem xm_ok66 : xe_ok xm_T xm_i66 := xm_ok_of (cp := xm_cp xm_L7) (j1 := 936) (j2 := 144) (j3 := 935) (j4 := 57) (j5 := 0) (xm_cpok xm_K7) (by decide +kernel)
theorem xm_ok67 : xe_ok xm_T xm_i67 := xm_ok_of (cp := xm_cp xm_L7) (j1 := 946) (j2 := 144) (j3 := 945) (j4 := 58) (j5 := 0) (xm_cpok xm_K7) (by decide +kernel)
theorem xm_ok68 : xe_ok xm_T xm_i68 := xm_ok_of (cp := xm_cp xm_L7) (j1 := 969) (j2 := 144) (j3 := 968) (j4 := 61) (j5 := 0) (xm_cpok xm_K7) (by decide +kernel)
theorem xm_ok69 : xe_ok xm_T xm_i69 := xm_ok_of (cp := xm_cp xm_L7) (j1 := 973) (j2 := 144) (j3 := 972) (j4 := 62) (j5 := 0) (xm_cpok xm_K7) (by decide +kernel)
theorem xm_ok70 : xe_ok xm_T xm_i70 := xm_ok_of (cp := xm_cp xm_L7) (j1 := 960) (j2 := 144) (j3 := 959) (j4 := 59) (j5 := 0) (xm_cpok xm_K7) (by decide +kernel)
theorem xm_ok71 : xe_ok xm_T xm_i71 := xm_ok_of (cp := xm_cp xm_L7) (j1 := 965) (j2 := 144) (j3 := 964) (j4 := 60) (j5 := 0) (xm_cpok xm_K7) (by decide +kernel)
end
section
/-! every method, on -/
theorem xm_ok72 : xe_ok xm_T xm_i72 := xm_ok_of (cp := xm_cp xm_L8) (j1 := 168) (j2 := 136) (j3 := 167) (j4 := 0) (j5 := 0) (xm_cpok xm_K8) (by decide +kernel)
theorem xm_ok73 : xe_ok xm_T xm_i73 := xm_ok_of (cp := xm_cp xm_L8) (j1 := 535) (j2 := 136) (j3 := 534) (j4 := 0) (j5 := 0) (xm_cpok xm_K8) (by decide +kernel)
theorem xm_ok74 : xe_ok xm_T xm_i74 := xm_ok_of (cp := xm_cp xm_L8) (j1 := 539) (j2 := 136) (j3 := 538) (j4 := 1) (j5 := 0) (xm_cpok xm_K8) (by decide +kernel)
theorem xm_ok75 : xe_ok xm_T xm_i75 := xm_ok_of (cp := xm_cp xm_L8) (j1 := 558) (j2 := 136) (j3 := 557) (j4 := 3) (j5 := 0) (xm_cpok xm_K8) (by decide +kernel)
theorem xm_ok76 : xe_ok xm_T xm_i76 := xm_ok_of (cp := xm_cp xm_L8) (j1 := 574) (j2 := 136) (j3 := 573) (j4 := 6) (j5 := 0) (xm_cpok xm_K8) (by decide +kernel)
theorem xm_ok77 : xe_ok xm_T xm_i77 := xm_ok_of (cp := xm_cp xm_L8) (j1 := 569) (j2 := 136) (j3 := 568) (j4 := 5) (j5 := 0) (xm_cpok xm_K8) (by decide +kernel)
theorem xm_ok78 : xe_ok xm_T xm_i78 := xm_ok_of (cp := xm_cp xm_L8) (j1 := 598) (j2 := 136) (j3 := 597) (j4 := 11) (j5 := 0) (xm_cpok xm_K8) (by decide +kernel)
theorem xm_ok79 : xe_ok xm_T xm_i79 := xm_ok_of (cp := xm_cp xm_L9) (j1 := 478) (j2 := 146) (j3 := 477) (j4 := 0) (j5 := 0) (xm_cpok xm_K9) (by decide +kernel)
theorem xm_ok80 : xe_ok xm_T xm_i80 := xm_ok_of (cp := xm_cp xm_L9) (j1 := 1127) (j2 := 146) (j3 := 1126) (j4 := 82) (j5 := 0) (xm_cpok xm_K9) (by decide +kernel)
theorem xm_ok81 : xe_ok xm_T xm_i81 := xm_ok_of (cp := xm_cp xm_L9) (j1 := 1139) (j2 := 146) (j3 := 1138) (j4 := 83) (j5 := 0) (xm_cpok xm_K9) (by decide +kernel)
theorem xm_ok82 : xe_ok xm_T xm_i82 := xm_ok_of (cp := xm_cp xm_L9) (j1 := 1150) (j2 := 146) (j3 := 1149) (j4 := 84) (j5 := 0) (xm_cpok xm_K9) (by decide +kernel)
theorem xm_ok83 : xe_ok xm_T xm_i83 := xm_ok_of (cp := xm_cp xm_L9) (j1 := 1157) (j2 := 146) (j3 := 1156) (j4 := 85) (j5 := 0) (xm_cpok xm_K9) (by decide +kernel)
theorem xm_ok84 : xe_ok xm_T xm_i84 := xm_ok_of (cp := xm_cp xm_L10) (j1 := 340) (j2 := 142) (j3 := 339) (j4 := 0) (j5 := 0) (xm_cpok xm_K10) (by decide +kernel)
theorem xm_ok85 : xe_ok xm_T xm_i85 := xm_ok_of (cp := xm_cp xm_L10) (j1 := 798) (j2 := 142) (j3 := 797) (j4 := 39) (j5 := 0) (xm_cpok xm_K10) (by decide +kernel)
theorem xm_ok86 : xe_ok xm_T xm_i86 := xm_ok_of (cp := xm_cp xm_L10) (j1 := 805) (j2 := 142) (j3 := 804) (j4 := 40) (j5 := 0) (xm_cpok xm_K10) (by decide +kernel)
theorem xm_ok87 : xe_ok xm_T xm_i87 := xm_ok_of (cp := xm_cp xm_L10) (j1 := 814) (j2 := 142) (j3 := 813) (j4 := 42) (j5 := 0) (xm_cpok xm_K10) (by decide +kernel)
theorem xm_ok88 : xe_ok xm_T xm_i88 := xm_ok_of (cp := xm_cp xm_L11) (j1 := 451) (j2 := 145) (j3 := 450) (j4 := 0) (j5 := 0) (xm_cpok xm_K11) (by decide +kernel)
theorem xm_ok89 : xe_ok xm_T xm_i89 := xm_ok_of (cp := xm_cp xm_L11) (j1 := 1010) (j2 := 145) (j3 := 1009) (j4 := 65) (j5 := 0) (xm_cpok xm_K11) (by decide +kernel)
theorem xm_ok90 : xe_ok xm_T xm_i90 := xm_ok_of (cp := xm_cp xm_L11) (j1 := 1022) (j2 := 145) (j3 := 1021) (j4 := 66) (j5 := 0) (xm_cpok xm_K11) (by decide +kernel)
theorem xm_ok91 : xe_ok xm_T xm_i91 := xm_ok_of (cp := xm_cp xm_L11) (j1 := 1026) (j2 := 145) (j3 := 1025) (j4 := 67) (j5 := 0) (xm_cpok xm_K11) (by decide +kernel)
theorem xm_ok92 : xe_ok xm_T xm_i92 := xm_ok_of (cp := xm_cp xm_L11) (j1 := 1039) (j2 := 145) (j3 := 1038) (j4 := 68) (j5 := 0) (xm_cpok xm_K11) (by decide +kernel)
theorem xm_ok93 : xe_ok xm_T xm_i93 := xm_ok_of (cp := xm_cp xm_L11) (j1 := 1043) (j2 := 145) (j3 := 1042) (j4 := 69) (j5 := 0) (xm_cpok xm_K11) (by decide +kernel)
theorem xm_ok94 : xe_ok xm_T xm_i94 := xm_ok_of (cp := xm_cp xm_L11) (j1 := 1047) (j2 := 145) (j3 := 1046) (j4 := 70) (j5 := 0) (xm_cpok xm_K11) (by decide +kernel)
theorem xm_ok95 : xe_ok xm_T xm_i95 := xm_ok_of (cp := xm_cp xm_L11) (j1 := 1051) (j2 := 145) (j3 := 1050) (j4 := 71) (j5 := 0) (xm_cpok xm_K11) (by decide +kernel)
theorem xm_ok96 : xe_ok xm_T xm_i96 := xm_ok_of (cp := xm_cp xm_L11) (j1 := 1056) (j2 := 145) (j3 := 1055) (j4 := 72) (j5 := 0) (xm_cpok xm_K11) (by decide +kernel)
theorem xm_ok97 : xe_ok xm_T xm_i97 := xm_ok_of (cp := xm_cp xm_L12) (j1 := 160) (j2 := 135) (j3 := 159) (j4 := 0) (j5 := 0) (xm_cpok xm_K12) (by decide +kernel)
theorem xm_ok98 : xe_ok xm_T xm_i98 := xm_ok_of (cp := xm_cp xm_L12) (j1 := 531) (j2 := 135) (j3 := 529) (j4 := 530) (j5 := 0) (xm_cpok xm_K12) (by decide +kernel)
theorem xm_ok99 : xe_ok xm_T xm_i99 := xm_ok_of (cp := xm_cp xm_L12) (j1 := 543) (j2 := 135) (j3 := 541) (j4 := 542) (j5 := 0) (xm_cpok xm_K12) (by decide +kernel)
theorem xm_ok100 : xe_ok xm_T xm_i100 := xm_ok_of (cp := xm_cp xm_L12) (j1 := 547) (j2 := 135) (j3 := 545) (j4 := 546) (j5 := 0) (xm_cpok xm_K12) (by decide +kernel)
theorem xm_ok101 : xe_ok xm_T xm_i101 := xm_ok_of (cp := xm_cp xm_L12) (j1 := 551) (j2 := 135) (j3 := 550) (j4 := 2) (j5 := 0) (xm_cpok xm_K12) (by decide +kernel)
theorem xm_ok102 : xe_ok xm_T xm_i102 := xm_ok_of (cp := xm_cp xm_L12) (j1 := 565) (j2 := 135) (j3 := 564) (j4 := 4) (j5 := 0) (xm_cpok xm_K12) (by decide +kernel)
theorem xm_ok103 : xe_ok xm_T xm_i103 := xm_ok_of (cp := xm_cp xm_L12) (j1 := 578) (j2 := 135) (j3 := 577) (j4 := 7) (j5 := 0) (xm_cpok xm_K12) (by decide +kernel)
theorem xm_ok104 : xe_ok xm_T xm_i104 := xm_ok_of (cp := xm_cp xm_L12) (j1 := 582) (j2 := 135) (j3 := 581) (j4 := 8) (j5 := 0) (xm_cpok xm_K12) (by decide +kernel)
theorem xm_ok105 : xe_ok xm_T xm_i105 := xm_ok_of (cp := xm_cp xm_L12) (j1 := 590) (j2 := 135) (j3 := 588) (j4 := 589) (j5 := 0) (xm_cpok xm_K12) (by decide +kernel)
theorem xm_ok106 : xe_ok xm_T xm_i106 := xm_ok_of (cp := xm_cp xm_L12) (j1 := 603) (j2 := 135) (j3 := 601) (j4 := 602) (j5 := 0) (xm_cpok xm_K12) (by decide +kernel)
theorem xm_ok107 : xe_ok xm_T xm_i107 := xm_ok_of (cp := xm_cp xm_L12) (j1 := 607) (j2 := 135) (j3 := 605) (j4 := 606) (j5 := 0) (xm_cpok xm_K12) (by decide +kernel)
theorem xm_ok108 : xe_ok xm_T xm_i108 := xm_ok_of (cp := xm_cp xm_L12) (j1 := 1196) (j2 := 135) (j3 := 1194) (j4 := 1195) (j5 := 0) (xm_cpok xm_K12) (by decide +kernel)
theorem xm_ok109 : xe_ok xm_T xm_i109 := xm_ok_of (cp := xm_cp xm_L12) (j1 := 665) (j2 := 135) (j3 := 663) (j4 := 664) (j5 := 0) (xm_cpok xm_K12) (by decide +kernel)
theorem xm_ok110 : xe_ok xm_T xm_i110 := xm_ok_of (cp := xm_cp xm_L12) (j1 := 674) (j2 := 135) (j3 := 672) (j4 := 673) (j5 := 0) (xm_cpok xm_K12) (by decide +kernel)
theorem xm_ok111 : xe_ok xm_T xm_i111 := xm_ok_of (cp := xm_cp xm_L12) (j1 := 681) (j2 := 135) (j3 := 679) (j4 := 680) (j5 := 0) (xm_cpok xm_K12) (by decide +kernel)
theorem xm_ok112 : xe_ok xm_T xm_i112 := xm_ok_of (cp := xm_cp xm_L12) (j1 := 685) (j2 := 135) (j3 := 683) (j4 := 684) (j5 := 0) (xm_cpok xm_K12) (by decide +kernel)
theorem xm_ok113 : xe_ok xm_T xm_i113 := xm_ok_of (cp := xm_cp xm_L12) (j1 := 688) (j2 := 135) (j3 := 0) (j4 := 0) (j5 := 687) (xm_cpok xm_K12) (by decide +kernel)
theorem xm_ok114 : xe_ok xm_T xm_i114 := xm_ok_of (cp := xm_cp xm_L12) (j1 := 1269) (j2 := 135) (j3 := 1267) (j4 := 1268) (j5 := 0) (xm_cpok xm_K12) (by decide +kernel)
theorem xm_ok115 : xe_ok xm_T xm_i115 := xm_ok_of (cp := xm_cp xm_L12) (j1 := 696) (j2 := 135) (j3 := 694) (j4 := 695) (j5 := 0) (xm_cpok xm_K12) (by decide +kernel)
theorem xm_ok116 : xe_ok xm_T xm_i116 := xm_ok_of (cp := xm_cp xm_L12) (j1 := 764) (j2 := 135) (j3 := 762) (j4 := 763) (j5 := 0) (xm_cpok xm_K12) (by decide +kernel)
theorem xm_ok117 : xe_ok xm_T xm_i117 := xm_ok_of (cp := xm_cp xm_L12) (j1 := 776) (j2 := 135) (j3 := 774) (j4 := 775) (j5 := 0) (xm_cpok xm_K12) (by decide +kernel)
theorem xm_ok118 : xe_ok xm_T xm_i118 := xm_ok_of (cp := xm_cp xm_L12) (j1 := 780) (j2 := 135) (j3 := 778) (j4 := 779) (j5 := 0) (xm_cpok xm_K12) (by decide +kernel)
theorem xm_ok119 : xe_ok xm_T xm_i119 := xm_ok_of (cp := xm_cp xm_L12) (j1 := 827) (j2 := 135) (j3 := 825) (j4 := 826) (j5 := 0) (xm_cpok xm_K12) (by decide +kernel)
theorem xm_ok120 : xe_ok xm_T xm_i120 := xm_ok_of (cp := xm_cp xm_L12) (j1 := 784) (j2 := 135) (j3 := 783) (j4 := 36) (j5 := 0) (xm_cpok xm_K12) (by decide +kernel)
theorem xm_ok121 : xe_ok xm_T xm_i121 := xm_ok_of (cp := xm_cp xm_L12) (j1 := 831) (j2 := 135) (j3 := 829) (j4 := 830) (j5 := 0) (xm_cpok xm_K12) (by decide +kernel)
theorem xm_ok122 : xe_ok xm_T xm_i122 := xm_ok_of (cp := xm_cp xm_L12) (j1 := 835) (j2 := 135) (j3 := 834) (j4 := 45) (j5 := 0) (xm_cpok xm_K12) (by decide +kernel)
theorem xm_ok123 : xe_ok xm_T xm_i123 := xm_ok_of (cp := xm_cp xm_L12) (j1 := 838) (j2 := 135) (j3 := 0) (j4 := 0) (j5 := 837) (xm_cpok xm_K12) (by decide +kernel)
theorem xm_ok124 : xe_ok xm_T xm_i124 := xm_ok_of (cp := xm_cp xm_L12) (j1 := 841) (j2 := 135) (j3 := 0) (j4 := 0) (j5 := 840) (xm_cpok xm_K12) (by decide +kernel)
theorem xm_ok125 : xe_ok xm_T xm_i125 := xm_ok_of (cp := xm_cp xm_L12) (j1 := 848) (j2 := 135) (j3 := 847) (j4 := 46) (j5 := 0) (xm_cpok xm_K12) (by decide +kernel)
theorem xm_ok126 : xe_ok xm_T xm_i126 := xm_ok_of (cp := xm_cp xm_L12) (j1 := 852) (j2 := 135) (j3 := 851) (j4 := 47) (j5 := 0) (xm_cpok xm_K12) (by decide +kernel)
theorem xm_ok127 : xe_ok xm_T xm_i127 := xm_ok_of (cp := xm_cp xm_L12) (j1 := 860) (j2 := 135) (j3 := 858) (j4 := 859) (j5 := 0) (xm_cpok xm_K12) (by decide +kernel)
theorem xm_ok128 : xe_ok xm_T xm_i128 := xm_ok_of (cp := xm_cp xm_L12) (j1 := 868) (j2 := 135) (j3 := 866) (j4 := 867) (j5 := 0) (xm_cpok xm_K12) (by decide +kernel)
theorem xm_ok129 : xe_ok xm_T xm_i129 := xm_ok_of (cp := xm_cp xm_L12) (j1 := 879) (j2 := 135) (j3 := 877) (j4 := 878) (j5 := 0) (xm_cpok xm_K12) (by decide +kernel)
theorem xm_ok130 : xe_ok xm_T xm_i130 := xm_ok_of (cp := xm_cp xm_L12) (j1 := 888) (j2 := 135) (j3 := 886) (j4 := 887) (j5 := 0) (xm_cpok xm_K12) (by decide +kernel)
theorem xm_ok131 : xe_ok xm_T xm_i131 := xm_ok_of (cp := xm_cp xm_L12) (j1 := 893) (j2 := 135) (j3 := 891) (j4 := 892) (j5 := 0) (xm_cpok xm_K12) (by decide +kernel)
theorem xm_ok132 : xe_ok xm_T xm_i132 := xm_ok_of (cp := xm_cp xm_L12) (j1 := 901) (j2 := 135) (j3 := 899) (j4 := 900) (j5 := 0) (xm_cpok xm_K12) (by decide +kernel)
theorem xm_ok133 : xe_ok xm_T xm_i133 := xm_ok_of (cp := xm_cp xm_L12) (j1 := 909) (j2 := 135) (j3 := 907) (j4 := 908) (j5 := 0) (xm_cpok xm_K12) (by decide +kernel)
theorem xm_ok134 : xe_ok xm_T xm_i134 := xm_ok_of (cp := xm_cp xm_L12) (j1 := 913) (j2 := 135) (j3 := 911) (j4 := 912) (j5 := 0) (xm_cpok xm_K12) (by decide +kernel)
theorem xm_ok135 : xe_ok xm_T xm_i135 := xm_ok_of (cp := xm_cp xm_L12) (j1 := 942) (j2 := 135) (j3 := 940) (j4 := 941) (j5 := 0) (xm_cpok xm_K12) (by decide +kernel)
theorem xm_ok136 : xe_ok xm_T xm_i136 := xm_ok_of (cp := xm_cp xm_L12) (j1 := 952) (j2 := 135) (j3 := 950) (j4 := 951) (j5 := 0) (xm_cpok xm_K12) (by decide +kernel)
theorem xm_ok137 : xe_ok xm_T xm_i137 := xm_ok_of (cp := xm_cp xm_L12) (j1 := 956) (j2 := 135) (j3 := 954) (j4 := 955) (j5 := 0) (xm_cpok xm_K12) (by decide +kernel)
theorem xm_ok138 : xe_ok xm_T xm_i138 := xm_ok_of (cp := xm_cp xm_L12) (j1 := 981) (j2 := 135) (j3 := 979) (j4 := 980) (j5 := 0) (xm_cpok xm_K12) (by decide +kernel)
theorem xm_ok139 : xe_ok xm_T xm_i139 := xm_ok_of (cp := xm_cp xm_L12) (j1 := 977) (j2 := 135) (j3 := 976) (j4 := 63) (j5 := 0) (xm_cpok xm_K12) (by decide +kernel)
theorem xm_ok140 : xe_ok xm_T xm_i140 := xm_ok_of (cp := xm_cp xm_L12) (j1 := 985) (j2 := 135) (j3 := 983) (j4 := 984) (j5 := 0) (xm_cpok xm_K12) (by decide +kernel)
theorem xm_ok141 : xe_ok xm_T xm_i141 := xm_ok_of (cp := xm_cp xm_L12) (j1 := 990) (j2 := 135) (j3 := 988) (j4 := 989) (j5 := 0) (xm_cpok xm_K12) (by decide +kernel)
theorem xm_ok142 : xe_ok xm_T xm_i142 := xm_ok_of (cp := xm_cp xm_L12) (j1 := 1278) (j2 := 135) (j3 := 1276) (j4 := 1277) (j5 := 0) (xm_cpok xm_K12) (by decide +kernel)
theorem xm_ok143 : xe_ok xm_T xm_i143 := xm_ok_of (cp := xm_cp xm_L12) (j1 := 994) (j2 := 135) (j3 := 992) (j4 := 993) (j5 := 0) (xm_cpok xm_K12) (by decide +kernel)
end
section
/-! every method, on -/
theorem xm_ok144 : xe_ok xm_T xm_i144 := xm_ok_of (cp := xm_cp xm_L12) (j1 := 1006) (j2 := 135) (j3 := 1004) (j4 := 1005) (j5 := 0) (xm_cpok xm_K12) (by decide +kernel)
theorem xm_ok145 : xe_ok xm_T xm_i145 := xm_ok_of (cp := xm_cp xm_L12) (j1 := 1014) (j2 := 135) (j3 := 1012) (j4 := 1013) (j5 := 0) (xm_cpok xm_K12) (by decide +kernel)
theorem xm_ok146 : xe_ok xm_T xm_i146 := xm_ok_of (cp := xm_cp xm_L12) (j1 := 1018) (j2 := 135) (j3 := 1016) (j4 := 1017) (j5 := 0) (xm_cpok xm_K12) (by decide +kernel)
theorem xm_ok147 : xe_ok xm_T xm_i147 := xm_ok_of (cp := xm_cp xm_L12) (j1 := 1030) (j2 := 135) (j3 := 1028) (j4 := 1029) (j5 := 0) (xm_cpok xm_K12) (by decide +kernel)
theorem xm_ok148 : xe_ok xm_T xm_i148 := xm_ok_of (cp := xm_cp xm_L12) (j1 := 1035) (j2 := 135) (j3 := 1033) (j4 := 1034) (j5 := 0) (xm_cpok xm_K12) (by decide +kernel)
theorem xm_ok149 : xe_ok xm_T xm_i149 := xm_ok_of (cp := xm_cp xm_L12) (j1 := 1061) (j2 := 135) (j3 := 1059) (j4 := 1060) (j5 := 0) (xm_cpok xm_K12) (by decide +kernel)
theorem xm_ok150 : xe_ok xm_T xm_i150 := xm_ok_of (cp := xm_cp xm_L12) (j1 := 1065) (j2 := 135) (j3 := 1064) (j4 := 73) (j5 := 0) (xm_cpok xm_K12) (by decide +kernel)
theorem xm_ok151 : xe_ok xm_T xm_i151 := xm_ok_of (cp := xm_cp xm_L12) (j1 := 1069) (j2 := 135) (j3 := 1067) (j4 := 1068) (j5 := 0) (xm_cpok xm_K12) (by decide +kernel)
theorem xm_ok152 : xe_ok xm_T xm_i152 := xm_ok_of (cp := xm_cp xm_L12) (j1 := 1073) (j2 := 135) (j3 := 1071) (j4 := 1072) (j5 := 0) (xm_cpok xm_K12) (by decide +kernel)
theorem xm_ok153 : xe_ok xm_T xm_i153 := xm_ok_of (cp := xm_cp xm_L12) (j1 := 1097) (j2 := 135) (j3 := 1095) (j4 := 1096) (j5 := 0) (xm_cpok xm_K12) (by decide +kernel)
theorem xm_ok154 : xe_ok xm_T xm_i154 := xm_ok_of (cp := xm_cp xm_L12) (j1 := 1093) (j2 := 135) (j3 := 1092) (j4 := 78) (j5 := 0) (xm_cpok xm_K12) (by decide +kernel)
theorem xm_ok155 : xe_ok xm_T xm_i155 := xm_ok_of (cp := xm_cp xm_L12) (j1 := 1105) (j2 := 135) (j3 := 1103) (j4 := 1104) (j5 := 0) (xm_cpok xm_K12) (by decide +kernel)
theorem xm_ok156 : xe_ok xm_T xm_i156 := xm_ok_of (cp := xm_cp xm_L12) (j1 := 1109) (j2 := 135) (j3 := 1107) (j4 := 1108) (j5 := 0) (xm_cpok xm_K12) (by decide +kernel)
theorem xm_ok157 : xe_ok xm_T xm_i157 := xm_ok_of (cp := xm_cp xm_L12) (j1 := 1123) (j2 := 135) (j3 := 1121) (j4 := 1122) (j5 := 0) (xm_cpok xm_K12) (by decide +kernel)
theorem xm_ok158 : xe_ok xm_T xm_i158 := xm_ok_of (cp := xm_cp xm_L12) (j1 := 1131) (j2 := 135) (j3 := 1129) (j4 := 1130) (j5 := 0) (xm_cpok xm_K12) (by decide +kernel)
theorem xm_ok159 : xe_ok xm_T xm_i159 := xm_ok_of (cp := xm_cp xm_L12) (j1 := 1135) (j2 := 135) (j3 := 1133) (j4 := 1134) (j5 := 0) (xm_cpok xm_K12) (by decide +kernel)
theorem xm_ok160 : xe_ok xm_T xm_i160 := xm_ok_of (cp := xm_cp xm_L12) (j1 := 1145) (j2 := 135) (j3 := 1143) (j4 := 1144) (j5 := 0) (xm_cpok xm_K12) (by decide +kernel)
theorem xm_ok161 : xe_ok xm_T xm_i161 := xm_ok_of (cp := xm_cp xm_L12) (j1 := 1161) (j2 := 135) (j3 := 1159) (j4 := 1160) (j5 := 0) (xm_cpok xm_K12) (by decide +kernel)
theorem xm_ok162 : xe_ok xm_T xm_i162 := xm_ok_of (cp := xm_cp xm_L12) (j1 := 1164) (j2 := 135) (j3 := 0) (j4 := 0) (j5 := 1163) (xm_cpok xm_K12) (by decide +kernel)
theorem xm_ok163 : xe_ok xm_T xm_i163 := xm_ok_of (cp := xm_cp xm_L12) (j1 := 1168) (j2 := 135) (j3 := 1166) (j4 := 1167) (j5 := 0) (xm_cpok xm_K12) (by decide +kernel)
theorem xm_ok164 : xe_ok xm_T xm_i164 := xm_ok_of (cp := xm_cp xm_L12) (j1 := 1172) (j2 := 135) (j3 := 1170) (j4 := 1171) (j5 := 0) (xm_cpok xm_K12) (by decide +kernel)
theorem xm_ok165 : xe_ok xm_T xm_i165 := xm_ok_of (cp := xm_cp xm_L12) (j1 := 1175) (j2 := 135) (j3 := 0) (j4 := 0) (j5 := 1174) (xm_cpok xm_K12) (by decide +kernel)
theorem xm_ok166 : xe_ok xm_T xm_i166 := xm_ok_of (cp := xm_cp xm_L12) (j1 := 1180) (j2 := 135) (j3 := 1178) (j4 := 1179) (j5 := 0) (xm_cpok xm_K12) (by decide +kernel)
theorem xm_ok167 : xe_ok xm_T xm_i167 := xm_ok_of (cp := xm_cp xm_L12) (j1 := 1184) (j2 := 135) (j3 := 1182) (j4 := 1183) (j5 := 0) (xm_cpok xm_K12) (by decide +kernel)
theorem xm_ok168 : xe_ok xm_T xm_i168 := xm_ok_of (cp := xm_cp xm_L12) (j1 := 1188) (j2 := 135) (j3 := 1186) (j4 := 1187) (j5 := 0) (xm_cpok xm_K12) (by decide +kernel)
theorem xm_ok169 : xe_ok xm_T xm_i169 := xm_ok_of (cp := xm_cp xm_L12) (j1 := 1285) (j2 := 135) (j3 := 1283) (j4 := 1284) (j5 := 0) (xm_cpok xm_K12) (by decide +kernel)
theorem xm_ok170 : xe_ok xm_T xm_i170 := xm_ok_of (cp := xm_cp xm_L12) (j1 := 561) (j2 := 135) (j3 := 0) (j4 := 0) (j5 := 560) (xm_cpok xm_K12) (by decide +kernel)
theorem xm_ok171 : xe_ok xm_T xm_i171 := xm_ok_of (cp := xm_cp xm_L12) (j1 := 844) (j2 := 135) (j3 := 0) (j4 := 0) (j5 := 843) (xm_cpok xm_K12) (by decide +kernel)
theorem xm_ok172 : xe_ok xm_T xm_i172 := xm_ok_of (cp := xm_cp xm_L12) (j1 := 677) (j2 := 135) (j3 := 0) (j4 := 0) (j5 := 676) (xm_cpok xm_K12) (by decide +kernel)
theorem xm_ok173 : xe_ok xm_T xm_i173 := xm_ok_of (cp := xm_cp xm_L12) (j1 := 916) (j2 := 135) (j3 := 0) (j4 := 0) (j5 := 915) (xm_cpok xm_K12) (by decide +kernel)
theorem xm_ok174 : xe_ok xm_T xm_i174 := xm_ok_of (cp := xm_cp xm_L12) (j1 := 997) (j2 := 135) (j3 := 0) (j4 := 0) (j5 := 996) (xm_cpok xm_K12) (by decide +kernel)
theorem xm_ok175 : xe_ok xm_T xm_i175 := xm_ok_of (cp := xm_cp xm_L12) (j1 := 699) (j2 := 135) (j3 := 0) (j4 := 0) (j5 := 698) (xm_cpok xm_K12) (by decide +kernel)
theorem xm_ok176 : xe_ok xm_T xm_i176 := xm_ok_of (cp := xm_cp xm_L12) (j1 := 691) (j2 := 135) (j3 := 0) (j4 := 0) (j5 := 690) (xm_cpok xm_K12) (by decide +kernel)
theorem xm_ok177 : xe_ok xm_T xm_i177 := xm_ok_of (cp := xm_cp xm_L12) (j1 := 714) (j2 := 135) (j3 := 0) (j4 := 0) (j5 := 713) (xm_cpok xm_K12) (by decide +kernel)
theorem xm_ok178 : xe_ok xm_T xm_i178 := xm_ok_of (cp := xm_cp xm_L13) (j1 := 1290) (j2 := 147) (j3 := 1289) (j4 := 0) (j5 := 0) (xm_cpok xm_K13) (by decide +kernel)
theorem xm_ok179 : xe_ok xm_T xm_i179 := xm_ok_of (cp := xm_cp xm_L13) (j1 := 1480) (j2 := 147) (j3 := 1478) (j4 := 1479) (j5 := 0) (xm_cpok xm_K13) (by decide +kernel)
theorem xm_ok180 : xe_ok xm_T xm_i180 := xm_ok_of (cp := xm_cp xm_L13) (j1 := 1491) (j2 := 147) (j3 := 0) (j4 := 0) (j5 := 1490) (xm_cpok xm_K13) (by decide +kernel)
theorem xm_ok181 : xe_ok xm_T xm_i181 := xm_ok_of (cp := xm_cp xm_L13) (j1 := 1588) (j2 := 147) (j3 := 0) (j4 := 0) (j5 := 1587) (xm_cpok xm_K13) (by decide +kernel)
theorem xm_ok182 : xe_ok xm_T xm_i182 := xm_ok_of (cp := xm_cp xm_L13) (j1 := 1585) (j2 := 147) (j3 := 1584) (j4 := 104) (j5 := 0) (xm_cpok xm_K13) (by decide +kernel)
theorem xm_ok183 : xe_ok xm_T xm_i183 := xm_ok_of (cp := xm_cp xm_L13) (j1 := 1638) (j2 := 147) (j3 := 1637) (j4 := 110) (j5 := 0) (xm_cpok xm_K13) (by decide +kernel)
theorem xm_ok184 : xe_ok xm_T xm_i184 := xm_ok_of (cp := xm_cp xm_L13) (j1 := 1535) (j2 := 147) (j3 := 1534) (j4 := 96) (j5 := 0) (xm_cpok xm_K13) (by decide +kernel)
theorem xm_ok185 : xe_ok xm_T xm_i185 := xm_ok_of (cp := xm_cp xm_L13) (j1 := 1596) (j2 := 147) (j3 := 1595) (j4 := 105) (j5 := 0) (xm_cpok xm_K13) (by decide +kernel)
theorem xm_ok186 : xe_ok xm_T xm_i186 := xm_ok_of (cp := xm_cp xm_L13) (j1 := 1731) (j2 := 147) (j3 := 0) (j4 := 0) (j5 := 1730) (xm_cpok xm_K13) (by decide +kernel)
theorem xm_ok187 : xe_ok xm_T xm_i187 := xm_ok_of (cp := xm_cp xm_L13) (j1 := 1484) (j2 := 147) (j3 := 1482) (j4 := 1483) (j5 := 0) (xm_cpok xm_K13) (by decide +kernel)
theorem xm_ok188 : xe_ok xm_T xm_i188 := xm_ok_of (cp := xm_cp xm_L13) (j1 := 1488) (j2 := 147) (j3 := 1486) (j4 := 1487) (j5 := 0) (xm_cpok xm_K13) (by decide +kernel)
theorem xm_ok189 : xe_ok xm_T xm_i189 := xm_ok_of (cp := xm_cp xm_L13) (j1 := 1499) (j2 := 147) (j3 := 1498) (j4 := 88) (j5 := 0) (xm_cpok xm_K13) (by decide +kernel)
theorem xm_ok190 : xe_ok xm_T xm_i190 := xm_ok_of (cp := xm_cp xm_L13) (j1 := 1519) (j2 := 147) (j3 := 1518) (j4 := 93) (j5 := 0) (xm_cpok xm_K13) (by decide +kernel)
theorem xm_ok191 : xe_ok xm_T xm_i191 := xm_ok_of (cp := xm_cp xm_L13) (j1 := 1503) (j2 := 147) (j3 := 1502) (j4 := 89) (j5 := 0) (xm_cpok xm_K13) (by decide +kernel)
theorem xm_ok192 : xe_ok xm_T xm_i192 := xm_ok_of (cp := xm_cp xm_L13) (j1 := 1507) (j2 := 147) (j3 := 1506) (j4 := 90) (j5 := 0) (xm_cpok xm_K13) (by decide +kernel)
theorem xm_ok193 : xe_ok xm_T xm_i193 := xm_ok_of (cp := xm_cp xm_L13) (j1 := 1523) (j2 := 147) (j3 := 1522) (j4 := 94) (j5 := 0) (xm_cpok xm_K13) (by decide +kernel)
theorem xm_ok194 : xe_ok xm_T xm_i194 := xm_ok_of (cp := xm_cp xm_L13) (j1 := 1567) (j2 := 147) (j3 := 1566) (j4 := 102) (j5 := 0) (xm_cpok xm_K13) (by decide +kernel)
theorem xm_ok195 : xe_ok xm_T xm_i195 := xm_ok_of (cp := xm_cp xm_L13) (j1 := 1515) (j2 := 147) (j3 := 1514) (j4 := 92) (j5 := 0) (xm_cpok xm_K13) (by decide +kernel)
theorem xm_ok196 : xe_ok xm_T xm_i196 := xm_ok_of (cp := xm_cp xm_L13) (j1 := 1685) (j2 := 147) (j3 := 1684) (j4 := 115) (j5 := 0) (xm_cpok xm_K13) (by decide +kernel)
theorem xm_ok197 : xe_ok xm_T xm_i197 := xm_ok_of (cp := xm_cp xm_L13) (j1 := 1495) (j2 := 147) (j3 := 1493) (j4 := 1494) (j5 := 0) (xm_cpok xm_K13) (by decide +kernel)
theorem xm_ok198 : xe_ok xm_T xm_i198 := xm_ok_of (cp := xm_cp xm_L13) (j1 := 1511) (j2 := 147) (j3 := 1510) (j4 := 91) (j5 := 0) (xm_cpok xm_K13) (by decide +kernel)
theorem xm_ok199 : xe_ok xm_T xm_i199 := xm_ok_of (cp := xm_cp xm_L13) (j1 := 1527) (j2 := 147) (j3 := 1526) (j4 := 95) (j5 := 0) (xm_cpok xm_K13) (by decide +kernel)
theorem xm_ok200 : xe_ok xm_T xm_i200 := xm_ok_of (cp := xm_cp xm_L13) (j1 := 1539) (j2 := 147) (j3 := 1538) (j4 := 97) (j5 := 0) (xm_cpok xm_K13) (by decide +kernel)
theorem xm_ok201 : xe_ok xm_T xm_i201 := xm_ok_of (cp := xm_cp xm_L13) (j1 := 1531) (j2 := 147) (j3 := 1529) (j4 := 1530) (j5 := 0) (xm_cpok xm_K13) (by decide +kernel)
theorem xm_ok202 : xe_ok xm_T xm_i202 := xm_ok_of (cp := xm_cp xm_L13) (j1 := 1543) (j2 := 147) (j3 := 1541) (j4 := 1542) (j5 := 0) (xm_cpok xm_K13) (by decide +kernel)
theorem xm_ok203 : xe_ok xm_T xm_i203 := xm_ok_of (cp := xm_cp xm_L13) (j1 := 1551) (j2 := 147) (j3 := 1550) (j4 := 98) (j5 := 0) (xm_cpok xm_K13) (by decide +kernel)
theorem xm_ok204 : xe_ok xm_T xm_i204 := xm_ok_of (cp := xm_cp xm_L13) (j1 := 1555) (j2 := 147) (j3 := 1554) (j4 := 99) (j5 := 0) (xm_cpok xm_K13) (by decide +kernel)
theorem xm_ok205 : xe_ok xm_T xm_i205 := xm_ok_of (cp := xm_cp xm_L13) (j1 := 1559) (j2 := 147) (j3 := 1558) (j4 := 100) (j5 := 0) (xm_cpok xm_K13) (by decide +kernel)
theorem xm_ok206 : xe_ok xm_T xm_i206 := xm_ok_of (cp := xm_cp xm_L13) (j1 := 1563) (j2 := 147) (j3 := 1562) (j4 := 101) (j5 := 0) (xm_cpok xm_K13) (by decide +kernel)
theorem xm_ok207 : xe_ok xm_T xm_i207 := xm_ok_of (cp := xm_cp xm_L13) (j1 := 1571) (j2 := 147) (j3 := 1570) (j4 := 103) (j5 := 0) (xm_cpok xm_K13) (by decide +kernel)
theorem xm_ok208 : xe_ok xm_T xm_i208 := xm_ok_of (cp := xm_cp xm_L13) (j1 := 1574) (j2 := 147) (j3 := 0) (j4 := 0) (j5 := 1573) (xm_cpok xm_K13) (by decide +kernel)
theorem xm_ok209 : xe_ok xm_T xm_i209 := xm_ok_of (cp := xm_cp xm_L13) (j1 := 1547) (j2 := 147) (j3 := 1545) (j4 := 1546) (j5 := 0) (xm_cpok xm_K13) (by decide +kernel)
theorem xm_ok210 : xe_ok xm_T xm_i210 := xm_ok_of (cp := xm_cp xm_L13) (j1 := 1617) (j2 := 147) (j3 := 1616) (j4 := 106) (j5 := 0) (xm_cpok xm_K13) (by decide +kernel)
theorem xm_ok211 : xe_ok xm_T xm_i211 := xm_ok_of (cp := xm_cp xm_L13) (j1 := 1581) (j2 := 147) (j3 := 1579) (j4 := 1580) (j5 := 0) (xm_cpok xm_K13) (by decide +kernel)
theorem xm_ok212 : xe_ok xm_T xm_i212 := xm_ok_of (cp := xm_cp xm_L13) (j1 := 1592) (j2 := 147) (j3 := 1590) (j4 := 1591) (j5 := 0) (xm_cpok xm_K13) (by decide +kernel)
theorem xm_ok213 : xe_ok xm_T xm_i213 := xm_ok_of (cp := xm_cp xm_L13) (j1 := 1600) (j2 := 147) (j3 := 1598) (j4 := 1599) (j5 := 0) (xm_cpok xm_K13) (by decide +kernel)
theorem xm_ok214 : xe_ok xm_T xm_i214 := xm_ok_of (cp := xm_cp xm_L13) (j1 := 1604) (j2 := 147) (j3 := 1602) (j4 := 1603) (j5 := 0) (xm_cpok xm_K13) (by decide +kernel)
theorem xm_ok215 : xe_ok xm_T xm_i215 := xm_ok_of (cp := xm_cp xm_L13) (j1 := 1608) (j2 := 147) (j3 := 1606) (j4 := 1607) (j5 := 0) (xm_cpok xm_K13) (by decide +kernel)
end
section
/-! every method, on -/
theorem xm_ok216 : xe_ok xm_T xm_i216 := xm_ok_of (cp := xm_cp xm_L13) (j1 := 1613) (j2 := 147) (j3 := 1611) (j4 := 1612) (j5 := 0) (xm_cpok xm_K13) (by decide +kernel)
theorem xm_ok217 : xe_ok xm_T xm_i217 := xm_ok_of (cp := xm_cp xm_L13) (j1 := 1629) (j2 := 147) (j3 := 1628) (j4 := 108) (j5 := 0) (xm_cpok xm_K13) (by decide +kernel)
theorem xm_ok218 : xe_ok xm_T xm_i218 := xm_ok_of (cp := xm_cp xm_L13) (j1 := 1634) (j2 := 147) (j3 := 1633) (j4 := 109) (j5 := 0) (xm_cpok xm_K13) (by decide +kernel)
theorem xm_ok219 : xe_ok xm_T xm_i219 := xm_ok_of (cp := xm_cp xm_L13) (j1 := 1625) (j2 := 147) (j3 := 1624) (j4 := 107) (j5 := 0) (xm_cpok xm_K13) (by decide +kernel)
theorem xm_ok220 : xe_ok xm_T xm_i220 := xm_ok_of (cp := xm_cp xm_L13) (j1 := 1621) (j2 := 147) (j3 := 1619) (j4 := 1620) (j5 := 0) (xm_cpok xm_K13) (by decide +kernel)
theorem xm_ok221 : xe_ok xm_T xm_i221 := xm_ok_of (cp := xm_cp xm_L13) (j1 := 1642) (j2 := 147) (j3 := 1640) (j4 := 1641) (j5 := 0) (xm_cpok xm_K13) (by decide +kernel)
theorem xm_ok222 : xe_ok xm_T xm_i222 := xm_ok_of (cp := xm_cp xm_L13) (j1 := 1646) (j2 := 147) (j3 := 1644) (j4 := 1645) (j5 := 0) (xm_cpok xm_K13) (by decide +kernel)
theorem xm_ok223 : xe_ok xm_T xm_i223 := xm_ok_of (cp := xm_cp xm_L13) (j1 := 1661) (j2 := 147) (j3 := 1660) (j4 := 112) (j5 := 0) (xm_cpok xm_K13) (by decide +kernel)
theorem xm_ok224 : xe_ok xm_T xm_i224 := xm_ok_of (cp := xm_cp xm_L13) (j1 := 1665) (j2 := 147) (j3 := 1664) (j4 := 113) (j5 := 0) (xm_cpok xm_K13) (by decide +kernel)
theorem xm_ok225 : xe_ok xm_T xm_i225 := xm_ok_of (cp := xm_cp xm_L13) (j1 := 1657) (j2 := 147) (j3 := 0) (j4 := 0) (j5 := 1656) (xm_cpok xm_K13) (by decide +kernel)
theorem xm_ok226 : xe_ok xm_T xm_i226 := xm_ok_of (cp := xm_cp xm_L13) (j1 := 1654) (j2 := 147) (j3 := 1653) (j4 := 111) (j5 := 0) (xm_cpok xm_K13) (by decide +kernel)
theorem xm_ok227 : xe_ok xm_T xm_i227 := xm_ok_of (cp := xm_cp xm_L13) (j1 := 1650) (j2 := 147) (j3 := 1648) (j4 := 1649) (j5 := 0) (xm_cpok xm_K13) (by decide +kernel)
theorem xm_ok228 : xe_ok xm_T xm_i228 := xm_ok_of (cp := xm_cp xm_L13) (j1 := 1673) (j2 := 147) (j3 := 1671) (j4 := 1672) (j5 := 0) (xm_cpok xm_K13) (by decide +kernel)
theorem xm_ok229 : xe_ok xm_T xm_i229 := xm_ok_of (cp := xm_cp xm_L13) (j1 := 1677) (j2 := 147) (j3 := 1675) (j4 := 1676) (j5 := 0) (xm_cpok xm_K13) (by decide +kernel)
theorem xm_ok230 : xe_ok xm_T xm_i230 := xm_ok_of (cp := xm_cp xm_L13) (j1 := 1681) (j2 := 147) (j3 := 1680) (j4 := 114) (j5 := 0) (xm_cpok xm_K13) (by decide +kernel)
theorem xm_ok231 : xe_ok xm_T xm_i231 := xm_ok_of (cp := xm_cp xm_L13) (j1 := 1689) (j2 := 147) (j3 := 1688) (j4 := 116) (j5 := 0) (xm_cpok xm_K13) (by decide +kernel)
theorem xm_ok232 : xe_ok xm_T xm_i232 := xm_ok_of (cp := xm_cp xm_L13) (j1 := 1692) (j2 := 147) (j3 := 0) (j4 := 0) (j5 := 1691) (xm_cpok xm_K13) (by decide +kernel)
theorem xm_ok233 : xe_ok xm_T xm_i233 := xm_ok_of (cp := xm_cp xm_L13) (j1 := 1696) (j2 := 147) (j3 := 1694) (j4 := 1695) (j5 := 0) (xm_cpok xm_K13) (by decide +kernel)
theorem xm_ok234 : xe_ok xm_T xm_i234 := xm_ok_of (cp := xm_cp xm_L13) (j1 := 1704) (j2 := 147) (j3 := 1703) (j4 := 117) (j5 := 0) (xm_cpok xm_K13) (by decide +kernel)
theorem xm_ok235 : xe_ok xm_T xm_i235 := xm_ok_of (cp := xm_cp xm_L13) (j1 := 1700) (j2 := 147) (j3 := 1698) (j4 := 1699) (j5 := 0) (xm_cpok xm_K13) (by decide +kernel)
theorem xm_ok236 : xe_ok xm_T xm_i236 := xm_ok_of (cp := xm_cp xm_L13) (j1 := 1708) (j2 := 147) (j3 := 1706) (j4 := 1707) (j5 := 0) (xm_cpok xm_K13) (by decide +kernel)
theorem xm_ok237 : xe_ok xm_T xm_i237 := xm_ok_of (cp := xm_cp xm_L13) (j1 := 1712) (j2 := 147) (j3 := 1710) (j4 := 1711) (j5 := 0) (xm_cpok xm_K13) (by decide +kernel)
theorem xm_ok238 : xe_ok xm_T xm_i238 := xm_ok_of (cp := xm_cp xm_L13) (j1 := 1716) (j2 := 147) (j3 := 1714) (j4 := 1715) (j5 := 0) (xm_cpok xm_K13) (by decide +kernel)
theorem xm_ok239 : xe_ok xm_T xm_i239 := xm_ok_of (cp := xm_cp xm_L13) (j1 := 1720) (j2 := 147) (j3 := 1718) (j4 := 1719) (j5 := 0) (xm_cpok xm_K13) (by decide +kernel)
theorem xm_ok240 : xe_ok xm_T xm_i240 := xm_ok_of (cp := xm_cp xm_L13) (j1 := 1724) (j2 := 147) (j3 := 1722) (j4 := 1723) (j5 := 0) (xm_cpok xm_K13) (by decide +kernel)
theorem xm_ok241 : xe_ok xm_T xm_i241 := xm_ok_of (cp := xm_cp xm_L13) (j1 := 1735) (j2 := 147) (j3 := 1734) (j4 := 118) (j5 := 0) (xm_cpok xm_K13) (by decide +kernel)
theorem xm_ok242 : xe_ok xm_T xm_i242 := xm_ok_of (cp := xm_cp xm_L13) (j1 := 1743) (j2 := 147) (j3 := 1742) (j4 := 120) (j5 := 0) (xm_cpok xm_K13) (by decide +kernel)
theorem xm_ok243 : xe_ok xm_T xm_i243 := xm_ok_of (cp := xm_cp xm_L13) (j1 := 1739) (j2 := 147) (j3 := 1738) (j4 := 119) (j5 := 0) (xm_cpok xm_K13) (by decide +kernel)
theorem xm_ok244 : xe_ok xm_T xm_i244 := xm_ok_of (cp := xm_cp xm_L13) (j1 := 1767) (j2 := 147) (j3 := 1766) (j4 := 123) (j5 := 0) (xm_cpok xm_K13) (by decide +kernel)
theorem xm_ok245 : xe_ok xm_T xm_i245 := xm_ok_of (cp := xm_cp xm_L13) (j1 := 1728) (j2 := 147) (j3 := 1726) (j4 := 1727) (j5 := 0) (xm_cpok xm_K13) (by decide +kernel)
theorem xm_ok246 : xe_ok xm_T xm_i246 := xm_ok_of (cp := xm_cp xm_L13) (j1 := 1747) (j2 := 147) (j3 := 1745) (j4 := 1746) (j5 := 0) (xm_cpok xm_K13) (by decide +kernel)
theorem xm_ok247 : xe_ok xm_T xm_i247 := xm_ok_of (cp := xm_cp xm_L13) (j1 := 1751) (j2 := 147) (j3 := 1749) (j4 := 1750) (j5 := 0) (xm_cpok xm_K13) (by decide +kernel)
theorem xm_ok248 : xe_ok xm_T xm_i248 := xm_ok_of (cp := xm_cp xm_L13) (j1 := 1763) (j2 := 147) (j3 := 1762) (j4 := 122) (j5 := 0) (xm_cpok xm_K13) (by decide +kernel)
theorem xm_ok249 : xe_ok xm_T xm_i249 := xm_ok_of (cp := xm_cp xm_L13) (j1 := 1771) (j2 := 147) (j3 := 1770) (j4 := 124) (j5 := 0) (xm_cpok xm_K13) (by decide +kernel)
theorem xm_ok250 : xe_ok xm_T xm_i250 := xm_ok_of (cp := xm_cp xm_L13) (j1 := 1759) (j2 := 147) (j3 := 1758) (j4 := 121) (j5 := 0) (xm_cpok xm_K13) (by decide +kernel)
theorem xm_ok251 : xe_ok xm_T xm_i251 := xm_ok_of (cp := xm_cp xm_L13) (j1 := 1755) (j2 := 147) (j3 := 1753) (j4 := 1754) (j5 := 0) (xm_cpok xm_K13) (by decide +kernel)
theorem xm_ok252 : xe_ok xm_T xm_i252 := xm_ok_of (cp := xm_cp xm_L13) (j1 := 1775) (j2 := 147) (j3 := 1773) (j4 := 1774) (j5 := 0) (xm_cpok xm_K13) (by decide +kernel)
theorem xm_ok253 : xe_ok xm_T xm_i253 := xm_ok_of (cp := xm_cp xm_L13) (j1 := 1779) (j2 := 147) (j3 := 1777) (j4 := 1778) (j5 := 0) (xm_cpok xm_K13) (by decide +kernel)
theorem xm_ok254 : xe_ok xm_T xm_i254 := xm_ok_of (cp := xm_cp xm_L13) (j1 := 1783) (j2 := 147) (j3 := 1781) (j4 := 1782) (j5 := 0) (xm_cpok xm_K13) (by decide +kernel)
theorem xm_ok255 : xe_ok xm_T xm_i255 := xm_ok_of (cp := xm_cp xm_L13) (j1 := 1787) (j2 := 147) (j3 := 1785) (j4 := 1786) (j5 := 0) (xm_cpok xm_K13) (by decide +kernel)
theorem xm_ok256 : xe_ok xm_T xm_i256 := xm_ok_of (cp := xm_cp xm_L13) (j1 := 1791) (j2 := 147) (j3 := 1789) (j4 := 1790) (j5 := 0) (xm_cpok xm_K13) (by decide +kernel)
theorem xm_ok257 : xe_ok xm_T xm_i257 := xm_ok_of (cp := xm_cp xm_L13) (j1 := 1795) (j2 := 147) (j3 := 1793) (j4 := 1794) (j5 := 0) (xm_cpok xm_K13) (by decide +kernel)
theorem xm_ok258 : xe_ok xm_T xm_i258 := xm_ok_of (cp := xm_cp xm_L13) (j1 := 1799) (j2 := 147) (j3 := 1797) (j4 := 1798) (j5 := 0) (xm_cpok xm_K13) (by decide +kernel)
theorem xm_ok259 : xe_ok xm_T xm_i259 := xm_ok_of (cp := xm_cp xm_L13) (j1 := 1807) (j2 := 147) (j3 := 1806) (j4 := 125) (j5 := 0) (xm_cpok xm_K13) (by decide +kernel)
theorem xm_ok260 : xe_ok xm_T xm_i260 := xm_ok_of (cp := xm_cp xm_L13) (j1 := 1803) (j2 := 147) (j3 := 1801) (j4 := 1802) (j5 := 0) (xm_cpok xm_K13) (by decide +kernel)
theorem xm_ok261 : xe_ok xm_T xm_i261 := xm_ok_of (cp := xm_cp xm_L13) (j1 := 1811) (j2 := 147) (j3 := 1809) (j4 := 1810) (j5 := 0) (xm_cpok xm_K13) (by decide +kernel)
theorem xm_ok262 : xe_ok xm_T xm_i262 := xm_ok_of (cp := xm_cp xm_L13) (j1 := 1819) (j2 := 147) (j3 := 1818) (j4 := 126) (j5 := 0) (xm_cpok xm_K13) (by decide +kernel)
theorem xm_ok263 : xe_ok xm_T xm_i263 := xm_ok_of (cp := xm_cp xm_L13) (j1 := 1815) (j2 := 147) (j3 := 1813) (j4 := 1814) (j5 := 0) (xm_cpok xm_K13) (by decide +kernel)
theorem xm_ok264 : xe_ok xm_T xm_i264 := xm_ok_of (cp := xm_cp xm_L13) (j1 := 1823) (j2 := 147) (j3 := 1821) (j4 := 1822) (j5 := 0) (xm_cpok xm_K13) (by decide +kernel)
theorem xm_ok265 : xe_ok xm_T xm_i265 := xm_ok_of (cp := xm_cp xm_L13) (j1 := 1827) (j2 := 147) (j3 := 1825) (j4 := 1826) (j5 := 0) (xm_cpok xm_K13) (by decide +kernel)
theorem xm_ok266 : xe_ok xm_T xm_i266 := xm_ok_of (cp := xm_cp xm_L13) (j1 := 1847) (j2 := 147) (j3 := 1846) (j4 := 130) (j5 := 0) (xm_cpok xm_K13) (by decide +kernel)
theorem xm_ok267 : xe_ok xm_T xm_i267 := xm_ok_of (cp := xm_cp xm_L13) (j1 := 1843) (j2 := 147) (j3 := 1842) (j4 := 129) (j5 := 0) (xm_cpok xm_K13) (by decide +kernel)
theorem xm_ok268 : xe_ok xm_T xm_i268 := xm_ok_of (cp := xm_cp xm_L13) (j1 := 1839) (j2 := 147) (j3 := 1838) (j4 := 128) (j5 := 0) (xm_cpok xm_K13) (by decide +kernel)
theorem xm_ok269 : xe_ok xm_T xm_i269 := xm_ok_of (cp := xm_cp xm_L13) (j1 := 1855) (j2 := 147) (j3 := 1854) (j4 := 131) (j5 := 0) (xm_cpok xm_K13) (by decide +kernel)
theorem xm_ok270 : xe_ok xm_T xm_i270 := xm_ok_of (cp := xm_cp xm_L13) (j1 := 1835) (j2 := 147) (j3 := 1834) (j4 := 127) (j5 := 0) (xm_cpok xm_K13) (by decide +kernel)
theorem xm_ok271 : xe_ok xm_T xm_i271 := xm_ok_of (cp := xm_cp xm_L13) (j1 := 1831) (j2 := 147) (j3 := 1829) (j4 := 1830) (j5 := 0) (xm_cpok xm_K13) (by decide +kernel)
theorem xm_ok272 : xe_ok xm_T xm_i272 := xm_ok_of (cp := xm_cp xm_L13) (j1 := 1851) (j2 := 147) (j3 := 1849) (j4 := 1850) (j5 := 0) (xm_cpok xm_K13) (by decide +kernel)
theorem xm_ok273 : xe_ok xm_T xm_i273 := xm_ok_of (cp := xm_cp xm_L13) (j1 := 1859) (j2 := 147) (j3 := 1857) (j4 := 1858) (j5 := 0) (xm_cpok xm_K13) (by decide +kernel)
theorem xm_ok274 : xe_ok xm_T xm_i274 := xm_ok_of (cp := xm_cp xm_L13) (j1 := 1863) (j2 := 147) (j3 := 1861) (j4 := 1862) (j5 := 0) (xm_cpok xm_K13) (by decide +kernel)
theorem xm_ok275 : xe_ok xm_T xm_i275 := xm_ok_of (cp := xm_cp xm_L13) (j1 := 1867) (j2 := 147) (j3 := 1865) (j4 := 1866) (j5 := 0) (xm_cpok xm_K13) (by decide +kernel)
theorem xm_ok276 : xe_ok xm_T xm_i276 := xm_ok_of (cp := xm_cp xm_L13) (j1 := 1871) (j2 := 147) (j3 := 1869) (j4 := 1870) (j5 := 0) (xm_cpok xm_K13) (by decide +kernel)
theorem xm_ok277 : xe_ok xm_T xm_i277 := xm_ok_of (cp := xm_cp xm_L13) (j1 := 1879) (j2 := 147) (j3 := 1878) (j4 := 132) (j5 := 0) (xm_cpok xm_K13) (by decide +kernel)
theorem xm_ok278 : xe_ok xm_T xm_i278 := xm_ok_of (cp := xm_cp xm_L13) (j1 := 1875) (j2 := 147) (j3 := 1873) (j4 := 1874) (j5 := 0) (xm_cpok xm_K13) (by decide +kernel)
theorem xm_ok279 : xe_ok xm_T xm_i279 := xm_ok_of (cp := xm_cp xm_L13) (j1 := 1883) (j2 := 147) (j3 := 1881) (j4 := 1882) (j5 := 0) (xm_cpok xm_K13) (by decide +kernel)
theorem xm_ok280 : xe_ok xm_T xm_i280 := xm_ok_of (cp := xm_cp xm_L13) (j1 := 1891) (j2 := 147) (j3 := 1890) (j4 := 133) (j5 := 0) (xm_cpok xm_K13) (by decide +kernel)
theorem xm_ok281 : xe_ok xm_T xm_i281 := xm_ok_of (cp := xm_cp xm_L13) (j1 := 1887) (j2 := 147) (j3 := 1885) (j4 := 1886) (j5 := 0) (xm_cpok xm_K13) (by decide +kernel)
theorem xm_ok282 : xe_ok xm_T xm_i282 := xm_ok_of (cp := xm_cp xm_L13) (j1 := 1895) (j2 := 147) (j3 := 1893) (j4 := 1894) (j5 := 0) (xm_cpok xm_K13) (by decide +kernel)
theorem xm_ok283 : xe_ok xm_T xm_i283 := xm_ok_of (cp := xm_cp xm_L13) (j1 := 1899) (j2 := 147) (j3 := 1897) (j4 := 1898) (j5 := 0) (xm_cpok xm_K13) (by decide +kernel)
theorem xm_ok284 : xe_ok xm_T xm_i284 := xm_ok_of (cp := xm_cp xm_L13) (j1 := 1904) (j2 := 147) (j3 := 1902) (j4 := 1903) (j5 := 0) (xm_cpok xm_K13) (by decide +kernel)
theorem xm_ok285 : xe_ok xm_T xm_i285 := xm_ok_of (cp := xm_cp xm_L13) (j1 := 1908) (j2 := 147) (j3 := 1906) (j4 := 1907) (j5 := 0) (xm_cpok xm_K13) (by decide +kernel)
theorem xm_ok286 : xe_ok xm_T xm_i286 := xm_ok_of (cp := xm_cp xm_L13) (j1 := 1912) (j2 := 147) (j3 := 1910) (j4 := 1911) (j5 := 0) (xm_cpok xm_K13) (by decide +kernel)
theorem xm_ok287 : xe_ok xm_T xm_i287 := xm_ok_of (cp := xm_cp xm_L13) (j1 := 1916) (j2 := 147) (j3 := 1914) (j4 := 1915) (j5 := 0) (xm_cpok xm_K13) (by decide +kernel)
end
section
/-! the law keeps to its bytes -/
theorem xm_lk0 : ((List.range 60).all (fun j => match xm_law[0 + j]? with | some ins => xe_chk (xm_cp xm_L14) code 5 "NinthDayHoodedLaw" ret xm_lawp (0 + j) ins | none => false)) = true := by decide +kernel
theorem xm_lk1 : ((List.range 60).all (fun j => match xm_law[60 + j]? with | some ins => xe_chk (xm_cp xm_L14) code 5 "NinthDayHoodedLaw" ret xm_lawp (60 + j) ins | none => false)) = true := by decide +kernel
theorem xm_lk2 : ((List.range 60).all (fun j => match xm_law[120 + j]? with | some ins => xe_chk (xm_cp xm_L14) code 5 "NinthDayHoodedLaw" ret xm_lawp (120 + j) ins | none => false)) = true := by decide +kernel
theorem xm_lk3 : ((List.range 60).all (fun j => match xm_law[180 + j]? with | some ins => xe_chk (xm_cp xm_L14) code 5 "NinthDayHoodedLaw" ret xm_lawp (180 + j) ins | none => false)) = true := by decide +kernel
theorem xm_lk4 : ((List.range 60).all (fun j => match xm_law[240 + j]? with | some ins => xe_chk (xm_cp xm_L14) code 5 "NinthDayHoodedLaw" ret xm_lawp (240 + j) ins | none => false)) = true := by decide +kernel
theorem xm_lk5 : ((List.range 60).all (fun j => match xm_law[300 + j]? with | some ins => xe_chk (xm_cp xm_L14) code 5 "NinthDayHoodedLaw" ret xm_lawp (300 + j) ins | none => false)) = true := by decide +kernel
theorem xm_lk6 : ((List.range 60).all (fun j => match xm_law[360 + j]? with | some ins => xe_chk (xm_cp xm_L14) code 5 "NinthDayHoodedLaw" ret xm_lawp (360 + j) ins | none => false)) = true := by decide +kernel
theorem xm_lk7 : ((List.range 60).all (fun j => match xm_law[420 + j]? with | some ins => xe_chk (xm_cp xm_L14) code 5 "NinthDayHoodedLaw" ret xm_lawp (420 + j) ins | none => false)) = true := by decide +kernel
theorem xm_lk8 : ((List.range 60).all (fun j => match xm_law[480 + j]? with | some ins => xe_chk (xm_cp xm_L14) code 5 "NinthDayHoodedLaw" ret xm_lawp (480 + j) ins | none => false)) = true := by decide +kernel
theorem xm_lk9 : ((List.range 60).all (fun j => match xm_law[540 + j]? with | some ins => xe_chk (xm_cp xm_L14) code 5 "NinthDayHoodedLaw" ret xm_lawp (540 + j) ins | none => false)) = true := by decide +kernel
theorem xm_lk10 : ((List.range 60).all (fun j => match xm_law[600 + j]? with | some ins => xe_chk (xm_cp xm_L14) code 5 "NinthDayHoodedLaw" ret xm_lawp (600 + j) ins | none => false)) = true := by decide +kernel
theorem xm_lk11 : ((List.range 60).all (fun j => match xm_law[660 + j]? with | some ins => xe_chk (xm_cp xm_L14) code 5 "NinthDayHoodedLaw" ret xm_lawp (660 + j) ins | none => false)) = true := by decide +kernel
theorem xm_lk12 : ((List.range 60).all (fun j => match xm_law[720 + j]? with | some ins => xe_chk (xm_cp xm_L14) code 5 "NinthDayHoodedLaw" ret xm_lawp (720 + j) ins | none => false)) = true := by decide +kernel
theorem xm_lk13 : ((List.range 60).all (fun j => match xm_law[780 + j]? with | some ins => xe_chk (xm_cp xm_L14) code 5 "NinthDayHoodedLaw" ret xm_lawp (780 + j) ins | none => false)) = true := by decide +kernel
theorem xm_lk14 : ((List.range 60).all (fun j => match xm_law[840 + j]? with | some ins => xe_chk (xm_cp xm_L14) code 5 "NinthDayHoodedLaw" ret xm_lawp (840 + j) ins | none => false)) = true := by decide +kernel
theorem xm_lk15 : ((List.range 60).all (fun j => match xm_law[900 + j]? with | some ins => xe_chk (xm_cp xm_L14) code 5 "NinthDayHoodedLaw" ret xm_lawp (900 + j) ins | none => false)) = true := by decide +kernel
theorem xm_lk16 : ((List.range 60).all (fun j => match xm_law[960 + j]? with | some ins => xe_chk (xm_cp xm_L14) code 5 "NinthDayHoodedLaw" ret xm_lawp (960 + j) ins | none => false)) = true := by decide +kernel
theorem xm_lk17 : ((List.range 33).all (fun j => match xm_law[1020 + j]? with | some ins => xe_chk (xm_cp xm_L14) code 5 "NinthDayHoodedLaw" ret xm_lawp (1020 + j) ins | none => false)) = true := by decide +kernel
theorem xm_lawlen : xm_law.length = 1053 := by decide +kernel
theorem xm_lawchk : ∀ (i : Nat) (ins : Instr), xm_law[i]? = some ins → xe_chk (xm_cp xm_L14) code 5 "NinthDayHoodedLaw" ret xm_lawp i ins = true := by
  intro i ins h
  have hl := (List.getElem?_eq_some_iff.mp h).1
  rw [xm_lawlen] at hl
  have go : ∀ (a n : Nat), ((List.range n).all (fun j => match xm_law[a + j]? with | some ins => xe_chk (xm_cp xm_L14) code 5 "NinthDayHoodedLaw" ret xm_lawp (a + j) ins | none => false)) = true → a ≤ i → i < a + n → xe_chk (xm_cp xm_L14) code 5 "NinthDayHoodedLaw" ret xm_lawp i ins = true := by
    intro a n hk h1 h2
    have := List.all_eq_true.mp hk (i - a) (List.mem_range.mpr (by omega))
    rw [show a + (i - a) = i by omega, h] at this
    exact this
  by_cases q0 : i < 60
  · exact go 0 60 xm_lk0 (by omega) (by omega)
  by_cases q1 : i < 120
  · exact go 60 60 xm_lk1 (by omega) (by omega)
  by_cases q2 : i < 180
  · exact go 120 60 xm_lk2 (by omega) (by omega)
  by_cases q3 : i < 240
  · exact go 180 60 xm_lk3 (by omega) (by omega)
  by_cases q4 : i < 300
  · exact go 240 60 xm_lk4 (by omega) (by omega)
  by_cases q5 : i < 360
  · exact go 300 60 xm_lk5 (by omega) (by omega)
  by_cases q6 : i < 420
  · exact go 360 60 xm_lk6 (by omega) (by omega)
  by_cases q7 : i < 480
  · exact go 420 60 xm_lk7 (by omega) (by omega)
  by_cases q8 : i < 540
  · exact go 480 60 xm_lk8 (by omega) (by omega)
  by_cases q9 : i < 600
  · exact go 540 60 xm_lk9 (by omega) (by omega)
  by_cases q10 : i < 660
  · exact go 600 60 xm_lk10 (by omega) (by omega)
  by_cases q11 : i < 720
  · exact go 660 60 xm_lk11 (by omega) (by omega)
  by_cases q12 : i < 780
  · exact go 720 60 xm_lk12 (by omega) (by omega)
  by_cases q13 : i < 840
  · exact go 780 60 xm_lk13 (by omega) (by omega)
  by_cases q14 : i < 900
  · exact go 840 60 xm_lk14 (by omega) (by omega)
  by_cases q15 : i < 960
  · exact go 900 60 xm_lk15 (by omega) (by omega)
  by_cases q16 : i < 1020
  · exact go 960 60 xm_lk16 (by omega) (by omega)
  by_cases q17 : i < 1053
  · exact go 1020 33 xm_lk17 (by omega) (by omega)
  omega
end
section
/-! THE MEMORY once all is made: a number of ints (d) and of longs (e) at each place. -/
/-- a reference that may change: its place as an int, 0 for null -/
def xd_r (x : Int32) : Value := if x = 0 then .null else .ref x.toNatClampNeg
def xd_cell (L : Nat) (k : Nat) (f : Nat → Int32) (g : Nat → Int64) : va_E := (if k < 89 then (if k < 44 then (if k < 22 then (if k < 11 then (if k < 5 then (if k < 2 then (if k < 1 then .inl (1, L, .inl f) else .inr (11, [.ref 2, .ref 4, .ref 6, .ref 11, .ref 17, .ref 23, .ref 111, .ref 118, .ref 127, .ref 136, .ref 142])) else (if k < 3 then .inr (7, [.ref 3, .int (f 1)]) else (if k < 4 then .inl (1, 80, .inl f) else .inr (3, [.ref 5, .int (f 1)])))) else (if k < 8 then (if k < 6 then .inl (1, 12, .inl f) else (if k < 7 then .inr (2, [.ref 7, .ref 8, .ref 9, .ref 10, .int (f 4)]) else .inl (1, 81, .inl f))) else (if k < 9 then .inl (1, 81, .inl f) else (if k < 10 then .inl (1, 4, .inl f) else .inl (1, 512, .inl f))))) else (if k < 16 then (if k < 13 then (if k < 12 then .inr (5, [.ref 12, .ref 13, .ref 14, .ref 15, .ref 16, .int (f 5)]) else .inl (1, 9, .inl f)) else (if k < 14 then .inl (1, 9, .inl f) else (if k < 15 then .inl (1, 9, .inl f) else .inl (1, 54, .inl f)))) else (if k < 19 then (if k < 17 then .inl (2, 30, .inr (.inl g)) else (if k < 18 then .inr (5, [.ref 18, .ref 19, .ref 20, .ref 21, .ref 22, .int (f 5)]) else .inl (1, 9, .inl f))) else (if k < 20 then .inl (1, 9, .inl f) else (if k < 21 then .inl (1, 9, .inl f) else .inl (1, 54, .inl f)))))) else (if k < 33 then (if k < 27 then (if k < 24 then (if k < 23 then .inl (2, 30, .inr (.inl g)) else .inr (1, [.ref 24, .ref 25, .ref 26, .int (f 3), .int (f 4)])) else (if k < 25 then .inl (4, 12, .inr (.inr (.inr (.inr (fun i => if i < 12 then some (27 + 6 * i) else none))))) else (if k < 26 then .inl (4, 2, .inr (.inr (.inr (.inr (fun i => if i < 2 then some (99 + 6 * i) else none))))) else .inl (1, 2, .inl f)))) else (if k < 30 then (if k < 28 then .inr (5, [.ref 28, .ref 29, .ref 30, .ref 31, .ref 32, .int (f 5)]) else (if k < 29 then .inl (1, 9, .inl f) else .inl (1, 9, .inl f))) else (if k < 31 then .inl (1, 9, .inl f) else (if k < 32 then .inl (1, 54, .inl f) else .inl (2, 30, .inr (.inl g)))))) else (if k < 38 then (if k < 35 then (if k < 34 then .inr (5, [.ref 34, .ref 35, .ref 36, .ref 37, .ref 38, .int (f 5)]) else .inl (1, 9, .inl f)) else (if k < 36 then .inl (1, 9, .inl f) else (if k < 37 then .inl (1, 9, .inl f) else .inl (1, 54, .inl f)))) else (if k < 41 then (if k < 39 then .inl (2, 30, .inr (.inl g)) else (if k < 40 then .inr (5, [.ref 40, .ref 41, .ref 42, .ref 43, .ref 44, .int (f 5)]) else .inl (1, 9, .inl f))) else (if k < 42 then .inl (1, 9, .inl f) else (if k < 43 then .inl (1, 9, .inl f) else .inl (1, 54, .inl f))))))) else (if k < 66 then (if k < 55 then (if k < 49 then (if k < 46 then (if k < 45 then .inl (2, 30, .inr (.inl g)) else .inr (5, [.ref 46, .ref 47, .ref 48, .ref 49, .ref 50, .int (f 5)])) else (if k < 47 then .inl (1, 9, .inl f) else (if k < 48 then .inl (1, 9, .inl f) else .inl (1, 9, .inl f)))) else (if k < 52 then (if k < 50 then .inl (1, 54, .inl f) else (if k < 51 then .inl (2, 30, .inr (.inl g)) else .inr (5, [.ref 52, .ref 53, .ref 54, .ref 55, .ref 56, .int (f 5)]))) else (if k < 53 then .inl (1, 9, .inl f) else (if k < 54 then .inl (1, 9, .inl f) else .inl (1, 9, .inl f))))) else (if k < 60 then (if k < 57 then (if k < 56 then .inl (1, 54, .inl f) else .inl (2, 30, .inr (.inl g))) else (if k < 58 then .inr (5, [.ref 58, .ref 59, .ref 60, .ref 61, .ref 62, .int (f 5)]) else (if k < 59 then .inl (1, 9, .inl f) else .inl (1, 9, .inl f)))) else (if k < 63 then (if k < 61 then .inl (1, 9, .inl f) else (if k < 62 then .inl (1, 54, .inl f) else .inl (2, 30, .inr (.inl g)))) else (if k < 64 then .inr (5, [.ref 64, .ref 65, .ref 66, .ref 67, .ref 68, .int (f 5)]) else (if k < 65 then .inl (1, 9, .inl f) else .inl (1, 9, .inl f)))))) else (if k < 77 then (if k < 71 then (if k < 68 then (if k < 67 then .inl (1, 9, .inl f) else .inl (1, 54, .inl f)) else (if k < 69 then .inl (2, 30, .inr (.inl g)) else (if k < 70 then .inr (5, [.ref 70, .ref 71, .ref 72, .ref 73, .ref 74, .int (f 5)]) else .inl (1, 9, .inl f)))) else (if k < 74 then (if k < 72 then .inl (1, 9, .inl f) else (if k < 73 then .inl (1, 9, .inl f) else .inl (1, 54, .inl f))) else (if k < 75 then .inl (2, 30, .inr (.inl g)) else (if k < 76 then .inr (5, [.ref 76, .ref 77, .ref 78, .ref 79, .ref 80, .int (f 5)]) else .inl (1, 9, .inl f))))) else (if k < 83 then (if k < 80 then (if k < 78 then .inl (1, 9, .inl f) else (if k < 79 then .inl (1, 9, .inl f) else .inl (1, 54, .inl f))) else (if k < 81 then .inl (2, 30, .inr (.inl g)) else (if k < 82 then .inr (5, [.ref 82, .ref 83, .ref 84, .ref 85, .ref 86, .int (f 5)]) else .inl (1, 9, .inl f)))) else (if k < 86 then (if k < 84 then .inl (1, 9, .inl f) else (if k < 85 then .inl (1, 9, .inl f) else .inl (1, 54, .inl f))) else (if k < 87 then .inl (2, 30, .inr (.inl g)) else (if k < 88 then .inr (5, [.ref 88, .ref 89, .ref 90, .ref 91, .ref 92, .int (f 5)]) else .inl (1, 9, .inl f)))))))) else (if k < 133 then (if k < 111 then (if k < 100 then (if k < 94 then (if k < 91 then (if k < 90 then .inl (1, 9, .inl f) else .inl (1, 9, .inl f)) else (if k < 92 then .inl (1, 54, .inl f) else (if k < 93 then .inl (2, 30, .inr (.inl g)) else .inr (5, [.ref 94, .ref 95, .ref 96, .ref 97, .ref 98, .int (f 5)])))) else (if k < 97 then (if k < 95 then .inl (1, 9, .inl f) else (if k < 96 then .inl (1, 9, .inl f) else .inl (1, 9, .inl f))) else (if k < 98 then .inl (1, 54, .inl f) else (if k < 99 then .inl (2, 30, .inr (.inl g)) else .inr (5, [.ref 100, .ref 101, .ref 102, .ref 103, .ref 104, .int (f 5)]))))) else (if k < 105 then (if k < 102 then (if k < 101 then .inl (1, 9, .inl f) else .inl (1, 9, .inl f)) else (if k < 103 then .inl (1, 9, .inl f) else (if k < 104 then .inl (1, 54, .inl f) else .inl (2, 30, .inr (.inl g))))) else (if k < 108 then (if k < 106 then .inr (5, [.ref 106, .ref 107, .ref 108, .ref 109, .ref 110, .int (f 5)]) else (if k < 107 then .inl (1, 9, .inl f) else .inl (1, 9, .inl f))) else (if k < 109 then .inl (1, 9, .inl f) else (if k < 110 then .inl (1, 54, .inl f) else .inl (2, 30, .inr (.inl g))))))) else (if k < 122 then (if k < 116 then (if k < 113 then (if k < 112 then .inr (4, [.ref 112, .ref 113, .ref 114, .ref 115, .ref 116, .ref 117, .int (f 6), .int (f 7), .int (f 8), .int (f 9), .int (f 10), .int (f 11)]) else .inl (1, 40, .inl f)) else (if k < 114 then .inl (1, 40, .inl f) else (if k < 115 then .inl (1, 40, .inl f) else .inl (1, 40, .inl f)))) else (if k < 119 then (if k < 117 then .inl (1, 7, .inl f) else (if k < 118 then .inl (3, 5, .inl f) else .inr (9, [.ref 119, .ref 126, .int (f 2), .int (f 3), .int (f 4)]))) else (if k < 120 then .inr (0, [.ref 120, .ref 121, .ref 122, .ref 123, .ref 124, .ref 125, .int (f 6), .int (f 7), .int (f 8)]) else (if k < 121 then .inl (1, 9, .inl f) else .inl (1, 9, .inl f))))) else (if k < 127 then (if k < 124 then (if k < 123 then .inl (1, 9, .inl f) else .inl (1, 9, .inl f)) else (if k < 125 then .inl (1, 81, .inl f) else (if k < 126 then .inl (1, 10, .inl f) else .inl (1, 9, .inl f)))) else (if k < 130 then (if k < 128 then .inr (6, [.ref 128, .ref 129, .ref 130, .ref 131, .ref 132, .ref 133, .ref 134, .ref 135, .int (f 8), .int (f 9), .int (f 10)]) else (if k < 129 then .inl (1, 6, .inl f) else .inl (1, 6, .inl f))) else (if k < 131 then .inl (1, 64, .inl f) else (if k < 132 then .inl (1, 64, .inl f) else .inl (1, 512, .inl f))))))) else (if k < 155 then (if k < 144 then (if k < 138 then (if k < 135 then (if k < 134 then .inl (1, 9, .inl f) else .inl (1, 2, .inl f)) else (if k < 136 then .inl (1, 2, .inl f) else (if k < 137 then .inr (10, [.ref 137, .ref 138, .ref 139, .ref 140, .ref 141, .int (f 5)]) else .inl (1, 12, .inl f)))) else (if k < 141 then (if k < 139 then .inl (1, 12, .inl f) else (if k < 140 then .inl (1, 12, .inl f) else .inl (1, 9, .inl f))) else (if k < 142 then .inl (1, 9, .inl f) else (if k < 143 then .inr (8, [.ref 143, .ref 144, .ref 145, .int (f 3)]) else .inl (1, 10, .inl f))))) else (if k < 149 then (if k < 146 then (if k < 145 then .inl (1, 10, .inl f) else .inl (1, 10, .inl f)) else (if k < 147 then .inr (12, [.ref 147, .int (f 1), .ref 148, .ref 149, .ref 150, .int (f 5), .ref 151, .int (f 7), .int (f 8), xd_r (f 9), .int (f 10), .int (f 11), .int (f 12), .int (f 13), .ref 152, .ref 153, .int (f 16), xd_r (f 17), .int (f 18), .int (f 19), .int (f 20), .ref 154, .ref 155, .ref 156, .ref 157, .int (f 25), .int (f 26), .int (f 27), .int (f 28), .int (f 29), .ref 158, .int (f 31), .ref 159, .ref 160, .int (f 34), .ref 161, .ref 162, .ref 163, .int (f 38), .ref 164, .ref 165, .int (f 41), .ref 166, .int (f 43), .ref 167, .ref 168, .int (f 46), .ref 169, .ref 170, .int (f 49), .ref 171, .int (f 51), .ref 172, .ref 173, .int (f 54), .int (f 55), .int (f 56), .int (f 57), .ref 174, .ref 175, .ref 176]) else (if k < 148 then .inl (1, 353, .inl f) else .inl (1, 81, .inl f)))) else (if k < 152 then (if k < 150 then .inl (1, 81, .inl f) else (if k < 151 then .inl (0, 80, .inl f) else .inl (1, 20, .inl f))) else (if k < 153 then .inl (1, 27, .inl f) else (if k < 154 then .inl (0, 40, .inl f) else .inl (1, 9, .inl f)))))) else (if k < 166 then (if k < 160 then (if k < 157 then (if k < 156 then .inl (1, 9, .inl f) else .inl (1, 9, .inl f)) else (if k < 158 then .inl (1, 81, .inl f) else (if k < 159 then .inl (1, 4236, .inl f) else .inl (1, 353, .inl f)))) else (if k < 163 then (if k < 161 then .inl (1, 240, .inl f) else (if k < 162 then .inl (1, 9, .inl f) else .inl (1, 353, .inl f))) else (if k < 164 then .inl (1, 12, .inl f) else (if k < 165 then .inl (1, 10, .inl f) else .inl (1, 10, .inl f))))) else (if k < 172 then (if k < 169 then (if k < 167 then .inl (1, 18, .inl f) else (if k < 168 then .inl (1, 4, .inl f) else .inl (1, 36, .inl f))) else (if k < 170 then .inl (1, 9, .inl f) else (if k < 171 then .inl (1, 9, .inl f) else .inl (1, 4, .inl f)))) else (if k < 175 then (if k < 173 then .inl (1, 512, .inl f) else (if k < 174 then .inl (1, 20, .inl f) else .inl (1, 706, .inl f))) else (if k < 176 then .inl (3, 2, .inl f) else (if k < 177 then .inl (1, 2, .inl f) else .inl (2, 1, .inr (.inl g))))))))))
abbrev xd_D : Type := Nat → Nat → Int32
abbrev xd_E : Type := Nat → Nat → Int64
def xd_mem (L : Nat) (d : xd_D) (e : xd_E) : xe_M := fun k => xd_cell L k (d k) (e k)
theorem xd_put (L : Nat) (d : xd_D) (e : xd_E) (p : Nat) (f : Nat → Int32) (c : va_E) (h : xd_cell L p f (e p) = c) : va_up (xd_mem L d e) p c = xd_mem L (va_up d p f) e := by
  funext j
  by_cases hj : j = p
  · subst hj
    simp only [va_up, if_true, xd_mem]
    exact h.symm
  · simp only [va_up, if_neg hj, xd_mem]
theorem xd_putL (L : Nat) (d : xd_D) (e : xd_E) (p : Nat) (f : Nat → Int64) (c : va_E) (h : xd_cell L p (d p) f = c) : va_up (xd_mem L d e) p c = xd_mem L d (va_up e p f) := by
  funext j
  by_cases hj : j = p
  · subst hj
    simp only [va_up, if_true, xd_mem]
    exact h.symm
  · simp only [va_up, if_neg hj, xd_mem]
def xd_isS (s : Nat) : Bool := [11, 17, 27, 33, 39, 45, 51, 57, 63, 69, 75, 81, 87, 93, 99, 105].contains s
theorem xd_S {s : Nat} (h : xd_isS s = true) (L : Nat) (f : Nat → Int32) (g : Nat → Int64) : xd_cell L s f g = .inr (5, [.ref (s + 1), .ref (s + 2), .ref (s + 3), .ref (s + 4), .ref (s + 5), .int (f 5)]) ∧ xd_cell L (s + 1) f g = .inl (1, 9, .inl f) ∧ xd_cell L (s + 2) f g = .inl (1, 9, .inl f) ∧ xd_cell L (s + 3) f g = .inl (1, 9, .inl f) ∧ xd_cell L (s + 4) f g = .inl (1, 54, .inl f) ∧ xd_cell L (s + 5) f g = .inl (2, 30, .inr (.inl g)) ∧ 0 < s ∧ s + 5 < 178 := by
  have h1 : s ∈ [11, 17, 27, 33, 39, 45, 51, 57, 63, 69, 75, 81, 87, 93, 99, 105] := List.contains_iff_mem.mp h
  simp only [List.mem_cons, List.not_mem_nil, or_false] at h1
  rcases h1 with rfl | rfl | rfl | rfl | rfl | rfl | rfl | rfl | rfl | rfl | rfl | rfl | rfl | rfl | rfl | rfl <;> exact ⟨rfl, rfl, rfl, rfl, rfl, rfl, by decide, by decide⟩
/-- an int array of n places lies at a -/
def xd_A (a n : Nat) : Prop := 0 < a ∧ a < 178 ∧ ∀ (L : Nat) (f : Nat → Int32) (g : Nat → Int64), xd_cell L a f g = .inl (1, n, .inl f)
theorem xd_A3 : xd_A 3 80 := ⟨by decide, by decide, fun _ _ _ => rfl⟩
theorem xd_A5 : xd_A 5 12 := ⟨by decide, by decide, fun _ _ _ => rfl⟩
theorem xd_A7 : xd_A 7 81 := ⟨by decide, by decide, fun _ _ _ => rfl⟩
theorem xd_A8 : xd_A 8 81 := ⟨by decide, by decide, fun _ _ _ => rfl⟩
theorem xd_A9 : xd_A 9 4 := ⟨by decide, by decide, fun _ _ _ => rfl⟩
theorem xd_A10 : xd_A 10 512 := ⟨by decide, by decide, fun _ _ _ => rfl⟩
theorem xd_A12 : xd_A 12 9 := ⟨by decide, by decide, fun _ _ _ => rfl⟩
theorem xd_A13 : xd_A 13 9 := ⟨by decide, by decide, fun _ _ _ => rfl⟩
theorem xd_A14 : xd_A 14 9 := ⟨by decide, by decide, fun _ _ _ => rfl⟩
theorem xd_A15 : xd_A 15 54 := ⟨by decide, by decide, fun _ _ _ => rfl⟩
theorem xd_A18 : xd_A 18 9 := ⟨by decide, by decide, fun _ _ _ => rfl⟩
theorem xd_A19 : xd_A 19 9 := ⟨by decide, by decide, fun _ _ _ => rfl⟩
theorem xd_A20 : xd_A 20 9 := ⟨by decide, by decide, fun _ _ _ => rfl⟩
theorem xd_A21 : xd_A 21 54 := ⟨by decide, by decide, fun _ _ _ => rfl⟩
theorem xd_A26 : xd_A 26 2 := ⟨by decide, by decide, fun _ _ _ => rfl⟩
theorem xd_A112 : xd_A 112 40 := ⟨by decide, by decide, fun _ _ _ => rfl⟩
theorem xd_A113 : xd_A 113 40 := ⟨by decide, by decide, fun _ _ _ => rfl⟩
theorem xd_A114 : xd_A 114 40 := ⟨by decide, by decide, fun _ _ _ => rfl⟩
theorem xd_A115 : xd_A 115 40 := ⟨by decide, by decide, fun _ _ _ => rfl⟩
theorem xd_A116 : xd_A 116 7 := ⟨by decide, by decide, fun _ _ _ => rfl⟩
theorem xd_A120 : xd_A 120 9 := ⟨by decide, by decide, fun _ _ _ => rfl⟩
theorem xd_A121 : xd_A 121 9 := ⟨by decide, by decide, fun _ _ _ => rfl⟩
theorem xd_A122 : xd_A 122 9 := ⟨by decide, by decide, fun _ _ _ => rfl⟩
theorem xd_A123 : xd_A 123 9 := ⟨by decide, by decide, fun _ _ _ => rfl⟩
theorem xd_A124 : xd_A 124 81 := ⟨by decide, by decide, fun _ _ _ => rfl⟩
theorem xd_A125 : xd_A 125 10 := ⟨by decide, by decide, fun _ _ _ => rfl⟩
theorem xd_A126 : xd_A 126 9 := ⟨by decide, by decide, fun _ _ _ => rfl⟩
theorem xd_A128 : xd_A 128 6 := ⟨by decide, by decide, fun _ _ _ => rfl⟩
theorem xd_A129 : xd_A 129 6 := ⟨by decide, by decide, fun _ _ _ => rfl⟩
theorem xd_A130 : xd_A 130 64 := ⟨by decide, by decide, fun _ _ _ => rfl⟩
theorem xd_A131 : xd_A 131 64 := ⟨by decide, by decide, fun _ _ _ => rfl⟩
theorem xd_A132 : xd_A 132 512 := ⟨by decide, by decide, fun _ _ _ => rfl⟩
theorem xd_A133 : xd_A 133 9 := ⟨by decide, by decide, fun _ _ _ => rfl⟩
theorem xd_A134 : xd_A 134 2 := ⟨by decide, by decide, fun _ _ _ => rfl⟩
theorem xd_A135 : xd_A 135 2 := ⟨by decide, by decide, fun _ _ _ => rfl⟩
theorem xd_A137 : xd_A 137 12 := ⟨by decide, by decide, fun _ _ _ => rfl⟩
theorem xd_A138 : xd_A 138 12 := ⟨by decide, by decide, fun _ _ _ => rfl⟩
theorem xd_A139 : xd_A 139 12 := ⟨by decide, by decide, fun _ _ _ => rfl⟩
theorem xd_A140 : xd_A 140 9 := ⟨by decide, by decide, fun _ _ _ => rfl⟩
theorem xd_A141 : xd_A 141 9 := ⟨by decide, by decide, fun _ _ _ => rfl⟩
theorem xd_A143 : xd_A 143 10 := ⟨by decide, by decide, fun _ _ _ => rfl⟩
theorem xd_A144 : xd_A 144 10 := ⟨by decide, by decide, fun _ _ _ => rfl⟩
theorem xd_A145 : xd_A 145 10 := ⟨by decide, by decide, fun _ _ _ => rfl⟩
theorem xd_A147 : xd_A 147 353 := ⟨by decide, by decide, fun _ _ _ => rfl⟩
theorem xd_A148 : xd_A 148 81 := ⟨by decide, by decide, fun _ _ _ => rfl⟩
theorem xd_A149 : xd_A 149 81 := ⟨by decide, by decide, fun _ _ _ => rfl⟩
theorem xd_A151 : xd_A 151 20 := ⟨by decide, by decide, fun _ _ _ => rfl⟩
theorem xd_A152 : xd_A 152 27 := ⟨by decide, by decide, fun _ _ _ => rfl⟩
theorem xd_A154 : xd_A 154 9 := ⟨by decide, by decide, fun _ _ _ => rfl⟩
theorem xd_A155 : xd_A 155 9 := ⟨by decide, by decide, fun _ _ _ => rfl⟩
theorem xd_A156 : xd_A 156 9 := ⟨by decide, by decide, fun _ _ _ => rfl⟩
theorem xd_A157 : xd_A 157 81 := ⟨by decide, by decide, fun _ _ _ => rfl⟩
theorem xd_A158 : xd_A 158 4236 := ⟨by decide, by decide, fun _ _ _ => rfl⟩
theorem xd_A159 : xd_A 159 353 := ⟨by decide, by decide, fun _ _ _ => rfl⟩
theorem xd_A160 : xd_A 160 240 := ⟨by decide, by decide, fun _ _ _ => rfl⟩
theorem xd_A161 : xd_A 161 9 := ⟨by decide, by decide, fun _ _ _ => rfl⟩
theorem xd_A162 : xd_A 162 353 := ⟨by decide, by decide, fun _ _ _ => rfl⟩
theorem xd_A163 : xd_A 163 12 := ⟨by decide, by decide, fun _ _ _ => rfl⟩
theorem xd_A164 : xd_A 164 10 := ⟨by decide, by decide, fun _ _ _ => rfl⟩
theorem xd_A165 : xd_A 165 10 := ⟨by decide, by decide, fun _ _ _ => rfl⟩
theorem xd_A166 : xd_A 166 18 := ⟨by decide, by decide, fun _ _ _ => rfl⟩
theorem xd_A167 : xd_A 167 4 := ⟨by decide, by decide, fun _ _ _ => rfl⟩
theorem xd_A168 : xd_A 168 36 := ⟨by decide, by decide, fun _ _ _ => rfl⟩
theorem xd_A169 : xd_A 169 9 := ⟨by decide, by decide, fun _ _ _ => rfl⟩
theorem xd_A170 : xd_A 170 9 := ⟨by decide, by decide, fun _ _ _ => rfl⟩
theorem xd_A171 : xd_A 171 4 := ⟨by decide, by decide, fun _ _ _ => rfl⟩
theorem xd_A172 : xd_A 172 512 := ⟨by decide, by decide, fun _ _ _ => rfl⟩
theorem xd_A173 : xd_A 173 20 := ⟨by decide, by decide, fun _ _ _ => rfl⟩
theorem xd_A174 : xd_A 174 706 := ⟨by decide, by decide, fun _ _ _ => rfl⟩
theorem xd_A176 : xd_A 176 2 := ⟨by decide, by decide, fun _ _ _ => rfl⟩
theorem xd_AS {s : Nat} (h : xd_isS s = true) : xd_A (s + 1) 9 ∧ xd_A (s + 2) 9 ∧ xd_A (s + 3) 9 ∧ xd_A (s + 4) 54 := by
  have h1 := fun L f g => xd_S h L f g
  have h2 := (xd_S h 0 (fun _ => 0) (fun _ => 0)).2.2.2.2.2.2
  exact ⟨⟨by omega, by omega, fun L f g => (h1 L f g).2.1⟩, ⟨by omega, by omega, fun L f g => (h1 L f g).2.2.1⟩, ⟨by omega, by omega, fun L f g => (h1 L f g).2.2.2.1⟩, ⟨by omega, by omega, fun L f g => (h1 L f g).2.2.2.2.1⟩⟩
end
section
/-! RULES of the logic over the memory of ints and longs. -/
def xp_rem (x y : Int32) : Int32 := x - x / y * y
def xp_shl (x y : Int32) : Int32 := x <<< (y &&& 31)
def xp_shr (x y : Int32) : Int32 := x >>> (y &&& 31)
def xp_ushr (x y : Int32) : Int32 := (x.toUInt32 >>> (y.toUInt32 &&& Int32.toUInt32 31)).toInt32
theorem xp_w0 {α : Type} {x : Nat → α} {p : Nat} {f0 f : α} : va_up (va_up x p f0) p f = va_up x p f := by
  funext j
  by_cases h : j = p <;> simp [va_up, h]
theorem xp_wc {α : Type} {x : Nat → α} {p q : Nat} {g f : α} (h : p ≠ q) : va_up (va_up x q g) p f = va_up (va_up x p f) q g := by
  funext j
  by_cases h1 : j = p
  · subst h1; simp [va_up, h]
  · by_cases h2 : j = q
    · subst h2; simp [va_up, h1]
    · simp [va_up, h1, h2]
theorem xp_w1 {α : Type} {x : Nat → α} {p q : Nat} {f0 g f : α} (h : p ≠ q) : va_up (va_up (va_up x p f0) q g) p f = va_up (va_up x p f) q g := by rw [xp_wc h, xp_w0]
theorem xp_w2 {α : Type} {x : Nat → α} {p q r : Nat} {f0 g k f : α} (h : p ≠ q) (h2 : p ≠ r) : va_up (va_up (va_up (va_up x p f0) q g) r k) p f = va_up (va_up (va_up x p f) q g) r k := by rw [xp_wc h2, xp_w1 h]
theorem xp_w3 {α : Type} {x : Nat → α} {p q r t : Nat} {f0 g k u f : α} (h : p ≠ q) (h2 : p ≠ r) (h3 : p ≠ t) : va_up (va_up (va_up (va_up (va_up x p f0) q g) r k) t u) p f = va_up (va_up (va_up (va_up x p f) q g) r k) t u := by rw [xp_wc h3, xp_w2 h h2]
theorem xp_fitz {x : Int32} (h : x = 0 ∨ x = 1) : fits .boolean (.int x) = true := by rcases h with rfl | rfl <;> decide
theorem xp_b8 (x : Int32) : x.toInt8.toInt32.toInt8.toInt32 = x.toInt8.toInt32 := by rw [Int8.toInt8_toInt32]
theorem xd_Sp {s : Nat} (h : xd_isS s = true) : 0 < s ∧ s < 178 := by have := (xd_S h 0 (fun _ => 0) (fun _ => 0)).2.2.2.2.2.2; omega
theorem xd_Sa1 {s : Nat} (h : xd_isS s = true) : xd_A (s + 1) 9 := (xd_AS h).1
theorem xd_Sa2 {s : Nat} (h : xd_isS s = true) : xd_A (s + 2) 9 := (xd_AS h).2.1
theorem xd_Sa3 {s : Nat} (h : xd_isS s = true) : xd_A (s + 3) 9 := (xd_AS h).2.2.1
theorem xd_Sa4 {s : Nat} (h : xd_isS s = true) : xd_A (s + 4) 54 := (xd_AS h).2.2.2
theorem xd_Sa5 {s : Nat} (h : xd_isS s = true) : 0 < s + 5 ∧ s + 5 < 178 ∧ ∀ (L : Nat) (f : Nat → Int32) (g : Nat → Int64), xd_cell L (s + 5) f g = .inl (2, 30, .inr (.inl g)) := ⟨by omega, (xd_S h 0 (fun _ => 0) (fun _ => 0)).2.2.2.2.2.2.2, fun L f g => (xd_S h L f g).2.2.2.2.2.1⟩
theorem xp_inlt {j : Int32} {n : Nat} (h : vp_in j n) : j.toNatClampNeg < n := Nat.not_le.mp fun q => h (Or.inr q)
theorem xp_st27 {j : Int32} (h : vp_in j 12) : xd_isS (27 + 6 * j.toNatClampNeg) = true := by
  have h1 := xp_inlt h
  generalize j.toNatClampNeg = n at h1 ⊢
  revert n
  decide
theorem xp_st99 {j : Int32} (h : vp_in j 2) : xd_isS (99 + 6 * j.toNatClampNeg) = true := by
  have h1 := xp_inlt h
  generalize j.toNatClampNeg = n at h1 ⊢
  revert n
  decide
theorem xp_sv {b n : Nat} {j : Int32} (h : vp_in j n) : va_rf ((fun i => if i < n then some (b + 6 * i) else none) j.toNatClampNeg) = .ref (b + 6 * j.toNatClampNeg) := by
  have h1 := xp_inlt h
  show va_rf (if j.toNatClampNeg < n then _ else _) = _
  rw [if_pos h1]
  rfl
/-- less is known of the locals -/
def xe_le : List Value → List Value → Prop
  | [], [] => True
  | a :: l, b :: l' => (a = b ∨ (a = .double 0 ∧ xe_lg b = false)) ∧ xe_le l l'
  | _, _ => False
theorem xe_le_len : ∀ {l l' : List Value}, xe_le l l' → l.length = l'.length
  | [], [], _ => rfl
  | _ :: _, _ :: _, h => by rw [List.length_cons, List.length_cons, xe_le_len h.2]
  | [], _ :: _, h => h.elim
  | _ :: _, [], h => h.elim
theorem xe_le_get : ∀ {l l' : List Value} {k : Nat} {v : Value}, xe_le l l' → l[k]? = some v → v ≠ .double 0 → l'[k]? = some v
  | [], [], _, _, _, h, _ => by simp at h
  | a :: l, b :: l', 0, v, hl, h, hv => by
    simp only [List.getElem?_cons_zero, Option.some.injEq] at h ⊢
    subst h
    rcases hl.1 with h1 | ⟨h1, -⟩
    · exact h1.symm
    · exact absurd h1 hv
  | a :: l, b :: l', k + 1, v, hl, h, hv => by
    rw [List.getElem?_cons_succ] at h ⊢
    exact xe_le_get hl.2 h hv
  | [], _ :: _, _, _, hl, _, _ => hl.elim
  | _ :: _, [], _, _, hl, _, _ => hl.elim
theorem xe_le_set : ∀ {l l' : List Value} {k : Nat} {v : Value}, xe_le l l' → xe_le (l.set k v) (l'.set k v)
  | [], [], _, _, _ => trivial
  | a :: l, b :: l', 0, v, hl => ⟨Or.inl rfl, hl.2⟩
  | a :: l, b :: l', k + 1, v, hl => ⟨hl.1, xe_le_set hl.2⟩
  | [], _ :: _, _, _, hl => hl.elim
  | _ :: _, [], _, _, hl => hl.elim
theorem xe_le_lg : ∀ {l l' : List Value} (k : Nat), xe_le l l' → xe_lg (l.getD k .null) = false → xe_lg (l'.getD k .null) = false
  | [], [], _, _, h => h
  | a :: l, b :: l', 0, hl, h => by
    simp only [List.getD_cons_zero] at h ⊢
    rcases hl.1 with h1 | ⟨-, h1⟩
    · rw [← h1]; exact h
    · exact h1
  | a :: l, b :: l', k + 1, hl, h => by
    simp only [List.getD_cons_succ] at h ⊢
    exact xe_le_lg k hl.2 h
  | [], _ :: _, _, hl, _ => hl.elim
  | _ :: _, [], _, hl, _ => hl.elim
theorem xe_le_s1 {l l' : List Value} {k : Nat} (hl : xe_le l l') (h : xe_s1 l k = true) : xe_s1 l' k = true := by
  simp only [xe_s1, Bool.and_eq_true, Bool.or_eq_true, decide_eq_true_eq, Bool.not_eq_true'] at h ⊢
  refine ⟨by rw [← xe_le_len hl]; exact h.1, ?_⟩
  rcases h.2 with h | h
  · exact Or.inl h
  · exact Or.inr (xe_le_lg _ hl h)
theorem xe_le_s2 {l l' : List Value} {k : Nat} (hl : xe_le l l') (h : xe_s2 l k = true) : xe_s2 l' k = true := by
  simp only [xe_s2, Bool.and_eq_true, Bool.or_eq_true, decide_eq_true_eq, Bool.not_eq_true'] at h ⊢
  refine ⟨by rw [← xe_le_len hl]; exact h.1, ?_⟩
  rcases h.2 with h | h
  · exact Or.inl h
  · exact Or.inr (xe_le_lg _ hl h)
theorem xe_le_rep : ∀ (n : Nat), xe_le (List.replicate n (.double 0)) (List.replicate n (.double 0))
  | 0 => trivial
  | n + 1 => ⟨Or.inl rfl, xe_le_rep n⟩
set_option maxHeartbeats 4000000 in
theorem xe_forget {T : List xe_I} {d : Nat} {code : List Instr} {Q : xe_Q} {i : Nat} {dl st : List Value} {kc ks z : Nat} {M : xe_M} (h : xe_Ev T (xe_Call T d) code Q i dl st kc ks z M) : ∀ dl', xe_le dl dl' → xe_Ev T (xe_Call T d) code Q i dl' st kc ks z M := by
  refine h (fun i dl st kc ks z M => ∀ dl', xe_le dl dl' → xe_Ev T (xe_Call T d) code Q i dl' st kc ks z M) ?_
  intro i dl st kc ks z M hs dl' hle
  obtain ⟨ins, hc, hs⟩ := hs
  refine xe_Ev_step ⟨ins, hc, ?_⟩
  unfold xe_ins at hs ⊢
  split at hs
  all_goals first
    | exact hs _ hle
    | exact hs.elim
    | exact hs
    | exact ⟨hs.1, hs.2 _ hle⟩
    | (obtain ⟨x, h1, h⟩ := hs; exact ⟨x, xe_le_get hle h1 (fun q => by cases q), h _ hle⟩)
    | (obtain ⟨x, h1, h2, h⟩ := hs; exact ⟨x, xe_le_get hle h1 (fun q => by cases q), xe_le_s1 hle h2, h _ (xe_le_set hle)⟩)
    | (obtain ⟨x, r, h1, h2, h⟩ := hs; exact ⟨x, r, h1, xe_le_s1 hle h2, h _ (xe_le_set hle)⟩)
    | (obtain ⟨x, r, h1, h2, h⟩ := hs; exact ⟨x, r, h1, xe_le_s2 hle h2, h _ (xe_le_set (xe_le_set hle))⟩)
    | (obtain ⟨x, r, h1, h⟩ := hs; exact ⟨x, r, h1, h _ hle⟩)
    | (obtain ⟨x, r, h1, h2, h⟩ := hs; exact ⟨x, r, h1, h2, h _ hle⟩)
    | (obtain ⟨x, y, r, h1, h⟩ := hs; exact ⟨x, y, r, h1, h _ hle⟩)
    | (obtain ⟨x, y, r, h1, h2, h⟩ := hs; exact ⟨x, y, r, h1, h2, h _ hle⟩)
    | (obtain ⟨x, y, r, h1, h2, h3, h⟩ := hs; exact ⟨x, y, r, h1, h2, h3, h _ hle⟩)
    | (obtain ⟨x, r, h1, h2, h⟩ := hs; exact ⟨x, r, h1, fun q => h2 q _ hle, fun q => h q _ hle⟩)
    | (obtain ⟨x, y, r, h1, h2, h⟩ := hs; exact ⟨x, y, r, h1, fun q => h2 q _ hle, fun q => h q _ hle⟩)
    | (rcases hs with ⟨a, r, h1, h⟩ | ⟨r, h1, h⟩
       · exact Or.inl ⟨a, r, h1, h _ hle⟩
       · exact Or.inr ⟨r, h1, h _ hle⟩)
    | (obtain ⟨x, r, h1, h2, h⟩ := hs; exact ⟨x, r, h1, fun q => h2 q _ hle, fun q q' => (h q q').elim fun t ht => ⟨t, ht.1, ht.2 _ hle⟩⟩)
    | (obtain ⟨a1, a2, a3, a4, h1, h2, h3, h4, h5, h⟩ := hs; exact ⟨a1, a2, a3, a4, h1, h2, h3, h4, h5, h _ hle⟩)
    | (obtain ⟨a1, a2, a3, a4, h1, h2, h3, h4, h5, h6, h⟩ := hs; exact ⟨a1, a2, a3, a4, h1, h2, h3, h4, h5, h6, h _ hle⟩)
    | (obtain ⟨a1, a2, a3, a4, a5, h1, h2, h3, h4, h⟩ := hs; exact ⟨a1, a2, a3, a4, a5, h1, h2, h3, h4, h _ hle⟩)
    | (obtain ⟨a1, a2, a3, a4, a5, h1, h2, h3, h4, h5, h⟩ := hs; exact ⟨a1, a2, a3, a4, a5, h1, h2, h3, h4, h5, h _ hle⟩)
    | (obtain ⟨a1, a2, a3, a4, a5, a6, h1, h2, h3, h4, h5, h⟩ := hs; exact ⟨a1, a2, a3, a4, a5, a6, h1, h2, h3, h4, h5, h _ hle⟩)
    | (obtain ⟨a1, a2, a3, a4, a5, a6, h1, h2, h3, h4, h5, h6, h⟩ := hs; exact ⟨a1, a2, a3, a4, a5, a6, h1, h2, h3, h4, h5, h6, h _ hle⟩)
    | (obtain ⟨a1, a2, a3, a4, a5, a6, a7, h1, h2, h3, h4, h5, h6, h⟩ := hs; exact ⟨a1, a2, a3, a4, a5, a6, a7, h1, h2, h3, h4, h5, h6, h _ hle⟩)
    | (obtain ⟨a1, a2, a3, a4, a5, a6, a7, h1, h2, h3, h4, h5, h6, h7, h8, h⟩ := hs; exact ⟨a1, a2, a3, a4, a5, a6, a7, h1, h2, h3, h4, h5, h6, h7, h8, h _ hle⟩)
    | (obtain ⟨a1, a2, a3, a4, a5, a6, a7, a8, a9, a10, h1, h2, h3, h4, h5, h6, h7, h8, h9, h10, h11, h12, h13, h14, h⟩ := hs; exact ⟨a1, a2, a3, a4, a5, a6, a7, a8, a9, a10, h1, h2, h3, h4, h5, h6, h7, h8, h9, h10, h11, h12, h13, h14, h _ hle⟩)
    | (obtain ⟨a1, a2, a3, a4, a5, h1, h2, h3, h4, h5, h6, h7, h8, h9, h10, h11, h⟩ := hs; exact ⟨a1, a2, a3, a4, a5, h1, h2, h3, h4, h5, h6, h7, h8, h9, h10, h11, xe_Call_Q d _ _ _ _ _ _ (fun v z M q => ⟨fun w => (by rw [← xe_le_len hle]; exact q.1 w _ (xe_le_rep _)), fun w => q.2 w _ hle⟩) h⟩)
    | (obtain ⟨a1, a2, a3, a4, a5, h1, h2, h3, h4, h5, h6, h7, h8, h9, h10, h11, h⟩ := hs; exact ⟨a1, a2, a3, a4, a5, h1, h2, h3, h4, h5, h6, h7, h8, h9, h10, h11, xe_Call_Q d _ _ _ _ _ _ (fun v z M q => q _ hle) h⟩)
    | (obtain ⟨a1, a2, a3, h1, h2, h3, h4, h5, h6, h7, h8, h⟩ := hs; exact ⟨a1, a2, a3, h1, h2, h3, h4, h5, h6, h7, h8, xe_Call_Q d _ _ _ _ _ _ (fun v z M q => q _ hle) h⟩)
    | (obtain ⟨a1, h1, h2, h3, h4, h⟩ := hs; exact ⟨a1, h1, h2, h3, h4, h _ hle⟩)
    | (obtain ⟨a1, a2, h1, h2, h3, h4, h5, h6, h⟩ := hs; exact ⟨a1, a2, h1, h2, h3, h4, h5, h6, h _ hle⟩)
def xB (D : Nat) (code : List Instr) (Q : xe_Q) (L i : Nat) (dl st : List Value) (d : xd_D) (e : xd_E) : Prop := xe_Ev xm_T (xe_Call xm_T D) code Q i dl st 0 0 178 (xd_mem L d e)
def xQi (L : Nat) (P : Int32 → xd_D → xd_E → Prop) : xe_Q := fun v z M => ∃ x d e, v = some (.int x) ∧ z = 178 ∧ M = xd_mem L d e ∧ P x d e
def xQv (L : Nat) (P : xd_D → xd_E → Prop) : xe_Q := fun v z M => ∃ d e, v = none ∧ z = 178 ∧ M = xd_mem L d e ∧ P d e
/-- a call that answers an int; a call that answers nothing -/
def xC (D g L : Nat) (a : List Value) (d : xd_D) (e : xd_E) (P : Int32 → xd_D → xd_E → Prop) : Prop := xe_Call xm_T D g a 178 (xd_mem L d e) (xQi L P)
def xV (D g L : Nat) (a : List Value) (d : xd_D) (e : xd_E) (P : xd_D → xd_E → Prop) : Prop := xe_Call xm_T D g a 178 (xd_mem L d e) (xQv L P)
theorem xC_mono {D g L : Nat} {a : List Value} {d : xd_D} {e : xd_E} {P P' : Int32 → xd_D → xd_E → Prop} (h : xC D g L a d e P) (hP : ∀ x d e, P x d e → P' x d e) : xC D g L a d e P' := xe_Call_Q D g a 178 _ _ _ (fun _ _ _ ⟨x, d, e, h1, h2, h3, h4⟩ => ⟨x, d, e, h1, h2, h3, hP x d e h4⟩) h
theorem xV_mono {D g L : Nat} {a : List Value} {d : xd_D} {e : xd_E} {P P' : xd_D → xd_E → Prop} (h : xV D g L a d e P) (hP : ∀ d e, P d e → P' d e) : xV D g L a d e P' := xe_Call_Q D g a 178 _ _ _ (fun _ _ _ ⟨d, e, h1, h2, h3, h4⟩ => ⟨d, e, h1, h2, h3, hP d e h4⟩) h
theorem xC_of {D g L : Nat} {a : List Value} {d : xd_D} {e : xd_E} {P : Int32 → xd_D → xd_E → Prop} {inf : xe_I} (hT : xm_T[g]? = some inf) (hm : xe_im inf = 0) (hs : xe_is inf = 0) (hD : 1 ≤ D) (h : xB (D - 1) (xe_code inf) (xQi L P) L 0 (xe_entry (xe_iL inf) a) [] d e) : xC D g L a d e P := by
  obtain ⟨D, rfl⟩ : ∃ D', D = D' + 1 := ⟨D - 1, by omega⟩
  rw [Nat.add_sub_cancel] at h
  unfold xB at h
  exact ⟨inf, hT, by rw [hm, hs]; exact h⟩
theorem xV_of {D g L : Nat} {a : List Value} {d : xd_D} {e : xd_E} {P : xd_D → xd_E → Prop} {inf : xe_I} (hT : xm_T[g]? = some inf) (hm : xe_im inf = 0) (hs : xe_is inf = 0) (hD : 1 ≤ D) (h : xB (D - 1) (xe_code inf) (xQv L P) L 0 (xe_entry (xe_iL inf) a) [] d e) : xV D g L a d e P := by
  obtain ⟨D, rfl⟩ : ∃ D', D = D' + 1 := ⟨D - 1, by omega⟩
  rw [Nat.add_sub_cancel] at h
  unfold xB at h
  exact ⟨inf, hT, by rw [hm, hs]; exact h⟩
section XBR
variable {D : Nat} {code : List Instr} {Q : xe_Q} {L i : Nat} {dl st : List Value} {d : xd_D} {e : xd_E}
theorem xb_push {v : Int} {x : Int32} (hc : code[i]? = some (.sipush v)) (hv : Int32.ofInt v = x) (h : xB D code Q L (i + 1) dl (.int x :: st) d e) : xB D code Q L i dl st d e := xe_Ev_step ⟨_, hc, (by subst hv; exact h)⟩
theorem xb_lconst (hc : code[i]? = some (.lconst 0)) (h : xB D code Q L (i + 1) dl (.long 0 :: st) d e) : xB D code Q L i dl st d e := xe_Ev_step ⟨_, hc, ⟨rfl, h⟩⟩
theorem xb_null (hc : code[i]? = some .aconst_null) (h : xB D code Q L (i + 1) dl (.null :: st) d e) : xB D code Q L i dl st d e := xe_Ev_step ⟨_, hc, h⟩
theorem xb_iload {k : Nat} {x : Int32} (hc : code[i]? = some (.iload k)) (hv : dl[k]? = some (.int x)) (h : xB D code Q L (i + 1) dl (.int x :: st) d e) : xB D code Q L i dl st d e := xe_Ev_step ⟨_, hc, ⟨x, hv, h⟩⟩
theorem xb_lload {k : Nat} {x : Int64} (hc : code[i]? = some (.lload k)) (hv : dl[k]? = some (.long x)) (h : xB D code Q L (i + 1) dl (.long x :: st) d e) : xB D code Q L i dl st d e := xe_Ev_step ⟨_, hc, ⟨x, hv, h⟩⟩
theorem xb_aload {k : Nat} {x : Nat} (hc : code[i]? = some (.aload k)) (hv : dl[k]? = some (.ref x)) (h : xB D code Q L (i + 1) dl (.ref x :: st) d e) : xB D code Q L i dl st d e := xe_Ev_step ⟨_, hc, ⟨x, hv, h⟩⟩
theorem xb_istore {k : Nat} {x : Int32} {dl' : List Value} (hc : code[i]? = some (.istore k)) (hs : xe_s1 dl k = true) (hd : dl.set k (.int x) = dl') (h : xB D code Q L (i + 1) dl' st d e) : xB D code Q L i dl (.int x :: st) d e := xe_Ev_step ⟨_, hc, ⟨x, st, rfl, hs, by rw [hd]; exact h⟩⟩
theorem xb_astore {k : Nat} {x : Nat} {dl' : List Value} (hc : code[i]? = some (.astore k)) (hs : xe_s1 dl k = true) (hd : dl.set k (.ref x) = dl') (h : xB D code Q L (i + 1) dl' st d e) : xB D code Q L i dl (.ref x :: st) d e := xe_Ev_step ⟨_, hc, ⟨x, st, rfl, hs, by rw [hd]; exact h⟩⟩
theorem xb_lstore {k : Nat} {x : Int64} {dl' : List Value} (hc : code[i]? = some (.lstore k)) (hs : xe_s2 dl k = true) (hd : (dl.set k (.long x)).set (k + 1) (.double 0) = dl') (h : xB D code Q L (i + 1) dl' st d e) : xB D code Q L i dl (.long x :: st) d e := xe_Ev_step ⟨_, hc, ⟨x, st, rfl, hs, by rw [hd]; exact h⟩⟩
theorem xb_iinc {k : Nat} {n : Int} {x y : Int32} {dl' : List Value} (hc : code[i]? = some (.iinc k n)) (hv : dl[k]? = some (.int x)) (hs : xe_s1 dl k = true) (hn : Int32.ofInt n = y) (hd : dl.set k (.int (x + y)) = dl') (h : xB D code Q L (i + 1) dl' st d e) : xB D code Q L i dl st d e := xe_Ev_step ⟨_, hc, ⟨x, hv, hs, by rw [hn, hd]; exact h⟩⟩
theorem xb_iadd {x y : Int32} (hc : code[i]? = some .iadd) (h : xB D code Q L (i + 1) dl (.int (x + y) :: st) d e) : xB D code Q L i dl (.int y :: .int x :: st) d e := xe_Ev_step ⟨_, hc, ⟨x, y, st, rfl, h⟩⟩
theorem xb_isub {x y : Int32} (hc : code[i]? = some .isub) (h : xB D code Q L (i + 1) dl (.int (x - y) :: st) d e) : xB D code Q L i dl (.int y :: .int x :: st) d e := xe_Ev_step ⟨_, hc, ⟨x, y, st, rfl, h⟩⟩
theorem xb_imul {x y : Int32} (hc : code[i]? = some .imul) (h : xB D code Q L (i + 1) dl (.int (x * y) :: st) d e) : xB D code Q L i dl (.int y :: .int x :: st) d e := xe_Ev_step ⟨_, hc, ⟨x, y, st, rfl, h⟩⟩
theorem xb_iand {x y : Int32} (hc : code[i]? = some .iand) (h : xB D code Q L (i + 1) dl (.int (x &&& y) :: st) d e) : xB D code Q L i dl (.int y :: .int x :: st) d e := xe_Ev_step ⟨_, hc, ⟨x, y, st, rfl, h⟩⟩
theorem xb_ior {x y : Int32} (hc : code[i]? = some .ior) (h : xB D code Q L (i + 1) dl (.int (x ||| y) :: st) d e) : xB D code Q L i dl (.int y :: .int x :: st) d e := xe_Ev_step ⟨_, hc, ⟨x, y, st, rfl, h⟩⟩
theorem xb_ixor {x y : Int32} (hc : code[i]? = some .ixor) (h : xB D code Q L (i + 1) dl (.int (x ^^^ y) :: st) d e) : xB D code Q L i dl (.int y :: .int x :: st) d e := xe_Ev_step ⟨_, hc, ⟨x, y, st, rfl, h⟩⟩
theorem xb_ishl {x y : Int32} (hc : code[i]? = some .ishl) (h : xB D code Q L (i + 1) dl (.int (xp_shl x y) :: st) d e) : xB D code Q L i dl (.int y :: .int x :: st) d e := xe_Ev_step ⟨_, hc, ⟨x, y, st, rfl, h⟩⟩
theorem xb_ishr {x y : Int32} (hc : code[i]? = some .ishr) (h : xB D code Q L (i + 1) dl (.int (xp_shr x y) :: st) d e) : xB D code Q L i dl (.int y :: .int x :: st) d e := xe_Ev_step ⟨_, hc, ⟨x, y, st, rfl, h⟩⟩
theorem xb_iushr {x y : Int32} (hc : code[i]? = some .iushr) (h : xB D code Q L (i + 1) dl (.int (xp_ushr x y) :: st) d e) : xB D code Q L i dl (.int y :: .int x :: st) d e := xe_Ev_step ⟨_, hc, ⟨x, y, st, rfl, h⟩⟩
theorem xb_idiv {x y : Int32} (hc : code[i]? = some .idiv) (hy : ¬ y = 0) (h : xB D code Q L (i + 1) dl (.int (x / y) :: st) d e) : xB D code Q L i dl (.int y :: .int x :: st) d e := xe_Ev_step ⟨_, hc, ⟨x, y, st, rfl, hy, h⟩⟩
theorem xb_irem {x y : Int32} (hc : code[i]? = some .irem) (hy : ¬ y = 0) (h : xB D code Q L (i + 1) dl (.int (xp_rem x y) :: st) d e) : xB D code Q L i dl (.int y :: .int x :: st) d e := xe_Ev_step ⟨_, hc, ⟨x, y, st, rfl, hy, h⟩⟩
theorem xb_ineg {x : Int32} (hc : code[i]? = some .ineg) (h : xB D code Q L (i + 1) dl (.int (-x) :: st) d e) : xB D code Q L i dl (.int x :: st) d e := xe_Ev_step ⟨_, hc, ⟨x, st, rfl, h⟩⟩
theorem xb_i2b {x : Int32} (hc : code[i]? = some .i2b) (h : xB D code Q L (i + 1) dl (.int (x.toInt8.toInt32) :: st) d e) : xB D code Q L i dl (.int x :: st) d e := xe_Ev_step ⟨_, hc, ⟨x, st, rfl, h⟩⟩
theorem xb_i2s {x : Int32} (hc : code[i]? = some .i2s) (h : xB D code Q L (i + 1) dl (.int (x.toInt16.toInt32) :: st) d e) : xB D code Q L i dl (.int x :: st) d e := xe_Ev_step ⟨_, hc, ⟨x, st, rfl, h⟩⟩
theorem xb_i2l {x : Int32} (hc : code[i]? = some .i2l) (h : xB D code Q L (i + 1) dl (.long x.toInt64 :: st) d e) : xB D code Q L i dl (.int x :: st) d e := xe_Ev_step ⟨_, hc, ⟨x, st, rfl, h⟩⟩
theorem xb_l2i {x : Int64} (hc : code[i]? = some .l2i) (h : xB D code Q L (i + 1) dl (.int x.toInt32 :: st) d e) : xB D code Q L i dl (.long x :: st) d e := xe_Ev_step ⟨_, hc, ⟨x, st, rfl, h⟩⟩
theorem xb_lor {x y : Int64} (hc : code[i]? = some .lor) (h : xB D code Q L (i + 1) dl (.long (x ||| y) :: st) d e) : xB D code Q L i dl (.long y :: .long x :: st) d e := xe_Ev_step ⟨_, hc, ⟨x, y, st, rfl, h⟩⟩
theorem xb_lxor {x y : Int64} (hc : code[i]? = some .lxor) (h : xB D code Q L (i + 1) dl (.long (x ^^^ y) :: st) d e) : xB D code Q L i dl (.long y :: .long x :: st) d e := xe_Ev_step ⟨_, hc, ⟨x, y, st, rfl, h⟩⟩
theorem xb_lcmp {x y : Int64} (hc : code[i]? = some .lcmp) (h : xB D code Q L (i + 1) dl (.int (lg_cmp x y) :: st) d e) : xB D code Q L i dl (.long y :: .long x :: st) d e := xe_Ev_step ⟨_, hc, ⟨x, y, st, rfl, h⟩⟩
theorem xb_lshl {x : Int64} {y : Int32} (hc : code[i]? = some .lshl) (h : xB D code Q L (i + 1) dl (.long (x <<< (y.toInt64 &&& 63)) :: st) d e) : xB D code Q L i dl (.int y :: .long x :: st) d e := xe_Ev_step ⟨_, hc, ⟨x, y, st, rfl, h⟩⟩
theorem xb_lushr {x : Int64} {y : Int32} (hc : code[i]? = some .lushr) (h : xB D code Q L (i + 1) dl (.long (x.toUInt64 >>> (y.toInt64.toUInt64 &&& Int64.toUInt64 63)).toInt64 :: st) d e) : xB D code Q L i dl (.int y :: .long x :: st) d e := xe_Ev_step ⟨_, hc, ⟨x, y, st, rfl, h⟩⟩
theorem xb_dup {v : Value} (hc : code[i]? = some .dup) (hv : v.category = 1) (h : xB D code Q L (i + 1) dl (v :: v :: st) d e) : xB D code Q L i dl (v :: st) d e := xe_Ev_step ⟨_, hc, ⟨v, st, rfl, hv, h⟩⟩
theorem xb_pop {v : Value} (hc : code[i]? = some .pop) (hv : v.category = 1) (h : xB D code Q L (i + 1) dl st d e) : xB D code Q L i dl (v :: st) d e := xe_Ev_step ⟨_, hc, ⟨v, st, rfl, hv, h⟩⟩
theorem xb_dup_x1 {v w : Value} (hc : code[i]? = some .dup_x1) (hv : v.category = 1) (hw : w.category = 1) (h : xB D code Q L (i + 1) dl (v :: w :: v :: st) d e) : xB D code Q L i dl (v :: w :: st) d e := xe_Ev_step ⟨_, hc, ⟨v, w, st, rfl, hv, hw, h⟩⟩
theorem xb_dup2 {v w : Value} (hc : code[i]? = some .dup2) (hv : v.category = 1) (hw : w.category = 1) (h : xB D code Q L (i + 1) dl (v :: w :: v :: w :: st) d e) : xB D code Q L i dl (v :: w :: st) d e := xe_Ev_step ⟨_, hc, ⟨v, w, st, rfl, hv, hw, h⟩⟩
theorem xb_goto {t : Int} {j : Nat} (hc : code[i]? = some (.goto t)) (ht : t.toNat = j) (h : xB D code Q L j dl st d e) : xB D code Q L i dl st d e := xe_Ev_step ⟨_, hc, (by subst ht; exact h)⟩
theorem xb_icmp_eq {x y : Int32} {t : Int} {j : Nat} (hc : code[i]? = some (.if_icmp .eq t)) (ht : t.toNat = j) (h1 : x = y → xB D code Q L j dl st d e) (h2 : ¬ x = y → xB D code Q L (i + 1) dl st d e) : xB D code Q L i dl (.int y :: .int x :: st) d e := xe_Ev_step ⟨_, hc, ⟨x, y, st, rfl, by subst ht; exact h1, h2⟩⟩
theorem xb_if_eq {x : Int32} {t : Int} {j : Nat} (hc : code[i]? = some (.ifCond .eq t)) (ht : t.toNat = j) (h1 : x = 0 → xB D code Q L j dl st d e) (h2 : ¬ x = 0 → xB D code Q L (i + 1) dl st d e) : xB D code Q L i dl (.int x :: st) d e := xe_Ev_step ⟨_, hc, ⟨x, st, rfl, by subst ht; exact h1, h2⟩⟩
theorem xb_icmp_ne {x y : Int32} {t : Int} {j : Nat} (hc : code[i]? = some (.if_icmp .ne t)) (ht : t.toNat = j) (h1 : ¬ x = y → xB D code Q L j dl st d e) (h2 : x = y → xB D code Q L (i + 1) dl st d e) : xB D code Q L i dl (.int y :: .int x :: st) d e := xe_Ev_step ⟨_, hc, ⟨x, y, st, rfl, by subst ht; exact h1, (fun q => h2 (Classical.not_not.mp q))⟩⟩
theorem xb_if_ne {x : Int32} {t : Int} {j : Nat} (hc : code[i]? = some (.ifCond .ne t)) (ht : t.toNat = j) (h1 : ¬ x = 0 → xB D code Q L j dl st d e) (h2 : x = 0 → xB D code Q L (i + 1) dl st d e) : xB D code Q L i dl (.int x :: st) d e := xe_Ev_step ⟨_, hc, ⟨x, st, rfl, by subst ht; exact h1, (fun q => h2 (Classical.not_not.mp q))⟩⟩
theorem xb_icmp_lt {x y : Int32} {t : Int} {j : Nat} (hc : code[i]? = some (.if_icmp .lt t)) (ht : t.toNat = j) (h1 : x < y → xB D code Q L j dl st d e) (h2 : ¬ x < y → xB D code Q L (i + 1) dl st d e) : xB D code Q L i dl (.int y :: .int x :: st) d e := xe_Ev_step ⟨_, hc, ⟨x, y, st, rfl, by subst ht; exact h1, h2⟩⟩
theorem xb_if_lt {x : Int32} {t : Int} {j : Nat} (hc : code[i]? = some (.ifCond .lt t)) (ht : t.toNat = j) (h1 : x < 0 → xB D code Q L j dl st d e) (h2 : ¬ x < 0 → xB D code Q L (i + 1) dl st d e) : xB D code Q L i dl (.int x :: st) d e := xe_Ev_step ⟨_, hc, ⟨x, st, rfl, by subst ht; exact h1, h2⟩⟩
theorem xb_icmp_ge {x y : Int32} {t : Int} {j : Nat} (hc : code[i]? = some (.if_icmp .ge t)) (ht : t.toNat = j) (h1 : y ≤ x → xB D code Q L j dl st d e) (h2 : ¬ y ≤ x → xB D code Q L (i + 1) dl st d e) : xB D code Q L i dl (.int y :: .int x :: st) d e := xe_Ev_step ⟨_, hc, ⟨x, y, st, rfl, by subst ht; exact h1, h2⟩⟩
theorem xb_if_ge {x : Int32} {t : Int} {j : Nat} (hc : code[i]? = some (.ifCond .ge t)) (ht : t.toNat = j) (h1 : 0 ≤ x → xB D code Q L j dl st d e) (h2 : ¬ 0 ≤ x → xB D code Q L (i + 1) dl st d e) : xB D code Q L i dl (.int x :: st) d e := xe_Ev_step ⟨_, hc, ⟨x, st, rfl, by subst ht; exact h1, h2⟩⟩
theorem xb_icmp_gt {x y : Int32} {t : Int} {j : Nat} (hc : code[i]? = some (.if_icmp .gt t)) (ht : t.toNat = j) (h1 : y < x → xB D code Q L j dl st d e) (h2 : ¬ y < x → xB D code Q L (i + 1) dl st d e) : xB D code Q L i dl (.int y :: .int x :: st) d e := xe_Ev_step ⟨_, hc, ⟨x, y, st, rfl, by subst ht; exact h1, h2⟩⟩
theorem xb_if_gt {x : Int32} {t : Int} {j : Nat} (hc : code[i]? = some (.ifCond .gt t)) (ht : t.toNat = j) (h1 : 0 < x → xB D code Q L j dl st d e) (h2 : ¬ 0 < x → xB D code Q L (i + 1) dl st d e) : xB D code Q L i dl (.int x :: st) d e := xe_Ev_step ⟨_, hc, ⟨x, st, rfl, by subst ht; exact h1, h2⟩⟩
theorem xb_icmp_le {x y : Int32} {t : Int} {j : Nat} (hc : code[i]? = some (.if_icmp .le t)) (ht : t.toNat = j) (h1 : x ≤ y → xB D code Q L j dl st d e) (h2 : ¬ x ≤ y → xB D code Q L (i + 1) dl st d e) : xB D code Q L i dl (.int y :: .int x :: st) d e := xe_Ev_step ⟨_, hc, ⟨x, y, st, rfl, by subst ht; exact h1, h2⟩⟩
theorem xb_if_le {x : Int32} {t : Int} {j : Nat} (hc : code[i]? = some (.ifCond .le t)) (ht : t.toNat = j) (h1 : x ≤ 0 → xB D code Q L j dl st d e) (h2 : ¬ x ≤ 0 → xB D code Q L (i + 1) dl st d e) : xB D code Q L i dl (.int x :: st) d e := xe_Ev_step ⟨_, hc, ⟨x, st, rfl, by subst ht; exact h1, h2⟩⟩
theorem xb_nnull {x : Int32} {t : Int} {j : Nat} (hc : code[i]? = some (.ifnonnull t)) (ht : t.toNat = j) (h1 : ¬ x = 0 → xB D code Q L j dl st d e) (h2 : x = 0 → xB D code Q L (i + 1) dl st d e) : xB D code Q L i dl (xd_r x :: st) d e := xe_Ev_step ⟨_, hc, (by
    subst ht
    by_cases q : x = 0
    · exact Or.inr ⟨st, by unfold xd_r; rw [if_pos q], h2 q⟩
    · exact Or.inl ⟨x.toNatClampNeg, st, by unfold xd_r; rw [if_neg q], h1 q⟩)⟩
theorem xb_table {x : Int32} {dd lo hi : Int} {os : Array Int} {j : Nat} (hc : code[i]? = some (.tableswitch dd lo hi os)) (ht : dd.toNat = j) (h1 : (x.toInt < lo ∨ hi < x.toInt) → xB D code Q L j dl st d e) (h2 : ¬ x.toInt < lo → ¬ hi < x.toInt → ∃ t : Int, os[(x.toInt - lo).toNat]? = some t ∧ xB D code Q L t.toNat dl st d e) : xB D code Q L i dl (.int x :: st) d e := xe_Ev_step ⟨_, hc, ⟨x, st, rfl, by subst ht; exact h1, h2⟩⟩
theorem xb_lookup {x : Int32} {dd : Int} {ps : Array (Int × Int)} (hc : code[i]? = some (.lookupswitch dd ps)) (h : xB D code Q L (Op.lookupswitch.offset ps.toList dd x.toInt).toNat dl st d e) : xB D code Q L i dl (.int x :: st) d e := xe_Ev_step ⟨_, hc, ⟨x, st, rfl, h⟩⟩
theorem xb_get {a n : Nat} {fs : List Value} {v : Value} (hc : code[i]? = some (.getfield n)) (ha : 0 < a) (hz : a < 178) (hM : xd_mem L d e a = .inr (n / 64, fs)) (hv : fs[n % 64]? = some v) (h : xB D code Q L (i + 1) dl (v :: st) d e) : xB D code Q L i dl (.ref a :: st) d e := xe_Ev_step ⟨_, hc, ⟨a, fs, v, st, rfl, ha, hz, hM, hv, h⟩⟩
theorem xb_put {a n : Nat} {fs : List Value} {v : Value} {f : Nat → Int32} {d' : xd_D} (hc : code[i]? = some (.putfield n)) (ha : 0 < a) (hz : a < 178) (hM : xd_mem L d e a = .inr (n / 64, fs)) (hl : n % 64 < fs.length) (hf : fits (xe_ty (n / 64) (n % 64)) v = true) (hN : xd_cell L a f (e a) = .inr (n / 64, fs.set (n % 64) v)) (hd : va_up d a f = d') (h : xB D code Q L (i + 1) dl st d' e) : xB D code Q L i dl (v :: .ref a :: st) d e := xe_Ev_step ⟨_, hc, a, fs, v, st, rfl, ha, hz, hM, hl, hf, by rw [xd_put L d e a f _ hN, hd]; exact h⟩
theorem xb_iald {a n : Nat} {j : Int32} {f : Nat → Int32} (hc : code[i]? = some .iaload) (hz : a < 178) (hM : xd_mem L d e a = .inl (1, n, .inl f)) (hin : vp_in j n) (h : xB D code Q L (i + 1) dl (.int (f j.toNatClampNeg) :: st) d e) : xB D code Q L i dl (.int j :: .ref a :: st) d e := xe_Ev_step ⟨_, hc, ⟨a, j, n, f, st, rfl, hz, hM, hin, h⟩⟩
theorem xb_bald {a t n : Nat} {j : Int32} {f : Nat → Int32} (hc : code[i]? = some .baload) (ha : 0 < a) (hz : a < 178) (ht : t = 0 ∨ t = 3) (hM : xd_mem L d e a = .inl (t, n, .inl f)) (hin : vp_in j n) (h : xB D code Q L (i + 1) dl (.int (f j.toNatClampNeg) :: st) d e) : xB D code Q L i dl (.int j :: .ref a :: st) d e := xe_Ev_step ⟨_, hc, ⟨a, j, t, n, f, st, rfl, ha, hz, ht, hM, hin, h⟩⟩
theorem xb_lald {a n : Nat} {j : Int32} {f : Nat → Int64} (hc : code[i]? = some .laload) (ha : 0 < a) (hz : a < 178) (hM : xd_mem L d e a = .inl (2, n, .inr (.inl f))) (hin : vp_in j n) (h : xB D code Q L (i + 1) dl (.long (f j.toNatClampNeg) :: st) d e) : xB D code Q L i dl (.int j :: .ref a :: st) d e := xe_Ev_step ⟨_, hc, ⟨a, j, n, f, st, rfl, ha, hz, hM, hin, h⟩⟩
theorem xb_aald {a n : Nat} {j : Int32} {f : Nat → Option Nat} {v : Value} (hc : code[i]? = some .aaload) (ha : 0 < a) (hz : a < 178) (hM : xd_mem L d e a = .inl (4, n, .inr (.inr (.inr (.inr f))))) (hin : vp_in j n) (hv : va_rf (f j.toNatClampNeg) = v) (h : xB D code Q L (i + 1) dl (v :: st) d e) : xB D code Q L i dl (.int j :: .ref a :: st) d e := xe_Ev_step ⟨_, hc, ⟨a, j, n, f, st, rfl, ha, hz, hM, hin, by rw [hv]; exact h⟩⟩
theorem xb_iast {a n : Nat} {j x : Int32} {f : Nat → Int32} {d' : xd_D} (hc : code[i]? = some .iastore) (ha : 0 < a) (hz : a < 178) (hM : xd_mem L d e a = .inl (1, n, .inl f)) (hin : vp_in j n) (hN : xd_cell L a (upd f j.toNatClampNeg x) (e a) = .inl (1, n, .inl (upd f j.toNatClampNeg x))) (hd : va_up d a (upd f j.toNatClampNeg x) = d') (h : xB D code Q L (i + 1) dl st d' e) : xB D code Q L i dl (.int x :: .int j :: .ref a :: st) d e := xe_Ev_step ⟨_, hc, a, j, x, n, f, st, rfl, ha, hz, hM, hin, by rw [xd_put L d e a _ _ hN, hd]; exact h⟩
theorem xb_bast {a t n : Nat} {j x : Int32} {f : Nat → Int32} {d' : xd_D} (hc : code[i]? = some .bastore) (ha : 0 < a) (hz : a < 178) (ht : (t = 0 ∧ x.toInt8.toInt32 = x) ∨ (t = 3 ∧ (x = 0 ∨ x = 1))) (hM : xd_mem L d e a = .inl (t, n, .inl f)) (hin : vp_in j n) (hN : xd_cell L a (upd f j.toNatClampNeg x) (e a) = .inl (t, n, .inl (upd f j.toNatClampNeg x))) (hd : va_up d a (upd f j.toNatClampNeg x) = d') (h : xB D code Q L (i + 1) dl st d' e) : xB D code Q L i dl (.int x :: .int j :: .ref a :: st) d e := xe_Ev_step ⟨_, hc, a, j, x, t, n, f, st, rfl, ha, hz, ht, hM, hin, by rw [xd_put L d e a _ _ hN, hd]; exact h⟩
theorem xb_last {a n : Nat} {j : Int32} {x : Int64} {f : Nat → Int64} {e' : xd_E} (hc : code[i]? = some .lastore) (ha : 0 < a) (hz : a < 178) (hM : xd_mem L d e a = .inl (2, n, .inr (.inl f))) (hin : vp_in j n) (hN : xd_cell L a (d a) (vp_updL f j.toNatClampNeg x) = .inl (2, n, .inr (.inl (vp_updL f j.toNatClampNeg x)))) (hd : va_up e a (vp_updL f j.toNatClampNeg x) = e') (h : xB D code Q L (i + 1) dl st d e') : xB D code Q L i dl (.long x :: .int j :: .ref a :: st) d e := xe_Ev_step ⟨_, hc, a, j, x, n, f, st, rfl, ha, hz, hM, hin, by rw [xd_putL L d e a _ _ hN, hd]; exact h⟩
theorem xb_alen {a t n : Nat} {x : (Nat → Int32) ⊕ (Nat → Int64) ⊕ (Nat → UInt32) ⊕ (Nat → UInt64) ⊕ (Nat → Option Nat)} (hc : code[i]? = some .arraylength) (hz : a < 178) (ht : t < 5) (hM : xd_mem L d e a = .inl (t, n, x)) (h0 : a = 0 → t = 1) (h : xB D code Q L (i + 1) dl (.int (Int32.ofNat n) :: st) d e) : xB D code Q L i dl (.ref a :: st) d e := xe_Ev_step ⟨_, hc, ⟨a, t, n, x, st, rfl, hz, ht, hM, h0, h⟩⟩
theorem xb_copyi {a0 a n0 n1 : Nat} {sp dp n : Int32} {f g : Nat → Int32} {d' : xd_D} (hc : code[i]? = some .monitorenter) (ha0 : 0 < a0) (hz0 : a0 < 178) (ha : 0 < a) (hz : a < 178) (hcat : xe_cat st ≤ 8) (hM0 : xd_mem L d e a0 = .inl (1, n0, .inl f)) (hM : xd_mem L d e a = .inl (1, n1, .inl g)) (h1 : ¬ sp < 0) (h2 : ¬ dp < 0) (h3 : ¬ n < 0) (h4 : sp.toNatClampNeg + n.toNatClampNeg ≤ n0) (h5 : dp.toNatClampNeg + n.toNatClampNeg ≤ n1) (hN : xd_cell L a (va_cpy f g sp.toNatClampNeg dp.toNatClampNeg n.toNatClampNeg) (e a) = .inl (1, n1, .inl (va_cpy f g sp.toNatClampNeg dp.toNatClampNeg n.toNatClampNeg))) (hd : va_up d a (va_cpy f g sp.toNatClampNeg dp.toNatClampNeg n.toNatClampNeg) = d') (h : xB D code Q L (i + 1) dl st d' e) : xB D code Q L i dl (.int n :: .int dp :: .ref a :: .int sp :: .ref a0 :: st) d e := xe_Ev_step ⟨_, hc, a0, a, sp, dp, n, n0, n1, f, g, st, rfl, ha0, hz0, ha, hz, hcat, hM0, hM, h1, h2, h3, h4, h5, Nat.le_refl _, by rw [xd_put L d e a _ _ hN, hd]; exact h⟩
theorem xb_copyl {a0 a n0 n1 : Nat} {sp dp n : Int32} {f g : Nat → Int64} {e' : xd_E} (hc : code[i]? = some .monitorexit) (ha0 : 0 < a0) (hz0 : a0 < 178) (ha : 0 < a) (hz : a < 178) (hcat : xe_cat st ≤ 8) (hM0 : xd_mem L d e a0 = .inl (2, n0, .inr (.inl f))) (hM : xd_mem L d e a = .inl (2, n1, .inr (.inl g))) (h1 : ¬ sp < 0) (h2 : ¬ dp < 0) (h3 : ¬ n < 0) (h4 : sp.toNatClampNeg + n.toNatClampNeg ≤ n0) (h5 : dp.toNatClampNeg + n.toNatClampNeg ≤ n1) (hN : xd_cell L a (d a) (va_cpy f g sp.toNatClampNeg dp.toNatClampNeg n.toNatClampNeg) = .inl (2, n1, .inr (.inl (va_cpy f g sp.toNatClampNeg dp.toNatClampNeg n.toNatClampNeg)))) (hd : va_up e a (va_cpy f g sp.toNatClampNeg dp.toNatClampNeg n.toNatClampNeg) = e') (h : xB D code Q L (i + 1) dl st d e') : xB D code Q L i dl (.int n :: .int dp :: .ref a :: .int sp :: .ref a0 :: st) d e := xe_Ev_step ⟨_, hc, a0, a, sp, dp, n, n0, n1, f, g, st, rfl, ha0, hz0, ha, hz, hcat, hM0, hM, h1, h2, h3, h4, h5, Nat.le_refl _, by rw [xd_putL L d e a _ _ hN, hd]; exact h⟩
theorem xb_callVi {g : Nat} {inf : xe_I} {As st' : List Value} {a : Nat} {fs : List Value} (hc : code[i]? = some (.invokevirtual g)) (hT : xm_T[g]? = some inf) (hk : xe_ik inf = 1) (hm : xe_im inf = 0) (hs : xe_is inf = 0) (hst : st' = As.reverse ++ .ref a :: st) (hn : As.length = xe_in inf) (hA1 : As.all xe_c1 = true) (ha : 0 < a) (hz : a < 178) (hM : xd_mem L d e a = .inr (xe_ic inf, fs)) (hcat : xe_cat st ≤ 8) (h : xC D g L (Value.ref a :: As) d e (fun x d e => xB D code Q L (i + 1) dl (.int x :: st) d e)) : xB D code Q L i dl st' d e := by
  refine xe_Ev_step ⟨_, hc, inf, As, a, fs, st, hT, hk, hst, hn, hA1, ha, hz, hM, hcat, by rw [hm]; exact Nat.le_refl _, by rw [hs]; exact Nat.le_refl _, ?_⟩
  refine xe_Call_Q D g _ 178 _ _ _ ?_ h
  rintro v z M ⟨x, d', e', rfl, rfl, rfl, h⟩
  rw [hm, hs]
  exact h
theorem xb_callVv {g : Nat} {inf : xe_I} {As st' : List Value} {a : Nat} {fs : List Value} (hc : code[i]? = some (.invokevirtual g)) (hT : xm_T[g]? = some inf) (hk : xe_ik inf = 1) (hm : xe_im inf = 0) (hs : xe_is inf = 0) (hst : st' = As.reverse ++ .ref a :: st) (hn : As.length = xe_in inf) (hA1 : As.all xe_c1 = true) (ha : 0 < a) (hz : a < 178) (hM : xd_mem L d e a = .inr (xe_ic inf, fs)) (hcat : xe_cat st ≤ 8) (h : xV D g L (Value.ref a :: As) d e (fun d e => xB D code Q L (i + 1) dl st d e)) : xB D code Q L i dl st' d e := by
  refine xe_Ev_step ⟨_, hc, inf, As, a, fs, st, hT, hk, hst, hn, hA1, ha, hz, hM, hcat, by rw [hm]; exact Nat.le_refl _, by rw [hs]; exact Nat.le_refl _, ?_⟩
  refine xe_Call_Q D g _ 178 _ _ _ ?_ h
  rintro v z M ⟨d', e', rfl, rfl, rfl, h⟩
  rw [hm, hs]
  exact h
theorem xb_callSi {g : Nat} {inf : xe_I} {As st' : List Value} (hc : code[i]? = some (.invokestatic g)) (hT : xm_T[g]? = some inf) (hk : xe_ik inf = 0) (hm : xe_im inf = 0) (hs : xe_is inf = 0) (hst : st' = As.reverse ++ st) (hn : As.length = xe_in inf) (hA1 : As.all xe_c1 = true) (hcat : xe_cat st ≤ 8) (h : xC D g L (As) d e (fun x d e => xB D code Q L (i + 1) dl (.int x :: st) d e)) : xB D code Q L i dl st' d e := by
  refine xe_Ev_step ⟨_, hc, inf, As, st, hT, Or.inl hk, hst, hn, hA1, hcat, by rw [hm]; exact Nat.le_refl _, by rw [hs]; exact Nat.le_refl _, ?_⟩
  refine xe_Call_Q D g _ 178 _ _ _ ?_ h
  rintro v z M ⟨x, d', e', rfl, rfl, rfl, h⟩
  rw [hm, hs]
  exact h
theorem xb_callSv {g : Nat} {inf : xe_I} {As st' : List Value} (hc : code[i]? = some (.invokestatic g)) (hT : xm_T[g]? = some inf) (hk : xe_ik inf = 0) (hm : xe_im inf = 0) (hs : xe_is inf = 0) (hst : st' = As.reverse ++ st) (hn : As.length = xe_in inf) (hA1 : As.all xe_c1 = true) (hcat : xe_cat st ≤ 8) (h : xV D g L (As) d e (fun d e => xB D code Q L (i + 1) dl st d e)) : xB D code Q L i dl st' d e := by
  refine xe_Ev_step ⟨_, hc, inf, As, st, hT, Or.inl hk, hst, hn, hA1, hcat, by rw [hm]; exact Nat.le_refl _, by rw [hs]; exact Nat.le_refl _, ?_⟩
  refine xe_Call_Q D g _ 178 _ _ _ ?_ h
  rintro v z M ⟨d', e', rfl, rfl, rfl, h⟩
  rw [hm, hs]
  exact h
theorem xb_forget {dl2 : List Value} (hle : xe_le dl dl2) (h : xB D code Q L i dl st d e) : xB D code Q L i dl2 st d e := xe_forget h dl2 hle
end XBR
section XBQ
variable {D : Nat} {code : List Instr} {L i : Nat} {dl : List Value} {d : xd_D} {e : xd_E}
theorem xb_ret {P : Int32 → xd_D → xd_E → Prop} {x : Int32} (hc : code[i]? = some .ireturn) (h : P x d e) : xB D code (xQi L P) L i dl [.int x] d e := xe_Ev_step ⟨_, hc, x, rfl, x, d, e, rfl, rfl, rfl, h⟩
theorem xb_retz {P : Int32 → xd_D → xd_E → Prop} {x : Int32} (hc : code[i]? = some .freturn) (hx : x = 0 ∨ x = 1) (h : P x d e) : xB D code (xQi L P) L i dl [.int x] d e := xe_Ev_step ⟨_, hc, x, rfl, hx, x, d, e, rfl, rfl, rfl, h⟩
theorem xb_retv {P : xd_D → xd_E → Prop} (hc : code[i]? = some .return_) (h : P d e) : xB D code (xQv L P) L i dl [] d e := xe_Ev_step ⟨_, hc, rfl, d, e, rfl, rfl, rfl, h⟩
end XBQ
end
section
/-! THE SAME RULES over the integers: d : place -> index -> Int, a cell holds the Int32 of its Int. -/
abbrev xh_D : Type := Nat → Int → Int
def xJ (z : Int) : Int32 := Int32.ofInt z
def xh_m (d : xh_D) : xd_D := fun p i => xJ (d p (i : Int))
/-- one cell is written -/
def xs (d : xh_D) (q : Nat) (j v : Int) : xh_D := fun p i => if p = q ∧ i = j then v else d p i
/-- the first n of a place are those of another -/
def xcp (d : xh_D) (q0 q : Nat) (n : Int) : xh_D := fun p i => if p = q ∧ 0 ≤ i ∧ i < n then d q0 i else d p i
def xi_and (x y : Int) : Int := (xJ x &&& xJ y).toInt
def xi_or (x y : Int) : Int := (xJ x ||| xJ y).toInt
def xi_xor (x y : Int) : Int := (xJ x ^^^ xJ y).toInt
def xi_shl (x y : Int) : Int := (xp_shl (xJ x) (xJ y)).toInt
def xi_shr (x y : Int) : Int := (xp_shr (xJ x) (xJ y)).toInt
def xi_ushr (x y : Int) : Int := (xp_ushr (xJ x) (xJ y)).toInt
def xi_div (x y : Int) : Int := (xJ x / xJ y).toInt
def xi_rem (x y : Int) : Int := (xp_rem (xJ x) (xJ y)).toInt
def xi_i8 (x : Int) : Int := (xJ x).toInt8.toInt32.toInt
def xi_i16 (x : Int) : Int := (xJ x).toInt16.toInt32.toInt
theorem xJ_toInt (x : Int32) : xJ x.toInt = x := Int32.ofInt_toInt x
theorem xJ_add (a b : Int) : xJ a + xJ b = xJ (a + b) := (Int32.ofInt_add a b).symm
theorem xJ_sub (a b : Int) : xJ a - xJ b = xJ (a - b) := (Int32.ofInt_sub a b).symm
theorem xJ_mul (a b : Int) : xJ a * xJ b = xJ (a * b) := (Int32.ofInt_mul a b).symm
theorem xJ_neg (a : Int) : -xJ a = xJ (-a) := (Int32.ofInt_neg a).symm
theorem xJ_i {a : Int} (h : -2147483648 ≤ a ∧ a < 2147483648) : (xJ a).toInt = a := Int32.toInt_ofInt_of_le (by omega) (by omega)
theorem xJ_inj {a b : Int} (ha : -2147483648 ≤ a ∧ a < 2147483648) (hb : -2147483648 ≤ b ∧ b < 2147483648) : xJ a = xJ b ↔ a = b := ⟨fun h => by rw [← xJ_i ha, ← xJ_i hb, h], fun h => by rw [h]⟩
theorem xJ_lt {a b : Int} (ha : -2147483648 ≤ a ∧ a < 2147483648) (hb : -2147483648 ≤ b ∧ b < 2147483648) : xJ a < xJ b ↔ a < b := by rw [Int32.lt_iff_toInt_lt, xJ_i ha, xJ_i hb]
theorem xJ_le {a b : Int} (ha : -2147483648 ≤ a ∧ a < 2147483648) (hb : -2147483648 ≤ b ∧ b < 2147483648) : xJ a ≤ xJ b ↔ a ≤ b := by rw [Int32.le_iff_toInt_le, xJ_i ha, xJ_i hb]
theorem xJ_rng (x : Int32) : -2147483648 ≤ x.toInt ∧ x.toInt < 2147483648 := ⟨x.le_toInt, by have := x.toInt_lt; omega⟩
theorem xJ_nat {a : Int} (h : 0 ≤ a ∧ a < 2147483648) : (xJ a).toNatClampNeg = a.toNat := by
  show (xJ a).toInt.toNat = _
  rw [xJ_i (by omega)]
theorem xJ_in {a : Int} {n : Nat} (hn : n < 2147483648) (h : 0 ≤ a ∧ a < n) : vp_in (xJ a) n := by
  unfold vp_in
  rintro (q | q)
  · rw [show (0 : Int32) = xJ 0 from rfl, xJ_lt (by omega) (by omega)] at q
    omega
  · rw [xJ_nat (by omega)] at q
    omega
theorem xJ_div {a b : Int} (ha : 0 ≤ a ∧ a < 2147483648) (hb : 0 < b ∧ b < 2147483648) : xJ a / xJ b = xJ (a / b) := by
  apply Int32.toInt_inj.mp
  have h1 : a / b ≤ a := Int.ediv_le_self b ha.1
  have h2 : 0 ≤ a / b := Int.ediv_nonneg ha.1 (by omega)
  rw [Int32.toInt_div_of_ne_right _ _ (by rw [show (-1 : Int32) = xJ (-1) from rfl, Ne, xJ_inj (by omega) (by omega)]; omega), xJ_i (by omega), xJ_i (by omega), xJ_i (by omega), Int.tdiv_eq_ediv_of_nonneg ha.1]
theorem xJ_rem {a b : Int} (ha : 0 ≤ a ∧ a < 2147483648) (hb : 0 < b ∧ b < 2147483648) : xp_rem (xJ a) (xJ b) = xJ (a % b) := by
  unfold xp_rem
  rw [xJ_div ha hb, xJ_mul, xJ_sub, Int.emod_def, Int.mul_comm b]
theorem xh_put (d : xh_D) (q : Nat) (j v : Int) : va_up (xh_m d) q (xh_m (xs d q j v) q) = xh_m (xs d q j v) := by
  funext p
  by_cases h : p = q
  · subst h; simp [va_up]
  · funext i; simp [va_up, h, xh_m, xs]
theorem xh_upd (d : xh_D) (q : Nat) {j v : Int} (h : 0 ≤ j ∧ j < 2147483648) : upd (xh_m d q) (xJ j).toNatClampNeg (xJ v) = xh_m (xs d q j v) q := by
  rw [xJ_nat h]
  funext i
  unfold upd xh_m xs
  by_cases hi : i = j.toNat
  · rw [if_pos hi, if_pos ⟨rfl, by omega⟩]
  · rw [if_neg hi, if_neg (fun q => hi (by omega))]
theorem xh_cpy (d : xh_D) (q0 q : Nat) {n : Int} (h : 0 ≤ n ∧ n < 2147483648) : va_cpy (xh_m d q0) (xh_m d q) (xJ 0).toNatClampNeg (xJ 0).toNatClampNeg (xJ n).toNatClampNeg = xh_m (xcp d q0 q n) q := by
  rw [xJ_nat h, xJ_nat (by omega)]
  funext i
  unfold va_cpy xh_m xcp
  by_cases hi : (i : Int) < n
  · rw [if_pos ⟨by simp, by simp; omega⟩, if_pos ⟨rfl, by omega, hi⟩]
    simp
  · rw [if_neg (fun q => by simp at q; omega), if_neg (fun q => hi q.2.2)]
theorem xh_putc (d : xh_D) (q0 q : Nat) (n : Int) : va_up (xh_m d) q (xh_m (xcp d q0 q n) q) = xh_m (xcp d q0 q n) := by
  funext p
  by_cases h : p = q
  · subst h; simp [va_up]
  · funext i; simp [va_up, h, xh_m, xcp]
theorem xh_0 (x : xd_D) : ∃ d : xh_D, x = xh_m d := ⟨fun p i => (x p i.toNat).toInt, by funext p i; simp [xh_m, xJ_toInt]⟩
theorem xs_eq {d : xh_D} {q : Nat} {j v : Int} : xs d q j v q j = v := if_pos ⟨rfl, rfl⟩
theorem xs_np {d : xh_D} {q p : Nat} {j v i : Int} (h : ¬ p = q) : xs d q j v p i = d p i := if_neg (fun c => h c.1)
theorem xcp_np {d : xh_D} {q0 q p : Nat} {n i : Int} (h : ¬ p = q) : xcp d q0 q n p i = d p i := if_neg (fun c => h c.1)
theorem xs_ni {d : xh_D} {q p : Nat} {j v i : Int} (h : ¬ i = j) : xs d q j v p i = d p i := if_neg (fun c => h c.2)
def yB (D : Nat) (code : List Instr) (Q : xe_Q) (L i : Nat) (dl st : List Value) (d : xh_D) (e : xd_E) : Prop := xB D code Q L i dl st (xh_m d) e
def yPi (P : Int → xh_D → xd_E → Prop) : Int32 → xd_D → xd_E → Prop := fun x d e => ∃ z d1, x = xJ z ∧ d = xh_m d1 ∧ P z d1 e
def yPv (P : xh_D → xd_E → Prop) : xd_D → xd_E → Prop := fun d e => ∃ d1, d = xh_m d1 ∧ P d1 e
def yPz (P1 P0 : xh_D → xd_E → Prop) : Int → xh_D → xd_E → Prop := fun z d e => (z = 1 ∧ P1 d e) ∨ (z = 0 ∧ P0 d e)
def yQi (L : Nat) (P : Int → xh_D → xd_E → Prop) : xe_Q := xQi L (yPi P)
def yQv (L : Nat) (P : xh_D → xd_E → Prop) : xe_Q := xQv L (yPv P)
def yQz (L : Nat) (P1 P0 : xh_D → xd_E → Prop) : xe_Q := yQi L (yPz P1 P0)
def yC (D g L : Nat) (a : List Value) (d : xh_D) (e : xd_E) (P : Int → xh_D → xd_E → Prop) : Prop := xC D g L a (xh_m d) e (yPi P)
def yV (D g L : Nat) (a : List Value) (d : xh_D) (e : xd_E) (P : xh_D → xd_E → Prop) : Prop := xV D g L a (xh_m d) e (yPv P)
def yZ (D g L : Nat) (a : List Value) (d : xh_D) (e : xd_E) (P1 P0 : xh_D → xd_E → Prop) : Prop := yC D g L a d e (yPz P1 P0)
theorem yC_mono {D g L : Nat} {a : List Value} {d : xh_D} {e : xd_E} {P P' : Int → xh_D → xd_E → Prop} (h : yC D g L a d e P) (hP : ∀ x d e, P x d e → P' x d e) : yC D g L a d e P' := xC_mono h (fun _ _ _ ⟨z, d1, h1, h2, h3⟩ => ⟨z, d1, h1, h2, hP _ _ _ h3⟩)
theorem yV_mono {D g L : Nat} {a : List Value} {d : xh_D} {e : xd_E} {P P' : xh_D → xd_E → Prop} (h : yV D g L a d e P) (hP : ∀ d e, P d e → P' d e) : yV D g L a d e P' := xV_mono h (fun _ _ ⟨d1, h2, h3⟩ => ⟨d1, h2, hP _ _ h3⟩)
theorem yZ_mono {D g L : Nat} {a : List Value} {d : xh_D} {e : xd_E} {P P' R R' : xh_D → xd_E → Prop} (h : yZ D g L a d e P R) (hP : ∀ d e, P d e → P' d e) (hR : ∀ d e, R d e → R' d e) : yZ D g L a d e P' R' := yC_mono h (fun _ _ _ q => q.elim (fun q => Or.inl ⟨q.1, hP _ _ q.2⟩) (fun q => Or.inr ⟨q.1, hR _ _ q.2⟩))
theorem yC_of {D g L : Nat} {a : List Value} {d : xh_D} {e : xd_E} {P : Int → xh_D → xd_E → Prop} {inf : xe_I} (hT : xm_T[g]? = some inf) (hm : xe_im inf = 0) (hs : xe_is inf = 0) (hD : 1 ≤ D) (h : yB (D - 1) (xe_code inf) (yQi L P) L 0 (xe_entry (xe_iL inf) a) [] d e) : yC D g L a d e P := xC_of hT hm hs hD h
theorem yZ_of {D g L : Nat} {a : List Value} {d : xh_D} {e : xd_E} {P1 P0 : xh_D → xd_E → Prop} {inf : xe_I} (hT : xm_T[g]? = some inf) (hm : xe_im inf = 0) (hs : xe_is inf = 0) (hD : 1 ≤ D) (h : yB (D - 1) (xe_code inf) (yQz L P1 P0) L 0 (xe_entry (xe_iL inf) a) [] d e) : yZ D g L a d e P1 P0 := xC_of hT hm hs hD h
theorem yV_of {D g L : Nat} {a : List Value} {d : xh_D} {e : xd_E} {P : xh_D → xd_E → Prop} {inf : xe_I} (hT : xm_T[g]? = some inf) (hm : xe_im inf = 0) (hs : xe_is inf = 0) (hD : 1 ≤ D) (h : yB (D - 1) (xe_code inf) (yQv L P) L 0 (xe_entry (xe_iL inf) a) [] d e) : yV D g L a d e P := xV_of hT hm hs hD h
section YBR
variable {D : Nat} {code : List Instr} {Q : xe_Q} {L i : Nat} {dl st : List Value} {d : xh_D} {e : xd_E}
theorem yb_lconst (hc : code[i]? = some (.lconst 0)) (h : yB D code Q L (i + 1) dl (.long 0 :: st) d e) : yB D code Q L i dl st d e := xb_lconst hc h
theorem yb_null (hc : code[i]? = some .aconst_null) (h : yB D code Q L (i + 1) dl (.null :: st) d e) : yB D code Q L i dl st d e := xb_null hc h
theorem yb_push {v : Int} (hc : code[i]? = some (.sipush v)) (h : yB D code Q L (i + 1) dl (.int (xJ v) :: st) d e) : yB D code Q L i dl st d e := xb_push hc rfl h
theorem yb_iload {k : Nat} {x : Int} (hc : code[i]? = some (.iload k)) (hv : dl[k]? = some (.int (xJ x))) (h : yB D code Q L (i + 1) dl (.int (xJ x) :: st) d e) : yB D code Q L i dl st d e := xb_iload hc hv h
theorem yb_lload {k : Nat} {x : Int64} (hc : code[i]? = some (.lload k)) (hv : dl[k]? = some (.long x)) (h : yB D code Q L (i + 1) dl (.long x :: st) d e) : yB D code Q L i dl st d e := xb_lload hc hv h
theorem yb_aload {k : Nat} {x : Nat} (hc : code[i]? = some (.aload k)) (hv : dl[k]? = some (.ref x)) (h : yB D code Q L (i + 1) dl (.ref x :: st) d e) : yB D code Q L i dl st d e := xb_aload hc hv h
theorem yb_istore {k : Nat} {x : Int} {dl' : List Value} (hc : code[i]? = some (.istore k)) (hs : xe_s1 dl k = true) (hd : dl.set k (.int (xJ x)) = dl') (h : yB D code Q L (i + 1) dl' st d e) : yB D code Q L i dl (.int (xJ x) :: st) d e := xb_istore hc hs hd h
theorem yb_astore {k : Nat} {x : Nat} {dl' : List Value} (hc : code[i]? = some (.astore k)) (hs : xe_s1 dl k = true) (hd : dl.set k (.ref x) = dl') (h : yB D code Q L (i + 1) dl' st d e) : yB D code Q L i dl (.ref x :: st) d e := xb_astore hc hs hd h
theorem yb_lstore {k : Nat} {x : Int64} {dl' : List Value} (hc : code[i]? = some (.lstore k)) (hs : xe_s2 dl k = true) (hd : (dl.set k (.long x)).set (k + 1) (.double 0) = dl') (h : yB D code Q L (i + 1) dl' st d e) : yB D code Q L i dl (.long x :: st) d e := xb_lstore hc hs hd h
theorem yb_iinc {k : Nat} {n x : Int} {dl' : List Value} (hc : code[i]? = some (.iinc k n)) (hv : dl[k]? = some (.int (xJ x))) (hs : xe_s1 dl k = true) (hd : dl.set k (.int (xJ (x + n))) = dl') (h : yB D code Q L (i + 1) dl' st d e) : yB D code Q L i dl st d e := xb_iinc hc hv hs rfl (by rw [← hd, ← xJ_add]; rfl) h
theorem yb_iadd {x y : Int} (hc : code[i]? = some .iadd) (h : yB D code Q L (i + 1) dl (.int (xJ (x + y)) :: st) d e) : yB D code Q L i dl (.int (xJ y) :: .int (xJ x) :: st) d e := xb_iadd hc (by rw [xJ_add]; exact h)
theorem yb_isub {x y : Int} (hc : code[i]? = some .isub) (h : yB D code Q L (i + 1) dl (.int (xJ (x - y)) :: st) d e) : yB D code Q L i dl (.int (xJ y) :: .int (xJ x) :: st) d e := xb_isub hc (by rw [xJ_sub]; exact h)
theorem yb_imul {x y : Int} (hc : code[i]? = some .imul) (h : yB D code Q L (i + 1) dl (.int (xJ (x * y)) :: st) d e) : yB D code Q L i dl (.int (xJ y) :: .int (xJ x) :: st) d e := xb_imul hc (by rw [xJ_mul]; exact h)
theorem yb_iand {x y : Int} (hc : code[i]? = some .iand) (h : yB D code Q L (i + 1) dl (.int (xJ (xi_and x y)) :: st) d e) : yB D code Q L i dl (.int (xJ y) :: .int (xJ x) :: st) d e := xb_iand hc (by unfold xi_and at h; rw [xJ_toInt] at h; exact h)
theorem yb_ior {x y : Int} (hc : code[i]? = some .ior) (h : yB D code Q L (i + 1) dl (.int (xJ (xi_or x y)) :: st) d e) : yB D code Q L i dl (.int (xJ y) :: .int (xJ x) :: st) d e := xb_ior hc (by unfold xi_or at h; rw [xJ_toInt] at h; exact h)
theorem yb_ixor {x y : Int} (hc : code[i]? = some .ixor) (h : yB D code Q L (i + 1) dl (.int (xJ (xi_xor x y)) :: st) d e) : yB D code Q L i dl (.int (xJ y) :: .int (xJ x) :: st) d e := xb_ixor hc (by unfold xi_xor at h; rw [xJ_toInt] at h; exact h)
theorem yb_ishl {x y : Int} (hc : code[i]? = some .ishl) (h : yB D code Q L (i + 1) dl (.int (xJ (xi_shl x y)) :: st) d e) : yB D code Q L i dl (.int (xJ y) :: .int (xJ x) :: st) d e := xb_ishl hc (by unfold xi_shl at h; rw [xJ_toInt] at h; exact h)
theorem yb_ishr {x y : Int} (hc : code[i]? = some .ishr) (h : yB D code Q L (i + 1) dl (.int (xJ (xi_shr x y)) :: st) d e) : yB D code Q L i dl (.int (xJ y) :: .int (xJ x) :: st) d e := xb_ishr hc (by unfold xi_shr at h; rw [xJ_toInt] at h; exact h)
theorem yb_iushr {x y : Int} (hc : code[i]? = some .iushr) (h : yB D code Q L (i + 1) dl (.int (xJ (xi_ushr x y)) :: st) d e) : yB D code Q L i dl (.int (xJ y) :: .int (xJ x) :: st) d e := xb_iushr hc (by unfold xi_ushr at h; rw [xJ_toInt] at h; exact h)
theorem yb_ineg {x : Int} (hc : code[i]? = some .ineg) (h : yB D code Q L (i + 1) dl (.int (xJ (-x)) :: st) d e) : yB D code Q L i dl (.int (xJ x) :: st) d e := xb_ineg hc (by rw [xJ_neg]; exact h)
theorem yb_i2b {x : Int} (hc : code[i]? = some .i2b) (h : yB D code Q L (i + 1) dl (.int (xJ (xi_i8 x)) :: st) d e) : yB D code Q L i dl (.int (xJ x) :: st) d e := xb_i2b hc (by unfold xi_i8 at h; rw [xJ_toInt] at h; exact h)
theorem yb_i2s {x : Int} (hc : code[i]? = some .i2s) (h : yB D code Q L (i + 1) dl (.int (xJ (xi_i16 x)) :: st) d e) : yB D code Q L i dl (.int (xJ x) :: st) d e := xb_i2s hc (by unfold xi_i16 at h; rw [xJ_toInt] at h; exact h)
theorem yb_i2l {x : Int} (hc : code[i]? = some .i2l) (h : yB D code Q L (i + 1) dl (.long (xJ x).toInt64 :: st) d e) : yB D code Q L i dl (.int (xJ x) :: st) d e := xb_i2l hc h
theorem yb_l2i {x : Int64} (hc : code[i]? = some .l2i) (h : yB D code Q L (i + 1) dl (.int (xJ x.toInt32.toInt) :: st) d e) : yB D code Q L i dl (.long x :: st) d e := xb_l2i hc (by rw [xJ_toInt] at h; exact h)
theorem yb_lor {x y : Int64} (hc : code[i]? = some .lor) (h : yB D code Q L (i + 1) dl (.long (x ||| y) :: st) d e) : yB D code Q L i dl (.long y :: .long x :: st) d e := xb_lor hc h
theorem yb_lxor {x y : Int64} (hc : code[i]? = some .lxor) (h : yB D code Q L (i + 1) dl (.long (x ^^^ y) :: st) d e) : yB D code Q L i dl (.long y :: .long x :: st) d e := xb_lxor hc h
theorem yb_lshl {x : Int64} {y : Int} (hc : code[i]? = some .lshl) (h : yB D code Q L (i + 1) dl (.long (x <<< ((xJ y).toInt64 &&& 63)) :: st) d e) : yB D code Q L i dl (.int (xJ y) :: .long x :: st) d e := xb_lshl hc h
theorem yb_lushr {x : Int64} {y : Int} (hc : code[i]? = some .lushr) (h : yB D code Q L (i + 1) dl (.long (x.toUInt64 >>> ((xJ y).toInt64.toUInt64 &&& Int64.toUInt64 63)).toInt64 :: st) d e) : yB D code Q L i dl (.int (xJ y) :: .long x :: st) d e := xb_lushr hc h
theorem yb_idiv {x y : Int} (hc : code[i]? = some .idiv) (hx : 0 ≤ x ∧ x < 2147483648) (hy : 0 < y ∧ y < 2147483648) (h : yB D code Q L (i + 1) dl (.int (xJ (x / y)) :: st) d e) : yB D code Q L i dl (.int (xJ y) :: .int (xJ x) :: st) d e := xb_idiv hc (by rw [show (0 : Int32) = xJ 0 from rfl, xJ_inj (by omega) (by omega)]; omega) (by rw [xJ_div hx hy]; exact h)
theorem yb_irem {x y : Int} (hc : code[i]? = some .irem) (hx : 0 ≤ x ∧ x < 2147483648) (hy : 0 < y ∧ y < 2147483648) (h : yB D code Q L (i + 1) dl (.int (xJ (x % y)) :: st) d e) : yB D code Q L i dl (.int (xJ y) :: .int (xJ x) :: st) d e := xb_irem hc (by rw [show (0 : Int32) = xJ 0 from rfl, xJ_inj (by omega) (by omega)]; omega) (by rw [xJ_rem hx hy]; exact h)
theorem yb_idivg {x y : Int} (hc : code[i]? = some .idiv) (hy : (-2147483648 ≤ y ∧ y < 2147483648) ∧ ¬ y = 0) (h : yB D code Q L (i + 1) dl (.int (xJ (xi_div x y)) :: st) d e) : yB D code Q L i dl (.int (xJ y) :: .int (xJ x) :: st) d e := xb_idiv hc (by rw [show (0 : Int32) = xJ 0 from rfl, xJ_inj hy.1 (by omega)]; exact hy.2) (by unfold xi_div at h; rw [xJ_toInt] at h; exact h)
theorem yb_dup {v : Value} (hc : code[i]? = some .dup) (hv : v.category = 1) (h : yB D code Q L (i + 1) dl (v :: v :: st) d e) : yB D code Q L i dl (v :: st) d e := xb_dup hc hv h
theorem yb_pop {v : Value} (hc : code[i]? = some .pop) (hv : v.category = 1) (h : yB D code Q L (i + 1) dl st d e) : yB D code Q L i dl (v :: st) d e := xb_pop hc hv h
theorem yb_dup_x1 {v w : Value} (hc : code[i]? = some .dup_x1) (hv : v.category = 1) (hw : w.category = 1) (h : yB D code Q L (i + 1) dl (v :: w :: v :: st) d e) : yB D code Q L i dl (v :: w :: st) d e := xb_dup_x1 hc hv hw h
theorem yb_dup2 {v w : Value} (hc : code[i]? = some .dup2) (hv : v.category = 1) (hw : w.category = 1) (h : yB D code Q L (i + 1) dl (v :: w :: v :: w :: st) d e) : yB D code Q L i dl (v :: w :: st) d e := xb_dup2 hc hv hw h
theorem yb_goto {t : Int} {j : Nat} (hc : code[i]? = some (.goto t)) (ht : t.toNat = j) (h : yB D code Q L j dl st d e) : yB D code Q L i dl st d e := xb_goto hc ht h
theorem yb_icmp_eq {x y : Int} {t : Int} {j : Nat} (hc : code[i]? = some (.if_icmp .eq t)) (ht : t.toNat = j) (hx : (-2147483648 ≤ x ∧ x < 2147483648)) (hy : (-2147483648 ≤ y ∧ y < 2147483648)) (h1 : x = y → yB D code Q L j dl st d e) (h2 : ¬ x = y → yB D code Q L (i + 1) dl st d e) : yB D code Q L i dl (.int (xJ y) :: .int (xJ x) :: st) d e := xb_icmp_eq hc ht (by rw [xJ_inj hx hy]; exact h1) (by rw [xJ_inj hx hy]; exact h2)
theorem yb_if_eq {x : Int} {t : Int} {j : Nat} (hc : code[i]? = some (.ifCond .eq t)) (ht : t.toNat = j) (hx : (-2147483648 ≤ x ∧ x < 2147483648)) (h1 : x = 0 → yB D code Q L j dl st d e) (h2 : ¬ x = 0 → yB D code Q L (i + 1) dl st d e) : yB D code Q L i dl (.int (xJ x) :: st) d e := xb_if_eq hc ht (by rw [show (0 : Int32) = xJ 0 from rfl, xJ_inj hx (by omega)]; exact h1) (by rw [show (0 : Int32) = xJ 0 from rfl, xJ_inj hx (by omega)]; exact h2)
theorem yb_icmp_ne {x y : Int} {t : Int} {j : Nat} (hc : code[i]? = some (.if_icmp .ne t)) (ht : t.toNat = j) (hx : (-2147483648 ≤ x ∧ x < 2147483648)) (hy : (-2147483648 ≤ y ∧ y < 2147483648)) (h1 : ¬ x = y → yB D code Q L j dl st d e) (h2 : x = y → yB D code Q L (i + 1) dl st d e) : yB D code Q L i dl (.int (xJ y) :: .int (xJ x) :: st) d e := xb_icmp_ne hc ht (by rw [xJ_inj hx hy]; exact h1) (by rw [xJ_inj hx hy]; exact h2)
theorem yb_if_ne {x : Int} {t : Int} {j : Nat} (hc : code[i]? = some (.ifCond .ne t)) (ht : t.toNat = j) (hx : (-2147483648 ≤ x ∧ x < 2147483648)) (h1 : ¬ x = 0 → yB D code Q L j dl st d e) (h2 : x = 0 → yB D code Q L (i + 1) dl st d e) : yB D code Q L i dl (.int (xJ x) :: st) d e := xb_if_ne hc ht (by rw [show (0 : Int32) = xJ 0 from rfl, xJ_inj hx (by omega)]; exact h1) (by rw [show (0 : Int32) = xJ 0 from rfl, xJ_inj hx (by omega)]; exact h2)
theorem yb_icmp_lt {x y : Int} {t : Int} {j : Nat} (hc : code[i]? = some (.if_icmp .lt t)) (ht : t.toNat = j) (hx : (-2147483648 ≤ x ∧ x < 2147483648)) (hy : (-2147483648 ≤ y ∧ y < 2147483648)) (h1 : x < y → yB D code Q L j dl st d e) (h2 : ¬ x < y → yB D code Q L (i + 1) dl st d e) : yB D code Q L i dl (.int (xJ y) :: .int (xJ x) :: st) d e := xb_icmp_lt hc ht (by rw [xJ_lt hx hy]; exact h1) (by rw [xJ_lt hx hy]; exact h2)
theorem yb_if_lt {x : Int} {t : Int} {j : Nat} (hc : code[i]? = some (.ifCond .lt t)) (ht : t.toNat = j) (hx : (-2147483648 ≤ x ∧ x < 2147483648)) (h1 : x < 0 → yB D code Q L j dl st d e) (h2 : ¬ x < 0 → yB D code Q L (i + 1) dl st d e) : yB D code Q L i dl (.int (xJ x) :: st) d e := xb_if_lt hc ht (by rw [show (0 : Int32) = xJ 0 from rfl, xJ_lt hx (by omega)]; exact h1) (by rw [show (0 : Int32) = xJ 0 from rfl, xJ_lt hx (by omega)]; exact h2)
theorem yb_icmp_ge {x y : Int} {t : Int} {j : Nat} (hc : code[i]? = some (.if_icmp .ge t)) (ht : t.toNat = j) (hx : (-2147483648 ≤ x ∧ x < 2147483648)) (hy : (-2147483648 ≤ y ∧ y < 2147483648)) (h1 : y ≤ x → yB D code Q L j dl st d e) (h2 : ¬ y ≤ x → yB D code Q L (i + 1) dl st d e) : yB D code Q L i dl (.int (xJ y) :: .int (xJ x) :: st) d e := xb_icmp_ge hc ht (by rw [xJ_le hy hx]; exact h1) (by rw [xJ_le hy hx]; exact h2)
theorem yb_if_ge {x : Int} {t : Int} {j : Nat} (hc : code[i]? = some (.ifCond .ge t)) (ht : t.toNat = j) (hx : (-2147483648 ≤ x ∧ x < 2147483648)) (h1 : 0 ≤ x → yB D code Q L j dl st d e) (h2 : ¬ 0 ≤ x → yB D code Q L (i + 1) dl st d e) : yB D code Q L i dl (.int (xJ x) :: st) d e := xb_if_ge hc ht (by rw [show (0 : Int32) = xJ 0 from rfl, xJ_le (by omega) hx]; exact h1) (by rw [show (0 : Int32) = xJ 0 from rfl, xJ_le (by omega) hx]; exact h2)
theorem yb_icmp_gt {x y : Int} {t : Int} {j : Nat} (hc : code[i]? = some (.if_icmp .gt t)) (ht : t.toNat = j) (hx : (-2147483648 ≤ x ∧ x < 2147483648)) (hy : (-2147483648 ≤ y ∧ y < 2147483648)) (h1 : y < x → yB D code Q L j dl st d e) (h2 : ¬ y < x → yB D code Q L (i + 1) dl st d e) : yB D code Q L i dl (.int (xJ y) :: .int (xJ x) :: st) d e := xb_icmp_gt hc ht (by rw [xJ_lt hy hx]; exact h1) (by rw [xJ_lt hy hx]; exact h2)
theorem yb_if_gt {x : Int} {t : Int} {j : Nat} (hc : code[i]? = some (.ifCond .gt t)) (ht : t.toNat = j) (hx : (-2147483648 ≤ x ∧ x < 2147483648)) (h1 : 0 < x → yB D code Q L j dl st d e) (h2 : ¬ 0 < x → yB D code Q L (i + 1) dl st d e) : yB D code Q L i dl (.int (xJ x) :: st) d e := xb_if_gt hc ht (by rw [show (0 : Int32) = xJ 0 from rfl, xJ_lt (by omega) hx]; exact h1) (by rw [show (0 : Int32) = xJ 0 from rfl, xJ_lt (by omega) hx]; exact h2)
theorem yb_icmp_le {x y : Int} {t : Int} {j : Nat} (hc : code[i]? = some (.if_icmp .le t)) (ht : t.toNat = j) (hx : (-2147483648 ≤ x ∧ x < 2147483648)) (hy : (-2147483648 ≤ y ∧ y < 2147483648)) (h1 : x ≤ y → yB D code Q L j dl st d e) (h2 : ¬ x ≤ y → yB D code Q L (i + 1) dl st d e) : yB D code Q L i dl (.int (xJ y) :: .int (xJ x) :: st) d e := xb_icmp_le hc ht (by rw [xJ_le hx hy]; exact h1) (by rw [xJ_le hx hy]; exact h2)
theorem yb_if_le {x : Int} {t : Int} {j : Nat} (hc : code[i]? = some (.ifCond .le t)) (ht : t.toNat = j) (hx : (-2147483648 ≤ x ∧ x < 2147483648)) (h1 : x ≤ 0 → yB D code Q L j dl st d e) (h2 : ¬ x ≤ 0 → yB D code Q L (i + 1) dl st d e) : yB D code Q L i dl (.int (xJ x) :: st) d e := xb_if_le hc ht (by rw [show (0 : Int32) = xJ 0 from rfl, xJ_le hx (by omega)]; exact h1) (by rw [show (0 : Int32) = xJ 0 from rfl, xJ_le hx (by omega)]; exact h2)
theorem yb_nnull {x : Int} {t : Int} {j : Nat} (hc : code[i]? = some (.ifnonnull t)) (ht : t.toNat = j) (hx : (-2147483648 ≤ x ∧ x < 2147483648)) (h1 : ¬ x = 0 → yB D code Q L j dl st d e) (h2 : x = 0 → yB D code Q L (i + 1) dl st d e) : yB D code Q L i dl (xd_r (xJ x) :: st) d e := xb_nnull hc ht (by rw [show (0 : Int32) = xJ 0 from rfl, xJ_inj hx (by omega)]; exact h1) (by rw [show (0 : Int32) = xJ 0 from rfl, xJ_inj hx (by omega)]; exact h2)
theorem yb_table {x : Int} {dd lo hi : Int} {os : Array Int} {j : Nat} (hc : code[i]? = some (.tableswitch dd lo hi os)) (ht : dd.toNat = j) (hx : (-2147483648 ≤ x ∧ x < 2147483648)) (h1 : (x < lo ∨ hi < x) → yB D code Q L j dl st d e) (h2 : ¬ x < lo → ¬ hi < x → ∃ t : Int, os[(x - lo).toNat]? = some t ∧ yB D code Q L t.toNat dl st d e) : yB D code Q L i dl (.int (xJ x) :: st) d e := xb_table hc ht (by rw [xJ_i hx]; exact h1) (by rw [xJ_i hx]; exact h2)
theorem yb_lookup {x : Int} {dd : Int} {ps : Array (Int × Int)} (hc : code[i]? = some (.lookupswitch dd ps)) (hx : (-2147483648 ≤ x ∧ x < 2147483648)) (h : yB D code Q L (Op.lookupswitch.offset ps.toList dd x).toNat dl st d e) : yB D code Q L i dl (.int (xJ x) :: st) d e := xb_lookup hc (by rw [xJ_i hx]; exact h)
theorem yb_get {a n : Nat} {fs : List Value} {v : Value} (hc : code[i]? = some (.getfield n)) (ha : 0 < a) (hz : a < 178) (hM : xd_mem L (xh_m d) e a = .inr (n / 64, fs)) (hv : fs[n % 64]? = some v) (h : yB D code Q L (i + 1) dl (v :: st) d e) : yB D code Q L i dl (.ref a :: st) d e := xb_get hc ha hz hM hv h
theorem yb_put {a n : Nat} {fs : List Value} {v : Value} {z k : Int} (hc : code[i]? = some (.putfield n)) (hk : ((n % 64 : Nat) : Int) = k) (ha : 0 < a) (hz : a < 178) (hM : xd_mem L (xh_m d) e a = .inr (n / 64, fs)) (hl : n % 64 < fs.length) (hf : fits (xe_ty (n / 64) (n % 64)) v = true) (hN : xd_cell L a (xh_m (xs d a k z) a) (e a) = .inr (n / 64, fs.set (n % 64) v)) (h : yB D code Q L (i + 1) dl st (xs d a k z) e) : yB D code Q L i dl (v :: .ref a :: st) d e := xb_put hc ha hz hM hl hf hN (xh_put _ _ _ _) h
/-- arrays: of bytes or booleans (t), of longs -/
def xd_Ab (t a n : Nat) : Prop := 0 < a ∧ a < 178 ∧ n < 10000 ∧ ∀ (L : Nat) (f : Nat → Int32) (g : Nat → Int64), xd_cell L a f g = .inl (t, n, .inl f)
def xd_Al (a n : Nat) : Prop := 0 < a ∧ a < 178 ∧ n < 10000 ∧ ∀ (L : Nat) (f : Nat → Int32) (g : Nat → Int64), xd_cell L a f g = .inl (2, n, .inr (.inl g))
theorem yb_iald {a n : Nat} {j v : Int} (hc : code[i]? = some .iaload) (hA : xd_A a n) (hn : n < 10000) (hin : 0 ≤ j ∧ j < (n : Int)) (hv : d a j = v) (h : yB D code Q L (i + 1) dl (.int (xJ v) :: st) d e) : yB D code Q L i dl (.int (xJ j) :: .ref a :: st) d e := xb_iald hc hA.2.1 (hA.2.2 L _ _) (xJ_in (by omega) hin) (by rw [xJ_nat (by omega)]; show xB _ _ _ _ _ _ (.int (xJ (d a (j.toNat : Int))) :: _) _ _; rw [Int.toNat_of_nonneg hin.1, hv]; exact h)
theorem yb_bald {a t n : Nat} {j v : Int} (hc : code[i]? = some .baload) (ht : t = 0 ∨ t = 3) (hA : xd_Ab t a n) (hin : 0 ≤ j ∧ j < (n : Int)) (hv : d a j = v) (h : yB D code Q L (i + 1) dl (.int (xJ v) :: st) d e) : yB D code Q L i dl (.int (xJ j) :: .ref a :: st) d e := xb_bald hc hA.1 hA.2.1 ht (hA.2.2.2 L _ _) (xJ_in (by have := hA.2.2.1; omega) hin) (by rw [xJ_nat (by have := hA.2.2.1; omega)]; show xB _ _ _ _ _ _ (.int (xJ (d a (j.toNat : Int))) :: _) _ _; rw [Int.toNat_of_nonneg hin.1, hv]; exact h)
theorem yb_lald {a n : Nat} {j : Int} {v : Int64} (hc : code[i]? = some .laload) (hA : xd_Al a n) (hin : 0 ≤ j ∧ j < (n : Int)) (hv : e a j.toNat = v) (h : yB D code Q L (i + 1) dl (.long v :: st) d e) : yB D code Q L i dl (.int (xJ j) :: .ref a :: st) d e := xb_lald hc hA.1 hA.2.1 (hA.2.2.2 L _ _) (xJ_in (by have := hA.2.2.1; omega) hin) (by rw [xJ_nat (by have := hA.2.2.1; omega), hv]; exact h)
theorem yb_iast {a n : Nat} {j x : Int} (hc : code[i]? = some .iastore) (hA : xd_A a n) (hn : n < 10000) (hin : 0 ≤ j ∧ j < (n : Int)) (h : yB D code Q L (i + 1) dl st (xs d a j x) e) : yB D code Q L i dl (.int (xJ x) :: .int (xJ j) :: .ref a :: st) d e := xb_iast hc hA.1 hA.2.1 (hA.2.2 L _ _) (xJ_in (by omega) hin) (hA.2.2 L _ _) (by rw [xh_upd d a (by omega), xh_put]) h
theorem yb_bast {a t n : Nat} {j x : Int} (hc : code[i]? = some .bastore) (ht : (t = 0 ∧ (xJ x).toInt8.toInt32 = xJ x) ∨ (t = 3 ∧ (xJ x = 0 ∨ xJ x = 1))) (hA : xd_Ab t a n) (hin : 0 ≤ j ∧ j < (n : Int)) (h : yB D code Q L (i + 1) dl st (xs d a j x) e) : yB D code Q L i dl (.int (xJ x) :: .int (xJ j) :: .ref a :: st) d e := xb_bast hc hA.1 hA.2.1 ht (hA.2.2.2 L _ _) (xJ_in (by have := hA.2.2.1; omega) hin) (hA.2.2.2 L _ _) (by rw [xh_upd d a (by have := hA.2.2.1; omega), xh_put]) h
theorem yb_last {a n : Nat} {j : Int} {x : Int64} (hc : code[i]? = some .lastore) (hA : xd_Al a n) (hin : 0 ≤ j ∧ j < (n : Int)) (h : yB D code Q L (i + 1) dl st d (va_up e a (vp_updL (e a) j.toNat x))) : yB D code Q L i dl (.long x :: .int (xJ j) :: .ref a :: st) d e := xb_last hc hA.1 hA.2.1 (hA.2.2.2 L _ _) (xJ_in (by have := hA.2.2.1; omega) hin) (hA.2.2.2 L _ _) (by rw [xJ_nat (by have := hA.2.2.1; omega)]) h
theorem yb_aald {a n : Nat} {j : Int} {f : Nat → Option Nat} {v : Value} (hc : code[i]? = some .aaload) (ha : 0 < a) (hz : a < 178) (hM : xd_mem L (xh_m d) e a = .inl (4, n, .inr (.inr (.inr (.inr f))))) (hn : n < 10000) (hin : 0 ≤ j ∧ j < (n : Int)) (hv : va_rf (f j.toNat) = v) (h : yB D code Q L (i + 1) dl (v :: st) d e) : yB D code Q L i dl (.int (xJ j) :: .ref a :: st) d e := xb_aald hc ha hz hM (xJ_in (by omega) hin) (by rw [xJ_nat (by omega)]; exact hv) h
theorem yb_alen {a t n : Nat} {x : (Nat → Int32) ⊕ (Nat → Int64) ⊕ (Nat → UInt32) ⊕ (Nat → UInt64) ⊕ (Nat → Option Nat)} (hc : code[i]? = some .arraylength) (hz : a < 178) (ht : t < 5) (hM : xd_mem L (xh_m d) e a = .inl (t, n, x)) (h0 : a = 0 → t = 1) (h : yB D code Q L (i + 1) dl (.int (xJ n) :: st) d e) : yB D code Q L i dl (.ref a :: st) d e := xb_alen hc hz ht hM h0 (by show xB _ _ _ _ _ _ (.int (Int32.ofNat n) :: _) _ _; rw [show Int32.ofNat n = xJ n from rfl]; exact h)
theorem yb_copyi {a0 a n0 n1 : Nat} {n : Int} (hc : code[i]? = some .monitorenter) (hcat : xe_cat st ≤ 8) (hA0 : xd_A a0 n0) (hA : xd_A a n1) (hn1 : n1 < 10000) (hn : 0 ≤ n ∧ n ≤ (n0 : Int) ∧ n ≤ (n1 : Int)) (h : yB D code Q L (i + 1) dl st (xcp d a0 a n) e) : yB D code Q L i dl (.int (xJ n) :: .int (xJ 0) :: .ref a :: .int (xJ 0) :: .ref a0 :: st) d e := xb_copyi hc hA0.1 hA0.2.1 hA.1 hA.2.1 hcat (hA0.2.2 L _ _) (hA.2.2 L _ _) (by decide) (by decide) (by rw [show (0 : Int32) = xJ 0 from rfl, xJ_lt (by omega) (by omega)]; omega) (by rw [xJ_nat (by omega), xJ_nat (by omega)]; omega) (by rw [xJ_nat (by omega), xJ_nat (by omega)]; omega) (hA.2.2 L _ _) (by rw [xh_cpy d a0 a (by omega), xh_putc]) h
def xcl (e : xd_E) (q0 q n : Nat) : xd_E := va_up e q (va_cpy (e q0) (e q) 0 0 n)
theorem yb_copyl {a0 a n0 n1 : Nat} {n : Int} (hc : code[i]? = some .monitorexit) (hcat : xe_cat st ≤ 8) (hA0 : xd_Al a0 n0) (hA : xd_Al a n1) (hn : 0 ≤ n ∧ n ≤ (n0 : Int) ∧ n ≤ (n1 : Int)) (h : yB D code Q L (i + 1) dl st d (xcl e a0 a n.toNat)) : yB D code Q L i dl (.int (xJ n) :: .int (xJ 0) :: .ref a :: .int (xJ 0) :: .ref a0 :: st) d e := xb_copyl hc hA0.1 hA0.2.1 hA.1 hA.2.1 hcat (hA0.2.2.2 L _ _) (hA.2.2.2 L _ _) (by decide) (by decide) (by have := hA.2.2.1; rw [show (0 : Int32) = xJ 0 from rfl, xJ_lt (by omega) (by omega)]; omega) (by have := hA.2.2.1; rw [xJ_nat (by omega), xJ_nat (by omega)]; omega) (by have := hA.2.2.1; rw [xJ_nat (by omega), xJ_nat (by omega)]; omega) (hA.2.2.2 L _ _) (by have := hA.2.2.1; rw [xJ_nat (by omega), xJ_nat (by omega)]; rfl) h
theorem yb_callVi {g : Nat} {inf : xe_I} {As st' : List Value} {a : Nat} {fs : List Value} (hc : code[i]? = some (.invokevirtual g)) (hT : xm_T[g]? = some inf) (hk : xe_ik inf = 1) (hm : xe_im inf = 0) (hs : xe_is inf = 0) (hst : st' = As.reverse ++ .ref a :: st) (hn : As.length = xe_in inf) (hA1 : As.all xe_c1 = true) (ha : 0 < a) (hz : a < 178) (hM : xd_mem L (xh_m d) e a = .inr (xe_ic inf, fs)) (hcat : xe_cat st ≤ 8) (h : yC D g L (Value.ref a :: As) d e (fun x d e => yB D code Q L (i + 1) dl (.int (xJ x) :: st) d e)) : yB D code Q L i dl st' d e := xb_callVi hc hT hk hm hs hst hn hA1 ha hz hM hcat (xC_mono h (fun _ _ _ ⟨z, d1, h1, h2, h3⟩ => by subst h1; subst h2; exact h3))
theorem yb_callVv {g : Nat} {inf : xe_I} {As st' : List Value} {a : Nat} {fs : List Value} (hc : code[i]? = some (.invokevirtual g)) (hT : xm_T[g]? = some inf) (hk : xe_ik inf = 1) (hm : xe_im inf = 0) (hs : xe_is inf = 0) (hst : st' = As.reverse ++ .ref a :: st) (hn : As.length = xe_in inf) (hA1 : As.all xe_c1 = true) (ha : 0 < a) (hz : a < 178) (hM : xd_mem L (xh_m d) e a = .inr (xe_ic inf, fs)) (hcat : xe_cat st ≤ 8) (h : yV D g L (Value.ref a :: As) d e (fun d e => yB D code Q L (i + 1) dl st d e)) : yB D code Q L i dl st' d e := xb_callVv hc hT hk hm hs hst hn hA1 ha hz hM hcat (xV_mono h (fun _ _ ⟨d1, h2, h3⟩ => by subst h2; exact h3))
theorem yb_callVz {g : Nat} {inf : xe_I} {As st' : List Value} {a : Nat} {fs : List Value} (hc : code[i]? = some (.invokevirtual g)) (hT : xm_T[g]? = some inf) (hk : xe_ik inf = 1) (hm : xe_im inf = 0) (hs : xe_is inf = 0) (hst : st' = As.reverse ++ .ref a :: st) (hn : As.length = xe_in inf) (hA1 : As.all xe_c1 = true) (ha : 0 < a) (hz : a < 178) (hM : xd_mem L (xh_m d) e a = .inr (xe_ic inf, fs)) (hcat : xe_cat st ≤ 8) (h : yZ D g L (Value.ref a :: As) d e (fun d e => yB D code Q L (i + 1) dl (.int (xJ 1) :: st) d e) (fun d e => yB D code Q L (i + 1) dl (.int (xJ 0) :: st) d e)) : yB D code Q L i dl st' d e := yb_callVi hc hT hk hm hs hst hn hA1 ha hz hM hcat (yC_mono h (fun _ _ _ q => q.elim (fun q => by rw [q.1]; exact q.2) (fun q => by rw [q.1]; exact q.2)))
theorem yb_callSi {g : Nat} {inf : xe_I} {As st' : List Value} (hc : code[i]? = some (.invokestatic g)) (hT : xm_T[g]? = some inf) (hk : xe_ik inf = 0) (hm : xe_im inf = 0) (hs : xe_is inf = 0) (hst : st' = As.reverse ++ st) (hn : As.length = xe_in inf) (hA1 : As.all xe_c1 = true) (hcat : xe_cat st ≤ 8) (h : yC D g L As d e (fun x d e => yB D code Q L (i + 1) dl (.int (xJ x) :: st) d e)) : yB D code Q L i dl st' d e := xb_callSi hc hT hk hm hs hst hn hA1 hcat (xC_mono h (fun _ _ _ ⟨z, d1, h1, h2, h3⟩ => by subst h1; subst h2; exact h3))
theorem yb_callSv {g : Nat} {inf : xe_I} {As st' : List Value} (hc : code[i]? = some (.invokestatic g)) (hT : xm_T[g]? = some inf) (hk : xe_ik inf = 0) (hm : xe_im inf = 0) (hs : xe_is inf = 0) (hst : st' = As.reverse ++ st) (hn : As.length = xe_in inf) (hA1 : As.all xe_c1 = true) (hcat : xe_cat st ≤ 8) (h : yV D g L As d e (fun d e => yB D code Q L (i + 1) dl st d e)) : yB D code Q L i dl st' d e := xb_callSv hc hT hk hm hs hst hn hA1 hcat (xV_mono h (fun _ _ ⟨d1, h2, h3⟩ => by subst h2; exact h3))
theorem yb_callSz {g : Nat} {inf : xe_I} {As st' : List Value} (hc : code[i]? = some (.invokestatic g)) (hT : xm_T[g]? = some inf) (hk : xe_ik inf = 0) (hm : xe_im inf = 0) (hs : xe_is inf = 0) (hst : st' = As.reverse ++ st) (hn : As.length = xe_in inf) (hA1 : As.all xe_c1 = true) (hcat : xe_cat st ≤ 8) (h : yZ D g L As d e (fun d e => yB D code Q L (i + 1) dl (.int (xJ 1) :: st) d e) (fun d e => yB D code Q L (i + 1) dl (.int (xJ 0) :: st) d e)) : yB D code Q L i dl st' d e := yb_callSi hc hT hk hm hs hst hn hA1 hcat (yC_mono h (fun _ _ _ q => q.elim (fun q => by rw [q.1]; exact q.2) (fun q => by rw [q.1]; exact q.2)))
theorem yb_forget {dl2 : List Value} (hle : xe_le dl dl2) (h : yB D code Q L i dl st d e) : yB D code Q L i dl2 st d e := xb_forget hle h
end YBR
section YBQ
variable {D : Nat} {code : List Instr} {L i : Nat} {dl : List Value} {d : xh_D} {e : xd_E}
theorem yb_ret {P : Int → xh_D → xd_E → Prop} {x : Int} (hc : code[i]? = some .ireturn) (h : P x d e) : yB D code (yQi L P) L i dl [.int (xJ x)] d e := xb_ret hc ⟨x, d, rfl, rfl, h⟩
theorem yb_ret1 {P R : xh_D → xd_E → Prop} (hc : code[i]? = some .freturn) (h : P d e) : yB D code (yQz L P R) L i dl [.int (xJ 1)] d e := xb_retz hc (Or.inr rfl) ⟨1, d, rfl, rfl, Or.inl ⟨rfl, h⟩⟩
theorem yb_ret0 {P R : xh_D → xd_E → Prop} (hc : code[i]? = some .freturn) (h : R d e) : yB D code (yQz L P R) L i dl [.int (xJ 0)] d e := xb_retz hc (Or.inl rfl) ⟨0, d, rfl, rfl, Or.inr ⟨rfl, h⟩⟩
theorem yb_retz {P R : xh_D → xd_E → Prop} {x : Int} (hc : code[i]? = some .freturn) (hx : x = 0 ∨ x = 1) (h1 : x = 1 → P d e) (h0 : x = 0 → R d e) : yB D code (yQz L P R) L i dl [.int (xJ x)] d e := by
  rcases hx with rfl | rfl
  · exact yb_ret0 hc (h0 rfl)
  · exact yb_ret1 hc (h1 rfl)
theorem yb_retv {P : xh_D → xd_E → Prop} (hc : code[i]? = some .return_) (h : P d e) : yB D code (yQv L P) L i dl [] d e := xb_retv hc ⟨d, rfl, h⟩
end YBQ
theorem xd_A16 : xd_Al 16 30 := ⟨by decide, by decide, by decide, fun _ _ _ => rfl⟩
theorem xd_A22 : xd_Al 22 30 := ⟨by decide, by decide, by decide, fun _ _ _ => rfl⟩
theorem xd_A32 : xd_Al 32 30 := ⟨by decide, by decide, by decide, fun _ _ _ => rfl⟩
theorem xd_A38 : xd_Al 38 30 := ⟨by decide, by decide, by decide, fun _ _ _ => rfl⟩
theorem xd_A44 : xd_Al 44 30 := ⟨by decide, by decide, by decide, fun _ _ _ => rfl⟩
theorem xd_A50 : xd_Al 50 30 := ⟨by decide, by decide, by decide, fun _ _ _ => rfl⟩
theorem xd_A56 : xd_Al 56 30 := ⟨by decide, by decide, by decide, fun _ _ _ => rfl⟩
theorem xd_A62 : xd_Al 62 30 := ⟨by decide, by decide, by decide, fun _ _ _ => rfl⟩
theorem xd_A68 : xd_Al 68 30 := ⟨by decide, by decide, by decide, fun _ _ _ => rfl⟩
theorem xd_A74 : xd_Al 74 30 := ⟨by decide, by decide, by decide, fun _ _ _ => rfl⟩
theorem xd_A80 : xd_Al 80 30 := ⟨by decide, by decide, by decide, fun _ _ _ => rfl⟩
theorem xd_A86 : xd_Al 86 30 := ⟨by decide, by decide, by decide, fun _ _ _ => rfl⟩
theorem xd_A92 : xd_Al 92 30 := ⟨by decide, by decide, by decide, fun _ _ _ => rfl⟩
theorem xd_A98 : xd_Al 98 30 := ⟨by decide, by decide, by decide, fun _ _ _ => rfl⟩
theorem xd_A104 : xd_Al 104 30 := ⟨by decide, by decide, by decide, fun _ _ _ => rfl⟩
theorem xd_A110 : xd_Al 110 30 := ⟨by decide, by decide, by decide, fun _ _ _ => rfl⟩
theorem xd_A117 : xd_Ab 3 117 5 := ⟨by decide, by decide, by decide, fun _ _ _ => rfl⟩
theorem xd_A150 : xd_Ab 0 150 80 := ⟨by decide, by decide, by decide, fun _ _ _ => rfl⟩
theorem xd_A153 : xd_Ab 0 153 40 := ⟨by decide, by decide, by decide, fun _ _ _ => rfl⟩
theorem xd_A175 : xd_Ab 3 175 2 := ⟨by decide, by decide, by decide, fun _ _ _ => rfl⟩
theorem xd_A177 : xd_Al 177 1 := ⟨by decide, by decide, by decide, fun _ _ _ => rfl⟩
theorem xd_Al5 {s : Nat} (h : xd_isS s = true) : xd_Al (s + 5) 30 := ⟨(xd_Sa5 h).1, (xd_Sa5 h).2.1, by decide, (xd_Sa5 h).2.2⟩
theorem xp_Sn {j : Int} {b n : Nat} (h : 0 ≤ j ∧ j < (n : Int)) : va_rf ((fun i => if i < n then some (b + 6 * i) else none) j.toNat) = .ref (b + 6 * j.toNat) := by
  show va_rf (if j.toNat < n then _ else _) = _
  rw [if_pos (by omega)]
  rfl
theorem xp_S27 {j : Int} (h : 0 ≤ j ∧ j < 12) : xd_isS (27 + 6 * j.toNat) = true := by
  have h1 : j.toNat < 12 := by omega
  generalize j.toNat = n at h1 ⊢
  revert n
  decide
theorem xp_S99 {j : Int} (h : 0 ≤ j ∧ j < 2) : xd_isS (99 + 6 * j.toNat) = true := by
  have h1 : j.toNat < 2 := by omega
  generalize j.toNat = n at h1 ⊢
  revert n
  decide
end
section
/-! STATIC FUNCTIONS, and small methods: what a call of them gives. -/
def xw (z : Int) : Int := (xJ z).toInt
theorem xw_J (z : Int) : xJ (xw z) = xJ z := xJ_toInt _
theorem xw_r (z : Int) : -2147483648 ≤ xw z ∧ xw z < 2147483648 := xJ_rng _
theorem xw_i {z : Int} (h : -2147483648 ≤ z ∧ z < 2147483648) : xw z = z := xJ_i h
theorem xJ_b8 {x : Int} (h : -128 ≤ x ∧ x < 128) : (xJ x).toInt8.toInt32 = xJ x := by
  apply Int32.toInt_inj.mp
  rw [Int8.toInt_toInt32, Int32.toInt_toInt8, xJ_i (by omega), Int.bmod_eq_of_le (by omega) (by omega)]
def xp_bc1 (x : Int32) : Int32 := x - (xp_ushr x 1 &&& 1431655765)
def xp_bc2 (x : Int32) : Int32 := (x &&& 858993459) + (xp_ushr x 2 &&& 858993459)
def xp_bc3 (x : Int32) : Int32 := (x + xp_ushr x 4) &&& 252645135
def xp_bc4 (x : Int32) : Int32 := x + xp_ushr x 8
def xp_bc5 (x : Int32) : Int32 := (x + xp_ushr x 16) &&& 63
def xp_bc (x : Int) : Int := (xp_bc5 (xp_bc4 (xp_bc3 (xp_bc2 (xp_bc1 (xJ x)))))).toInt
def xp_ntz (x : Int) : Int := if x % 2 = 1 then 0 else if x % 4 = 2 then 1 else if x % 8 = 4 then 2 else if x % 16 = 8 then 3 else if x % 32 = 16 then 4 else 5
theorem xp_ntz_r (x : Int) : -2147483648 ≤ xp_ntz x ∧ xp_ntz x < 2147483648 := by unfold xp_ntz; repeat' split <;> omega
def xp_str (x : Int) : Int := if x = 60 ∨ x = 61 ∨ x = 62 then 1 else if x = 43 ∨ x = 45 then 2 else if x = 42 ∨ x = 47 then 3 else if x = 256 then 4 else 0
theorem xp_str_r (x : Int) : -2147483648 ≤ xp_str x ∧ xp_str x < 2147483648 := by unfold xp_str; repeat' split <;> omega
def xp_thg (x : Int) : Int := if x = 116 then 0 else if x = 117 then 1 else if x = 114 then 2 else if x = 107 then 3 else if x = 100 then 4 else if x = 105 then 5 else if x = 106 then 6 else -1
theorem xp_thg_r (x : Int) : -2147483648 ≤ xp_thg x ∧ xp_thg x < 2147483648 := by unfold xp_thg; repeat' split <;> omega
def xp_join (o x y : Int) : Int := if o = 60 then (if x < y then 1 else 0) else if o = 62 then (if y < x then 1 else 0) else if o = 61 then (if x = y then 1 else 0) else if o = 43 then xw (x + y) else if o = 45 then xw (x - y) else if o = 42 then xw (x * y) else if y = 0 then 0 else xi_div x y
theorem xi_div_r (x y : Int) : -2147483648 ≤ xi_div x y ∧ xi_div x y < 2147483648 := xJ_rng _
theorem xp_join_r (o x y : Int) : -2147483648 ≤ xp_join o x y ∧ xp_join o x y < 2147483648 := by
  have h1 := xw_r (x + y)
  have h2 := xw_r (x - y)
  have h3 := xw_r (x * y)
  have h4 := xi_div_r x y
  unfold xp_join
  repeat' split
  all_goals omega
theorem xi_i8_r (x : Int) : -2147483648 ≤ xi_i8 x ∧ xi_i8 x < 2147483648 := xJ_rng _
theorem xi_i16_r (x : Int) : -2147483648 ≤ xi_i16 x ∧ xi_i16 x < 2147483648 := xJ_rng _
def xp_kind (k x : Int) : Int := if k = 0 then xi_i8 x else if k = 1 then xi_i16 x else xw x
theorem xp_kind_r (k x : Int) : -2147483648 ≤ xp_kind k x ∧ xp_kind k x < 2147483648 := by
  have h1 := xi_i8_r x
  have h2 := xi_i16_r x
  have h3 := xw_r x
  unfold xp_kind
  repeat' split
  all_goals omega
def xp_pia (x : Int) : Int := if x = 100 then 1 else if x = 115 then 3 else if x = 104 ∨ x = 109 then 2 else -1
theorem xp_pia_r (x : Int) : -2147483648 ≤ xp_pia x ∧ xp_pia x < 2147483648 := by unfold xp_pia; repeat' split <;> omega
def xp_pb (p x : Int) : Int := if p = 0 then xp_pia x else if p = 2 then (if 97 ≤ x ∧ x ≤ 105 then 4 else -1) else if p = 3 then (if 97 ≤ x ∧ x ≤ 105 then 5 else -1) else if p = 4 then (if 48 ≤ x ∧ x ≤ 56 then 6 else -1) else if p = 5 then (if 97 ≤ x ∧ x ≤ 105 then 6 else -1) else if p = 1 ∧ 49 ≤ x ∧ x ≤ 57 then 6 else if x = 59 then 0 else -1
theorem xp_pb_r (p x : Int) : -2147483648 ≤ xp_pb p x ∧ xp_pb p x < 2147483648 := by
  have h := xp_pia_r x
  unfold xp_pb
  repeat' split
  all_goals omega
def xp_apart (x y : Int) : Int := min (max (x - y) (-(x - y))) (9 - max (x - y) (-(x - y)))
theorem xp_apart_r {x y : Int} (hx : 0 ≤ x ∧ x < 9) (hy : 0 ≤ y ∧ y < 9) : -2147483648 ≤ xp_apart x y ∧ xp_apart x y < 2147483648 := by unfold xp_apart; omega
theorem xi_xor_nn {x y : Int} (hx : 0 ≤ x ∧ x < 2147483648) (hy : 0 ≤ y ∧ y < 2147483648) : 0 ≤ xi_xor x y := by
  unfold xi_xor
  rw [Int32.toInt, Int32.toBitVec_xor]
  apply BitVec.toInt_nonneg_of_msb_false
  have h1 : (xJ x).toInt = x := xJ_i (by omega)
  have h2 : (xJ y).toInt = y := xJ_i (by omega)
  rw [BitVec.msb_xor, BitVec.msb_eq_toInt, BitVec.msb_eq_toInt]
  show (decide ((xJ x).toInt < 0) ^^ decide ((xJ y).toInt < 0)) = false
  rw [h1, h2, decide_eq_false (by omega), decide_eq_false (by omega)]
  rfl
/-- the text: its signs are bytes -/
def xt_ok (d : xh_D) : Prop := (0 ≤ d 2 1 ∧ d 2 1 ≤ 80) ∧ ∀ i, 0 ≤ i → i < d 2 1 → 0 ≤ d 3 i ∧ d 3 i < 256
def xt_at (d : xh_D) (p : Int) : Int := if 0 ≤ p ∧ p < d 2 1 then d 3 p else -1
def xt_dg (c : Int) : Int := if 48 ≤ c ∧ c ≤ 57 then c - 48 else -1
def xt_dig (d : xh_D) (p : Int) : Int := xt_dg (xt_at d p)
theorem xt_at_r {d : xh_D} (h : xt_ok d) (p : Int) : -1 ≤ xt_at d p ∧ xt_at d p < 256 := by
  unfold xt_at
  split
  · rename_i q
    have := h.2 p q.1 q.2
    omega
  · omega
def xm_hok (d : xh_D) : Prop := 0 ≤ d 146 12 ∧ d 146 12 < 2147483648 ∧ 0 ≤ d 146 11 ∧ d 146 11 < 2147483648 ∧ ((d 146 9 = 150 ∧ 0 ≤ d 146 10 ∧ d 146 10 ≤ 80) ∨ (d 146 9 = 153 ∧ 0 ≤ d 146 10 ∧ d 146 10 ≤ 40))
def xm_here (d : xh_D) : Int := if d 146 12 < d 146 10 ∧ d 146 12 < d 146 11 then d (d 146 9).toNat (d 146 12) else -1
def xp_ent (w : Int64) (p : Int) : Int := xi_and (w.toUInt64 >>> ((xJ (p * (4 : Int))).toInt64.toUInt64 &&& Int64.toUInt64 63)).toInt64.toInt32.toInt 15

theorem yC_wrap {D g L : Nat} {a : List Value} {d : xh_D} {e : xd_E} {P : Int → xh_D → xd_E → Prop} (h : yC D g L a d e (fun z d e => P (xw z) d e)) : yC D g L a d e P := xC_mono h (fun _ _ _ ⟨z, d1, h1, h2, h3⟩ => ⟨xw z, d1, by rw [xw_J]; exact h1, h2, h3⟩)
theorem yk_0_0 {D L : Nat} {P : Int → xh_D → xd_E → Prop} {d : xh_D} {e : xd_E} {a0 : Int}   (h : (∀ v1, v1 = (a0 - (xi_and (xi_ushr a0 (1 : Int)) (1431655765 : Int))) → (∀ v2, v2 = ((xi_and v1 (858993459 : Int)) + (xi_and (xi_ushr v1 (2 : Int)) (858993459 : Int))) → (∀ v3, v3 = (xi_and (v2 + (xi_ushr v2 (4 : Int))) (252645135 : Int)) → (∀ v4, v4 = ((v3 + (xi_ushr v3 (8 : Int))) + (xi_ushr (v3 + (xi_ushr v3 (8 : Int))) (16 : Int))) → P (xi_and v4 (63 : Int)) d e))))) : yB D xm_c0 (yQi L P) L 0 [.int (xJ a0)] [] d e := by
  refine yb_iload (x := a0) rfl rfl ?_
  refine yb_iload (x := a0) rfl rfl ?_
  refine yb_push (v := 1) rfl ?_
  refine yb_iushr (x := a0) (y := (1 : Int)) rfl ?_
  refine yb_push (v := 1431655765) rfl ?_
  refine yb_iand (x := (xi_ushr a0 (1 : Int))) (y := (1431655765 : Int)) rfl ?_
  refine yb_isub (x := a0) (y := (xi_and (xi_ushr a0 (1 : Int)) (1431655765 : Int))) rfl ?_
  replace h := h _ rfl
  refine yb_istore rfl rfl rfl ?_
  refine yb_iload (x := (a0 - (xi_and (xi_ushr a0 (1 : Int)) (1431655765 : Int)))) rfl rfl ?_
  refine yb_push (v := 858993459) rfl ?_
  refine yb_iand (x := (a0 - (xi_and (xi_ushr a0 (1 : Int)) (1431655765 : Int)))) (y := (858993459 : Int)) rfl ?_
  refine yb_iload (x := (a0 - (xi_and (xi_ushr a0 (1 : Int)) (1431655765 : Int)))) rfl rfl ?_
  refine yb_push (v := 2) rfl ?_
  refine yb_iushr (x := (a0 - (xi_and (xi_ushr a0 (1 : Int)) (1431655765 : Int)))) (y := (2 : Int)) rfl ?_
  refine yb_push (v := 858993459) rfl ?_
  refine yb_iand (x := (xi_ushr (a0 - (xi_and (xi_ushr a0 (1 : Int)) (1431655765 : Int))) (2 : Int))) (y := (858993459 : Int)) rfl ?_
  refine yb_iadd (x := (xi_and (a0 - (xi_and (xi_ushr a0 (1 : Int)) (1431655765 : Int))) (858993459 : Int))) (y := (xi_and (xi_ushr (a0 - (xi_and (xi_ushr a0 (1 : Int)) (1431655765 : Int))) (2 : Int)) (858993459 : Int))) rfl ?_
  replace h := h _ rfl
  refine yb_istore rfl rfl rfl ?_
  refine yb_iload (x := ((xi_and (a0 - (xi_and (xi_ushr a0 (1 : Int)) (1431655765 : Int))) (858993459 : Int)) + (xi_and (xi_ushr (a0 - (xi_and (xi_ushr a0 (1 : Int)) (1431655765 : Int))) (2 : Int)) (858993459 : Int)))) rfl rfl ?_
  refine yb_iload (x := ((xi_and (a0 - (xi_and (xi_ushr a0 (1 : Int)) (1431655765 : Int))) (858993459 : Int)) + (xi_and (xi_ushr (a0 - (xi_and (xi_ushr a0 (1 : Int)) (1431655765 : Int))) (2 : Int)) (858993459 : Int)))) rfl rfl ?_
  refine yb_push (v := 4) rfl ?_
  refine yb_iushr (x := ((xi_and (a0 - (xi_and (xi_ushr a0 (1 : Int)) (1431655765 : Int))) (858993459 : Int)) + (xi_and (xi_ushr (a0 - (xi_and (xi_ushr a0 (1 : Int)) (1431655765 : Int))) (2 : Int)) (858993459 : Int)))) (y := (4 : Int)) rfl ?_
  refine yb_iadd (x := ((xi_and (a0 - (xi_and (xi_ushr a0 (1 : Int)) (1431655765 : Int))) (858993459 : Int)) + (xi_and (xi_ushr (a0 - (xi_and (xi_ushr a0 (1 : Int)) (1431655765 : Int))) (2 : Int)) (858993459 : Int)))) (y := (xi_ushr ((xi_and (a0 - (xi_and (xi_ushr a0 (1 : Int)) (1431655765 : Int))) (858993459 : Int)) + (xi_and (xi_ushr (a0 - (xi_and (xi_ushr a0 (1 : Int)) (1431655765 : Int))) (2 : Int)) (858993459 : Int))) (4 : Int))) rfl ?_
  refine yb_push (v := 252645135) rfl ?_
  refine yb_iand (x := (((xi_and (a0 - (xi_and (xi_ushr a0 (1 : Int)) (1431655765 : Int))) (858993459 : Int)) + (xi_and (xi_ushr (a0 - (xi_and (xi_ushr a0 (1 : Int)) (1431655765 : Int))) (2 : Int)) (858993459 : Int))) + (xi_ushr ((xi_and (a0 - (xi_and (xi_ushr a0 (1 : Int)) (1431655765 : Int))) (858993459 : Int)) + (xi_and (xi_ushr (a0 - (xi_and (xi_ushr a0 (1 : Int)) (1431655765 : Int))) (2 : Int)) (858993459 : Int))) (4 : Int)))) (y := (252645135 : Int)) rfl ?_
  replace h := h _ rfl
  refine yb_istore rfl rfl rfl ?_
  refine yb_iload (x := (xi_and (((xi_and (a0 - (xi_and (xi_ushr a0 (1 : Int)) (1431655765 : Int))) (858993459 : Int)) + (xi_and (xi_ushr (a0 - (xi_and (xi_ushr a0 (1 : Int)) (1431655765 : Int))) (2 : Int)) (858993459 : Int))) + (xi_ushr ((xi_and (a0 - (xi_and (xi_ushr a0 (1 : Int)) (1431655765 : Int))) (858993459 : Int)) + (xi_and (xi_ushr (a0 - (xi_and (xi_ushr a0 (1 : Int)) (1431655765 : Int))) (2 : Int)) (858993459 : Int))) (4 : Int))) (252645135 : Int))) rfl rfl ?_
  refine yb_iload (x := (xi_and (((xi_and (a0 - (xi_and (xi_ushr a0 (1 : Int)) (1431655765 : Int))) (858993459 : Int)) + (xi_and (xi_ushr (a0 - (xi_and (xi_ushr a0 (1 : Int)) (1431655765 : Int))) (2 : Int)) (858993459 : Int))) + (xi_ushr ((xi_and (a0 - (xi_and (xi_ushr a0 (1 : Int)) (1431655765 : Int))) (858993459 : Int)) + (xi_and (xi_ushr (a0 - (xi_and (xi_ushr a0 (1 : Int)) (1431655765 : Int))) (2 : Int)) (858993459 : Int))) (4 : Int))) (252645135 : Int))) rfl rfl ?_
  refine yb_push (v := 8) rfl ?_
  refine yb_iushr (x := (xi_and (((xi_and (a0 - (xi_and (xi_ushr a0 (1 : Int)) (1431655765 : Int))) (858993459 : Int)) + (xi_and (xi_ushr (a0 - (xi_and (xi_ushr a0 (1 : Int)) (1431655765 : Int))) (2 : Int)) (858993459 : Int))) + (xi_ushr ((xi_and (a0 - (xi_and (xi_ushr a0 (1 : Int)) (1431655765 : Int))) (858993459 : Int)) + (xi_and (xi_ushr (a0 - (xi_and (xi_ushr a0 (1 : Int)) (1431655765 : Int))) (2 : Int)) (858993459 : Int))) (4 : Int))) (252645135 : Int))) (y := (8 : Int)) rfl ?_
  refine yb_iadd (x := (xi_and (((xi_and (a0 - (xi_and (xi_ushr a0 (1 : Int)) (1431655765 : Int))) (858993459 : Int)) + (xi_and (xi_ushr (a0 - (xi_and (xi_ushr a0 (1 : Int)) (1431655765 : Int))) (2 : Int)) (858993459 : Int))) + (xi_ushr ((xi_and (a0 - (xi_and (xi_ushr a0 (1 : Int)) (1431655765 : Int))) (858993459 : Int)) + (xi_and (xi_ushr (a0 - (xi_and (xi_ushr a0 (1 : Int)) (1431655765 : Int))) (2 : Int)) (858993459 : Int))) (4 : Int))) (252645135 : Int))) (y := (xi_ushr (xi_and (((xi_and (a0 - (xi_and (xi_ushr a0 (1 : Int)) (1431655765 : Int))) (858993459 : Int)) + (xi_and (xi_ushr (a0 - (xi_and (xi_ushr a0 (1 : Int)) (1431655765 : Int))) (2 : Int)) (858993459 : Int))) + (xi_ushr ((xi_and (a0 - (xi_and (xi_ushr a0 (1 : Int)) (1431655765 : Int))) (858993459 : Int)) + (xi_and (xi_ushr (a0 - (xi_and (xi_ushr a0 (1 : Int)) (1431655765 : Int))) (2 : Int)) (858993459 : Int))) (4 : Int))) (252645135 : Int)) (8 : Int))) rfl ?_
  refine yb_istore rfl rfl rfl ?_
  refine yb_iload (x := ((xi_and (((xi_and (a0 - (xi_and (xi_ushr a0 (1 : Int)) (1431655765 : Int))) (858993459 : Int)) + (xi_and (xi_ushr (a0 - (xi_and (xi_ushr a0 (1 : Int)) (1431655765 : Int))) (2 : Int)) (858993459 : Int))) + (xi_ushr ((xi_and (a0 - (xi_and (xi_ushr a0 (1 : Int)) (1431655765 : Int))) (858993459 : Int)) + (xi_and (xi_ushr (a0 - (xi_and (xi_ushr a0 (1 : Int)) (1431655765 : Int))) (2 : Int)) (858993459 : Int))) (4 : Int))) (252645135 : Int)) + (xi_ushr (xi_and (((xi_and (a0 - (xi_and (xi_ushr a0 (1 : Int)) (1431655765 : Int))) (858993459 : Int)) + (xi_and (xi_ushr (a0 - (xi_and (xi_ushr a0 (1 : Int)) (1431655765 : Int))) (2 : Int)) (858993459 : Int))) + (xi_ushr ((xi_and (a0 - (xi_and (xi_ushr a0 (1 : Int)) (1431655765 : Int))) (858993459 : Int)) + (xi_and (xi_ushr (a0 - (xi_and (xi_ushr a0 (1 : Int)) (1431655765 : Int))) (2 : Int)) (858993459 : Int))) (4 : Int))) (252645135 : Int)) (8 : Int)))) rfl rfl ?_
  refine yb_iload (x := ((xi_and (((xi_and (a0 - (xi_and (xi_ushr a0 (1 : Int)) (1431655765 : Int))) (858993459 : Int)) + (xi_and (xi_ushr (a0 - (xi_and (xi_ushr a0 (1 : Int)) (1431655765 : Int))) (2 : Int)) (858993459 : Int))) + (xi_ushr ((xi_and (a0 - (xi_and (xi_ushr a0 (1 : Int)) (1431655765 : Int))) (858993459 : Int)) + (xi_and (xi_ushr (a0 - (xi_and (xi_ushr a0 (1 : Int)) (1431655765 : Int))) (2 : Int)) (858993459 : Int))) (4 : Int))) (252645135 : Int)) + (xi_ushr (xi_and (((xi_and (a0 - (xi_and (xi_ushr a0 (1 : Int)) (1431655765 : Int))) (858993459 : Int)) + (xi_and (xi_ushr (a0 - (xi_and (xi_ushr a0 (1 : Int)) (1431655765 : Int))) (2 : Int)) (858993459 : Int))) + (xi_ushr ((xi_and (a0 - (xi_and (xi_ushr a0 (1 : Int)) (1431655765 : Int))) (858993459 : Int)) + (xi_and (xi_ushr (a0 - (xi_and (xi_ushr a0 (1 : Int)) (1431655765 : Int))) (2 : Int)) (858993459 : Int))) (4 : Int))) (252645135 : Int)) (8 : Int)))) rfl rfl ?_
  refine yb_push (v := 16) rfl ?_
  refine yb_iushr (x := ((xi_and (((xi_and (a0 - (xi_and (xi_ushr a0 (1 : Int)) (1431655765 : Int))) (858993459 : Int)) + (xi_and (xi_ushr (a0 - (xi_and (xi_ushr a0 (1 : Int)) (1431655765 : Int))) (2 : Int)) (858993459 : Int))) + (xi_ushr ((xi_and (a0 - (xi_and (xi_ushr a0 (1 : Int)) (1431655765 : Int))) (858993459 : Int)) + (xi_and (xi_ushr (a0 - (xi_and (xi_ushr a0 (1 : Int)) (1431655765 : Int))) (2 : Int)) (858993459 : Int))) (4 : Int))) (252645135 : Int)) + (xi_ushr (xi_and (((xi_and (a0 - (xi_and (xi_ushr a0 (1 : Int)) (1431655765 : Int))) (858993459 : Int)) + (xi_and (xi_ushr (a0 - (xi_and (xi_ushr a0 (1 : Int)) (1431655765 : Int))) (2 : Int)) (858993459 : Int))) + (xi_ushr ((xi_and (a0 - (xi_and (xi_ushr a0 (1 : Int)) (1431655765 : Int))) (858993459 : Int)) + (xi_and (xi_ushr (a0 - (xi_and (xi_ushr a0 (1 : Int)) (1431655765 : Int))) (2 : Int)) (858993459 : Int))) (4 : Int))) (252645135 : Int)) (8 : Int)))) (y := (16 : Int)) rfl ?_
  refine yb_iadd (x := ((xi_and (((xi_and (a0 - (xi_and (xi_ushr a0 (1 : Int)) (1431655765 : Int))) (858993459 : Int)) + (xi_and (xi_ushr (a0 - (xi_and (xi_ushr a0 (1 : Int)) (1431655765 : Int))) (2 : Int)) (858993459 : Int))) + (xi_ushr ((xi_and (a0 - (xi_and (xi_ushr a0 (1 : Int)) (1431655765 : Int))) (858993459 : Int)) + (xi_and (xi_ushr (a0 - (xi_and (xi_ushr a0 (1 : Int)) (1431655765 : Int))) (2 : Int)) (858993459 : Int))) (4 : Int))) (252645135 : Int)) + (xi_ushr (xi_and (((xi_and (a0 - (xi_and (xi_ushr a0 (1 : Int)) (1431655765 : Int))) (858993459 : Int)) + (xi_and (xi_ushr (a0 - (xi_and (xi_ushr a0 (1 : Int)) (1431655765 : Int))) (2 : Int)) (858993459 : Int))) + (xi_ushr ((xi_and (a0 - (xi_and (xi_ushr a0 (1 : Int)) (1431655765 : Int))) (858993459 : Int)) + (xi_and (xi_ushr (a0 - (xi_and (xi_ushr a0 (1 : Int)) (1431655765 : Int))) (2 : Int)) (858993459 : Int))) (4 : Int))) (252645135 : Int)) (8 : Int)))) (y := (xi_ushr ((xi_and (((xi_and (a0 - (xi_and (xi_ushr a0 (1 : Int)) (1431655765 : Int))) (858993459 : Int)) + (xi_and (xi_ushr (a0 - (xi_and (xi_ushr a0 (1 : Int)) (1431655765 : Int))) (2 : Int)) (858993459 : Int))) + (xi_ushr ((xi_and (a0 - (xi_and (xi_ushr a0 (1 : Int)) (1431655765 : Int))) (858993459 : Int)) + (xi_and (xi_ushr (a0 - (xi_and (xi_ushr a0 (1 : Int)) (1431655765 : Int))) (2 : Int)) (858993459 : Int))) (4 : Int))) (252645135 : Int)) + (xi_ushr (xi_and (((xi_and (a0 - (xi_and (xi_ushr a0 (1 : Int)) (1431655765 : Int))) (858993459 : Int)) + (xi_and (xi_ushr (a0 - (xi_and (xi_ushr a0 (1 : Int)) (1431655765 : Int))) (2 : Int)) (858993459 : Int))) + (xi_ushr ((xi_and (a0 - (xi_and (xi_ushr a0 (1 : Int)) (1431655765 : Int))) (858993459 : Int)) + (xi_and (xi_ushr (a0 - (xi_and (xi_ushr a0 (1 : Int)) (1431655765 : Int))) (2 : Int)) (858993459 : Int))) (4 : Int))) (252645135 : Int)) (8 : Int))) (16 : Int))) rfl ?_
  replace h := h _ rfl
  refine yb_istore rfl rfl rfl ?_
  refine yb_iload (x := (((xi_and (((xi_and (a0 - (xi_and (xi_ushr a0 (1 : Int)) (1431655765 : Int))) (858993459 : Int)) + (xi_and (xi_ushr (a0 - (xi_and (xi_ushr a0 (1 : Int)) (1431655765 : Int))) (2 : Int)) (858993459 : Int))) + (xi_ushr ((xi_and (a0 - (xi_and (xi_ushr a0 (1 : Int)) (1431655765 : Int))) (858993459 : Int)) + (xi_and (xi_ushr (a0 - (xi_and (xi_ushr a0 (1 : Int)) (1431655765 : Int))) (2 : Int)) (858993459 : Int))) (4 : Int))) (252645135 : Int)) + (xi_ushr (xi_and (((xi_and (a0 - (xi_and (xi_ushr a0 (1 : Int)) (1431655765 : Int))) (858993459 : Int)) + (xi_and (xi_ushr (a0 - (xi_and (xi_ushr a0 (1 : Int)) (1431655765 : Int))) (2 : Int)) (858993459 : Int))) + (xi_ushr ((xi_and (a0 - (xi_and (xi_ushr a0 (1 : Int)) (1431655765 : Int))) (858993459 : Int)) + (xi_and (xi_ushr (a0 - (xi_and (xi_ushr a0 (1 : Int)) (1431655765 : Int))) (2 : Int)) (858993459 : Int))) (4 : Int))) (252645135 : Int)) (8 : Int))) + (xi_ushr ((xi_and (((xi_and (a0 - (xi_and (xi_ushr a0 (1 : Int)) (1431655765 : Int))) (858993459 : Int)) + (xi_and (xi_ushr (a0 - (xi_and (xi_ushr a0 (1 : Int)) (1431655765 : Int))) (2 : Int)) (858993459 : Int))) + (xi_ushr ((xi_and (a0 - (xi_and (xi_ushr a0 (1 : Int)) (1431655765 : Int))) (858993459 : Int)) + (xi_and (xi_ushr (a0 - (xi_and (xi_ushr a0 (1 : Int)) (1431655765 : Int))) (2 : Int)) (858993459 : Int))) (4 : Int))) (252645135 : Int)) + (xi_ushr (xi_and (((xi_and (a0 - (xi_and (xi_ushr a0 (1 : Int)) (1431655765 : Int))) (858993459 : Int)) + (xi_and (xi_ushr (a0 - (xi_and (xi_ushr a0 (1 : Int)) (1431655765 : Int))) (2 : Int)) (858993459 : Int))) + (xi_ushr ((xi_and (a0 - (xi_and (xi_ushr a0 (1 : Int)) (1431655765 : Int))) (858993459 : Int)) + (xi_and (xi_ushr (a0 - (xi_and (xi_ushr a0 (1 : Int)) (1431655765 : Int))) (2 : Int)) (858993459 : Int))) (4 : Int))) (252645135 : Int)) (8 : Int))) (16 : Int)))) rfl rfl ?_
  refine yb_push (v := 63) rfl ?_
  refine yb_iand (x := (((xi_and (((xi_and (a0 - (xi_and (xi_ushr a0 (1 : Int)) (1431655765 : Int))) (858993459 : Int)) + (xi_and (xi_ushr (a0 - (xi_and (xi_ushr a0 (1 : Int)) (1431655765 : Int))) (2 : Int)) (858993459 : Int))) + (xi_ushr ((xi_and (a0 - (xi_and (xi_ushr a0 (1 : Int)) (1431655765 : Int))) (858993459 : Int)) + (xi_and (xi_ushr (a0 - (xi_and (xi_ushr a0 (1 : Int)) (1431655765 : Int))) (2 : Int)) (858993459 : Int))) (4 : Int))) (252645135 : Int)) + (xi_ushr (xi_and (((xi_and (a0 - (xi_and (xi_ushr a0 (1 : Int)) (1431655765 : Int))) (858993459 : Int)) + (xi_and (xi_ushr (a0 - (xi_and (xi_ushr a0 (1 : Int)) (1431655765 : Int))) (2 : Int)) (858993459 : Int))) + (xi_ushr ((xi_and (a0 - (xi_and (xi_ushr a0 (1 : Int)) (1431655765 : Int))) (858993459 : Int)) + (xi_and (xi_ushr (a0 - (xi_and (xi_ushr a0 (1 : Int)) (1431655765 : Int))) (2 : Int)) (858993459 : Int))) (4 : Int))) (252645135 : Int)) (8 : Int))) + (xi_ushr ((xi_and (((xi_and (a0 - (xi_and (xi_ushr a0 (1 : Int)) (1431655765 : Int))) (858993459 : Int)) + (xi_and (xi_ushr (a0 - (xi_and (xi_ushr a0 (1 : Int)) (1431655765 : Int))) (2 : Int)) (858993459 : Int))) + (xi_ushr ((xi_and (a0 - (xi_and (xi_ushr a0 (1 : Int)) (1431655765 : Int))) (858993459 : Int)) + (xi_and (xi_ushr (a0 - (xi_and (xi_ushr a0 (1 : Int)) (1431655765 : Int))) (2 : Int)) (858993459 : Int))) (4 : Int))) (252645135 : Int)) + (xi_ushr (xi_and (((xi_and (a0 - (xi_and (xi_ushr a0 (1 : Int)) (1431655765 : Int))) (858993459 : Int)) + (xi_and (xi_ushr (a0 - (xi_and (xi_ushr a0 (1 : Int)) (1431655765 : Int))) (2 : Int)) (858993459 : Int))) + (xi_ushr ((xi_and (a0 - (xi_and (xi_ushr a0 (1 : Int)) (1431655765 : Int))) (858993459 : Int)) + (xi_and (xi_ushr (a0 - (xi_and (xi_ushr a0 (1 : Int)) (1431655765 : Int))) (2 : Int)) (858993459 : Int))) (4 : Int))) (252645135 : Int)) (8 : Int))) (16 : Int)))) (y := (63 : Int)) rfl ?_
  exact yb_ret rfl h
theorem sp_0 {D L : Nat} {P : Int → xh_D → xd_E → Prop} {d : xh_D} {e : xd_E} {a0 : Int} (hD : 1 ≤ D) (h : P (xp_bc a0) d e) : yC D 0 L [.int (xJ a0)] d e P := by
  refine yC_of rfl rfl rfl (by omega) (yk_0_0 ?_)
  intro v1 e1 v2 e2 v3 e3 v4 e4
  refine cast ?_ h
  congr 1
  have hw : ∀ (x : Int32) (z k : Int), xJ z = x → xJ (xi_ushr z k) = xp_ushr x (xJ k) := fun x z k q => by unfold xi_ushr; rw [xJ_toInt, q]
  have ha : ∀ (z k : Int), xJ (xi_and z k) = xJ z &&& xJ k := fun z k => xJ_toInt _
  have g1 : xJ v1 = xp_bc1 (xJ a0) := by rw [e1, ← xJ_sub, ha, hw _ _ _ rfl]; rfl
  have g2 : xJ v2 = xp_bc2 (xp_bc1 (xJ a0)) := by rw [e2, ← xJ_add, ha, ha, hw _ _ _ g1, g1]; rfl
  have g3 : xJ v3 = xp_bc3 (xp_bc2 (xp_bc1 (xJ a0))) := by rw [e3, ha, ← xJ_add, hw _ _ _ g2, g2]; rfl
  have g4 : xJ (v3 + xi_ushr v3 8) = xp_bc4 (xp_bc3 (xp_bc2 (xp_bc1 (xJ a0)))) := by rw [← xJ_add, hw _ _ _ g3, g3]; rfl
  have g5 : xJ v4 = xp_bc4 (xp_bc3 (xp_bc2 (xp_bc1 (xJ a0)))) + xp_ushr (xp_bc4 (xp_bc3 (xp_bc2 (xp_bc1 (xJ a0))))) 16 := by rw [e4, ← xJ_add, hw _ _ _ g4, g4]; rfl
  unfold xp_bc xi_and
  rw [g5]
  rfl
theorem yk_1_0 {D L : Nat} {P : Int → xh_D → xd_E → Prop} {d : xh_D} {e : xd_E} {a0 : Int}   (h : (∀ v1, v1 = (xi_and (xi_xor a0 (-1 : Int)) (a0 - (1 : Int))) → (((0 < v1) → (((v1 ≤ (65536 : Int)) → yB D xm_c1 (yQi L P) L 24 [.int (xJ v1), .int (xJ (1 : Int))] [] d e) ∧ ((¬ v1 ≤ (65536 : Int)) → yB D xm_c1 (yQi L P) L 24 [.int (xJ (xi_ushr v1 (16 : Int))), .int (xJ ((1 : Int) + 16))] [] d e))) ∧ ((¬ 0 < v1) → P (xi_and v1 (32 : Int)) d e)))) : yB D xm_c1 (yQi L P) L 0 [.int (xJ a0), .double 0] [] d e := by
  refine yb_iload (x := a0) rfl rfl ?_
  refine yb_push (v := (-1)) rfl ?_
  refine yb_ixor (x := a0) (y := (-1 : Int)) rfl ?_
  refine yb_iload (x := a0) rfl rfl ?_
  refine yb_push (v := 1) rfl ?_
  refine yb_isub (x := a0) (y := (1 : Int)) rfl ?_
  refine yb_iand (x := (xi_xor a0 (-1 : Int))) (y := (a0 - (1 : Int))) rfl ?_
  replace h := h _ rfl
  refine yb_istore rfl rfl rfl ?_
  refine yb_iload (x := (xi_and (xi_xor a0 (-1 : Int)) (a0 - (1 : Int)))) rfl rfl ?_
  refine yb_if_gt (x := (xi_and (xi_xor a0 (-1 : Int)) (a0 - (1 : Int)))) rfl rfl (xJ_rng _) (fun c => ?_) (fun c => ?_)
  · replace h := h.1 c
    refine yb_push (v := 1) rfl ?_
    refine yb_istore rfl rfl rfl ?_
    refine yb_iload (x := (xi_and (xi_xor a0 (-1 : Int)) (a0 - (1 : Int)))) rfl rfl ?_
    refine yb_push (v := 65536) rfl ?_
    refine yb_icmp_le (x := (xi_and (xi_xor a0 (-1 : Int)) (a0 - (1 : Int)))) (y := (65536 : Int)) rfl rfl (xJ_rng _) (by decide) (fun c => ?_) (fun c => ?_)
    · replace h := h.1 c
      exact h
    · replace h := h.2 c
      refine yb_iinc (x := (1 : Int)) (n := 16) rfl rfl rfl rfl ?_
      refine yb_iload (x := (xi_and (xi_xor a0 (-1 : Int)) (a0 - (1 : Int)))) rfl rfl ?_
      refine yb_push (v := 16) rfl ?_
      refine yb_iushr (x := (xi_and (xi_xor a0 (-1 : Int)) (a0 - (1 : Int)))) (y := (16 : Int)) rfl ?_
      refine yb_istore rfl rfl rfl ?_
      exact h
  · replace h := h.2 c
    refine yb_iload (x := (xi_and (xi_xor a0 (-1 : Int)) (a0 - (1 : Int)))) rfl rfl ?_
    refine yb_push (v := 32) rfl ?_
    refine yb_iand (x := (xi_and (xi_xor a0 (-1 : Int)) (a0 - (1 : Int)))) (y := (32 : Int)) rfl ?_
    exact yb_ret rfl h
theorem yk_1_24 {D L : Nat} {P : Int → xh_D → xd_E → Prop} {d : xh_D} {e : xd_E}  {l0 : Int} {l1 : Int}  (h : ((-2147483648 ≤ l0 ∧ l0 < 2147483648) ∧ (((l0 ≤ (256 : Int)) → yB D xm_c1 (yQi L P) L 32 [.int (xJ l0), .int (xJ l1)] [] d e) ∧ ((¬ l0 ≤ (256 : Int)) → yB D xm_c1 (yQi L P) L 32 [.int (xJ (xi_ushr l0 (8 : Int))), .int (xJ (l1 + 8))] [] d e)))) : yB D xm_c1 (yQi L P) L 24 [.int (xJ l0), .int (xJ l1)] [] d e := by
  refine yb_iload (x := l0) rfl rfl ?_
  refine yb_push (v := 256) rfl ?_
  have r1 := h.1
  replace h := h.2
  refine yb_icmp_le (x := l0) (y := (256 : Int)) rfl rfl r1 (by decide) (fun c => ?_) (fun c => ?_)
  · replace h := h.1 c
    exact h
  · replace h := h.2 c
    refine yb_iinc (x := l1) (n := 8) rfl rfl rfl rfl ?_
    refine yb_iload (x := l0) rfl rfl ?_
    refine yb_push (v := 8) rfl ?_
    refine yb_iushr (x := l0) (y := (8 : Int)) rfl ?_
    refine yb_istore rfl rfl rfl ?_
    exact h
theorem yk_1_32 {D L : Nat} {P : Int → xh_D → xd_E → Prop} {d : xh_D} {e : xd_E}  {l0 : Int} {l1 : Int}  (h : ((-2147483648 ≤ l0 ∧ l0 < 2147483648) ∧ (((l0 ≤ (16 : Int)) → (((l0 ≤ (4 : Int)) → P (l1 + (xi_ushr l0 (1 : Int))) d e) ∧ ((¬ l0 ≤ (4 : Int)) → P ((l1 + 2) + (xi_ushr (xi_ushr l0 (2 : Int)) (1 : Int))) d e))) ∧ ((¬ l0 ≤ (16 : Int)) → ((((xi_ushr l0 (4 : Int)) ≤ (4 : Int)) → P ((l1 + 4) + (xi_ushr (xi_ushr l0 (4 : Int)) (1 : Int))) d e) ∧ ((¬ (xi_ushr l0 (4 : Int)) ≤ (4 : Int)) → (∀ v2, v2 = (xi_ushr (xi_ushr l0 (4 : Int)) (2 : Int)) → P (((l1 + 4) + 2) + (xi_ushr v2 (1 : Int))) d e))))))) : yB D xm_c1 (yQi L P) L 32 [.int (xJ l0), .int (xJ l1)] [] d e := by
  refine yb_iload (x := l0) rfl rfl ?_
  refine yb_push (v := 16) rfl ?_
  have r1 := h.1
  replace h := h.2
  refine yb_icmp_le (x := l0) (y := (16 : Int)) rfl rfl r1 (by decide) (fun c => ?_) (fun c => ?_)
  · replace h := h.1 c
    refine yb_iload (x := l0) rfl rfl ?_
    refine yb_push (v := 4) rfl ?_
    refine yb_icmp_le (x := l0) (y := (4 : Int)) rfl rfl r1 (by decide) (fun c => ?_) (fun c => ?_)
    · replace h := h.1 c
      refine yb_iload (x := l1) rfl rfl ?_
      refine yb_iload (x := l0) rfl rfl ?_
      refine yb_push (v := 1) rfl ?_
      refine yb_iushr (x := l0) (y := (1 : Int)) rfl ?_
      refine yb_iadd (x := l1) (y := (xi_ushr l0 (1 : Int))) rfl ?_
      exact yb_ret rfl h
    · replace h := h.2 c
      refine yb_iinc (x := l1) (n := 2) rfl rfl rfl rfl ?_
      refine yb_iload (x := l0) rfl rfl ?_
      refine yb_push (v := 2) rfl ?_
      refine yb_iushr (x := l0) (y := (2 : Int)) rfl ?_
      refine yb_istore rfl rfl rfl ?_
      refine yb_iload (x := (l1 + 2)) rfl rfl ?_
      refine yb_iload (x := (xi_ushr l0 (2 : Int))) rfl rfl ?_
      refine yb_push (v := 1) rfl ?_
      refine yb_iushr (x := (xi_ushr l0 (2 : Int))) (y := (1 : Int)) rfl ?_
      refine yb_iadd (x := (l1 + 2)) (y := (xi_ushr (xi_ushr l0 (2 : Int)) (1 : Int))) rfl ?_
      exact yb_ret rfl h
  · replace h := h.2 c
    refine yb_iinc (x := l1) (n := 4) rfl rfl rfl rfl ?_
    refine yb_iload (x := l0) rfl rfl ?_
    refine yb_push (v := 4) rfl ?_
    refine yb_iushr (x := l0) (y := (4 : Int)) rfl ?_
    refine yb_istore rfl rfl rfl ?_
    refine yb_iload (x := (xi_ushr l0 (4 : Int))) rfl rfl ?_
    refine yb_push (v := 4) rfl ?_
    refine yb_icmp_le (x := (xi_ushr l0 (4 : Int))) (y := (4 : Int)) rfl rfl (xJ_rng _) (by decide) (fun c => ?_) (fun c => ?_)
    · replace h := h.1 c
      refine yb_iload (x := (l1 + 4)) rfl rfl ?_
      refine yb_iload (x := (xi_ushr l0 (4 : Int))) rfl rfl ?_
      refine yb_push (v := 1) rfl ?_
      refine yb_iushr (x := (xi_ushr l0 (4 : Int))) (y := (1 : Int)) rfl ?_
      refine yb_iadd (x := (l1 + 4)) (y := (xi_ushr (xi_ushr l0 (4 : Int)) (1 : Int))) rfl ?_
      exact yb_ret rfl h
    · replace h := h.2 c
      refine yb_iinc (x := (l1 + 4)) (n := 2) rfl rfl rfl rfl ?_
      refine yb_iload (x := (xi_ushr l0 (4 : Int))) rfl rfl ?_
      refine yb_push (v := 2) rfl ?_
      refine yb_iushr (x := (xi_ushr l0 (4 : Int))) (y := (2 : Int)) rfl ?_
      replace h := h _ rfl
      refine yb_istore rfl rfl rfl ?_
      refine yb_iload (x := ((l1 + 4) + 2)) rfl rfl ?_
      refine yb_iload (x := (xi_ushr (xi_ushr l0 (4 : Int)) (2 : Int))) rfl rfl ?_
      refine yb_push (v := 1) rfl ?_
      refine yb_iushr (x := (xi_ushr (xi_ushr l0 (4 : Int)) (2 : Int))) (y := (1 : Int)) rfl ?_
      refine yb_iadd (x := ((l1 + 4) + 2)) (y := (xi_ushr (xi_ushr (xi_ushr l0 (4 : Int)) (2 : Int)) (1 : Int))) rfl ?_
      exact yb_ret rfl h
theorem sp_1 {D L : Nat} {P : Int → xh_D → xd_E → Prop} {d : xh_D} {e : xd_E} {a0 : Int} (hD : 1 ≤ D) (o : (0 < a0 ∧ a0 < 64)) (h : P (xp_ntz a0) d e) : yC D 1 L [.int (xJ a0)] d e P := by
  refine yC_of rfl rfl rfl (by omega) (yk_1_0 ?_)
  intro v1 e1
  have key : ∀ n : Nat, n < 64 → 0 < n → (xp_ntz n = 0 ∧ xi_and (xi_xor n (-1)) (n - 1) = 0) ∨ (xp_ntz n = 1 ∧ xi_and (xi_xor n (-1)) (n - 1) = 1) ∨ (xp_ntz n = 2 ∧ xi_and (xi_xor n (-1)) (n - 1) = 3) ∨ (xp_ntz n = 3 ∧ xi_and (xi_xor n (-1)) (n - 1) = 7) ∨ (xp_ntz n = 4 ∧ xi_and (xi_xor n (-1)) (n - 1) = 15) ∨ (xp_ntz n = 5 ∧ xi_and (xi_xor n (-1)) (n - 1) = 31) := by decide +kernel
  have k := key a0.toNat (by omega) (by omega)
  rw [Int.toNat_of_nonneg (by omega), ← e1] at k
  rcases k with ⟨h1, rfl⟩ | ⟨h1, rfl⟩ | ⟨h1, rfl⟩ | ⟨h1, rfl⟩ | ⟨h1, rfl⟩ | ⟨h1, rfl⟩ <;> rw [h1] at h
  · exact ⟨fun c => absurd c (by decide), fun _ => h⟩
  all_goals refine ⟨fun _ => ⟨fun _ => yk_1_24 ⟨by omega, fun _ => yk_1_32 ⟨by omega, fun c => ⟨fun c => ?_, fun c => ?_⟩, fun c => ⟨fun c => ?_, fun c v2 e2 => ?_⟩⟩, fun c => absurd (by decide) c⟩, fun c => absurd (by decide) c⟩, fun c => absurd (by decide) c⟩
  all_goals first
    | exact h
    | omega
    | exact absurd c (by decide)
    | exact absurd (by decide) c
    | exact absurd (by decide) ‹¬ (_ : Int) ≤ 16›
theorem yk_2_0 {D L : Nat} {P : Int → xh_D → xd_E → Prop} {d : xh_D} {e : xd_E} {a0 : Int}   (h : ((-2147483648 ≤ a0 ∧ a0 < 2147483648) ∧ (((0 ≤ a0) → P a0 d e) ∧ ((¬ 0 ≤ a0) → P (-a0) d e)))) : yB D xm_c2 (yQi L P) L 0 [.int (xJ a0)] [] d e := by
  refine yb_iload (x := a0) rfl rfl ?_
  have r1 := h.1
  replace h := h.2
  refine yb_if_ge (x := a0) rfl rfl r1 (fun c => ?_) (fun c => ?_)
  · replace h := h.1 c
    refine yb_iload (x := a0) rfl rfl ?_
    exact yb_ret rfl h
  · replace h := h.2 c
    refine yb_iload (x := a0) rfl rfl ?_
    refine yb_ineg (x := a0) rfl ?_
    refine yb_goto rfl rfl ?_
    exact yb_ret rfl h
theorem sp_2 {D L : Nat} {P : Int → xh_D → xd_E → Prop} {d : xh_D} {e : xd_E} {a0 : Int} (hD : 1 ≤ D) (o : (-2147483648 < a0 ∧ a0 < 2147483648)) (h : P (max a0 (-a0)) d e) : yC D 2 L [.int (xJ a0)] d e P := by
  refine yC_of rfl rfl rfl (by omega) (yk_2_0 ?_)
  refine ⟨by omega, fun c => ?_, fun c => ?_⟩
  · rw [show max a0 (-a0) = a0 by omega] at h; exact h
  · rw [show max a0 (-a0) = -a0 by omega] at h; exact h
theorem yk_3_0 {D L : Nat} {P : Int → xh_D → xd_E → Prop} {d : xh_D} {e : xd_E} {a0 : Int} {a1 : Int}   (h : ((0 ≤ a0 ∧ a0 < 2147483648) ∧ ((0 < a1 ∧ a1 < 2147483648) ∧ (((0 ≤ (xi_xor a0 a1)) → P (a0 % a1) d e) ∧ ((¬ 0 ≤ (xi_xor a0 a1)) → ((-2147483648 ≤ (a0 % a1) ∧ (a0 % a1) < 2147483648) ∧ ((((a0 % a1) = 0) → P (a0 % a1) d e) ∧ ((¬ (a0 % a1) = 0) → P ((a0 % a1) + a1) d e)))))))) : yB D xm_c3 (yQi L P) L 0 [.int (xJ a0), .int (xJ a1), .double 0] [] d e := by
  refine yb_iload (x := a0) rfl rfl ?_
  refine yb_iload (x := a1) rfl rfl ?_
  have r1 := h.1
  replace h := h.2
  have r2 := h.1
  replace h := h.2
  refine yb_irem (x := a0) (y := a1) rfl r1 r2 ?_
  refine yb_istore rfl rfl rfl ?_
  refine yb_iload (x := a0) rfl rfl ?_
  refine yb_iload (x := a1) rfl rfl ?_
  refine yb_ixor (x := a0) (y := a1) rfl ?_
  refine yb_if_ge (x := (xi_xor a0 a1)) rfl rfl (xJ_rng _) (fun c => ?_) (fun c => ?_)
  · replace h := h.1 c
    refine yb_iload (x := (a0 % a1)) rfl rfl ?_
    exact yb_ret rfl h
  · replace h := h.2 c
    refine yb_iload (x := (a0 % a1)) rfl rfl ?_
    have r3 := h.1
    replace h := h.2
    refine yb_if_eq (x := (a0 % a1)) rfl rfl r3 (fun c => ?_) (fun c => ?_)
    · replace h := h.1 c
      refine yb_iload (x := (a0 % a1)) rfl rfl ?_
      exact yb_ret rfl h
    · replace h := h.2 c
      refine yb_iload (x := (a0 % a1)) rfl rfl ?_
      refine yb_iload (x := a1) rfl rfl ?_
      refine yb_iadd (x := (a0 % a1)) (y := a1) rfl ?_
      exact yb_ret rfl h
theorem sp_3 {D L : Nat} {P : Int → xh_D → xd_E → Prop} {d : xh_D} {e : xd_E} {a0 a1 : Int} (hD : 1 ≤ D) (o : (0 ≤ a0 ∧ a0 < 2147483648) ∧ (0 < a1 ∧ a1 < 2147483648)) (h : P (a0 % a1) d e) : yC D 3 L [.int (xJ a0), .int (xJ a1)] d e P := by
  refine yC_of rfl rfl rfl (by omega) (yk_3_0 ?_)
  exact ⟨o.1, o.2, fun _ => h, fun c => absurd (xi_xor_nn o.1 (by omega)) c⟩
theorem yk_4_0 {D L : Nat} {P : Int → xh_D → xd_E → Prop} {d : xh_D} {e : xd_E} {a0 : Int} {a1 : Int}   (h : ((-2147483648 ≤ a0 ∧ a0 < 2147483648) ∧ ((-2147483648 ≤ a1 ∧ a1 < 2147483648) ∧ (((a0 < a1) → P a1 d e) ∧ ((¬ a0 < a1) → P a0 d e))))) : yB D xm_c4 (yQi L P) L 0 [.int (xJ a0), .int (xJ a1)] [] d e := by
  refine yb_iload (x := a0) rfl rfl ?_
  refine yb_iload (x := a1) rfl rfl ?_
  have r1 := h.1
  replace h := h.2
  have r2 := h.1
  replace h := h.2
  refine yb_icmp_lt (x := a0) (y := a1) rfl rfl r1 r2 (fun c => ?_) (fun c => ?_)
  · replace h := h.1 c
    refine yb_iload (x := a1) rfl rfl ?_
    exact yb_ret rfl h
  · replace h := h.2 c
    refine yb_iload (x := a0) rfl rfl ?_
    refine yb_goto rfl rfl ?_
    exact yb_ret rfl h
theorem sp_4 {D L : Nat} {P : Int → xh_D → xd_E → Prop} {d : xh_D} {e : xd_E} {a0 a1 : Int} (hD : 1 ≤ D) (o : (-2147483648 ≤ a0 ∧ a0 < 2147483648) ∧ (-2147483648 ≤ a1 ∧ a1 < 2147483648)) (h : P (max a0 a1) d e) : yC D 4 L [.int (xJ a0), .int (xJ a1)] d e P := by
  refine yC_of rfl rfl rfl (by omega) (yk_4_0 ?_)
  refine ⟨by omega, by omega, fun c => ?_, fun c => ?_⟩
  · rw [show max a0 a1 = a1 by omega] at h; exact h
  · rw [show max a0 a1 = a0 by omega] at h; exact h
theorem yk_5_0 {D L : Nat} {P : Int → xh_D → xd_E → Prop} {d : xh_D} {e : xd_E} {a0 : Int} {a1 : Int}   (h : ((-2147483648 ≤ a0 ∧ a0 < 2147483648) ∧ ((-2147483648 ≤ a1 ∧ a1 < 2147483648) ∧ (((a1 < a0) → P a1 d e) ∧ ((¬ a1 < a0) → P a0 d e))))) : yB D xm_c5 (yQi L P) L 0 [.int (xJ a0), .int (xJ a1)] [] d e := by
  refine yb_iload (x := a0) rfl rfl ?_
  refine yb_iload (x := a1) rfl rfl ?_
  have r1 := h.1
  replace h := h.2
  have r2 := h.1
  replace h := h.2
  refine yb_icmp_gt (x := a0) (y := a1) rfl rfl r1 r2 (fun c => ?_) (fun c => ?_)
  · replace h := h.1 c
    refine yb_iload (x := a1) rfl rfl ?_
    exact yb_ret rfl h
  · replace h := h.2 c
    refine yb_iload (x := a0) rfl rfl ?_
    refine yb_goto rfl rfl ?_
    exact yb_ret rfl h
theorem sp_5 {D L : Nat} {P : Int → xh_D → xd_E → Prop} {d : xh_D} {e : xd_E} {a0 a1 : Int} (hD : 1 ≤ D) (o : (-2147483648 ≤ a0 ∧ a0 < 2147483648) ∧ (-2147483648 ≤ a1 ∧ a1 < 2147483648)) (h : P (min a0 a1) d e) : yC D 5 L [.int (xJ a0), .int (xJ a1)] d e P := by
  refine yC_of rfl rfl rfl (by omega) (yk_5_0 ?_)
  refine ⟨by omega, by omega, fun c => ?_, fun c => ?_⟩
  · rw [show min a0 a1 = a1 by omega] at h; exact h
  · rw [show min a0 a1 = a0 by omega] at h; exact h
theorem yk_44_0 {D L : Nat} {P : Int → xh_D → xd_E → Prop} {d : xh_D} {e : xd_E} {a0 : Int}   (h : ((-2147483648 ≤ a0 ∧ a0 < 2147483648) ∧ ((a0 = 42 → P (3 : Int) d e) ∧ (a0 = 43 → P (2 : Int) d e) ∧ (a0 = 45 → P (2 : Int) d e) ∧ (a0 = 47 → P (3 : Int) d e) ∧ (a0 = 60 → P (1 : Int) d e) ∧ (a0 = 61 → P (1 : Int) d e) ∧ (a0 = 62 → P (1 : Int) d e) ∧ (a0 = 256 → P (4 : Int) d e) ∧ ((¬ a0 = 42 ∧ ¬ a0 = 43 ∧ ¬ a0 = 45 ∧ ¬ a0 = 47 ∧ ¬ a0 = 60 ∧ ¬ a0 = 61 ∧ ¬ a0 = 62 ∧ ¬ a0 = 256) → P (0 : Int) d e)))) : yB D xm_c44 (yQi L P) L 0 [.int (xJ a0)] [] d e := by
  refine yb_iload (x := a0) rfl rfl ?_
  have r1 := h.1
  replace h := h.2
  by_cases c0 : a0 = 42
  · replace h := h.1 c0
    refine yb_lookup (x := a0) rfl r1 ?_
    rw [c0]
    show yB D xm_c44 _ L 6 _ _ _ _
    refine yb_push (v := 3) rfl ?_
    exact yb_ret rfl h
  by_cases c1 : a0 = 43
  · replace h := h.2.1 c1
    refine yb_lookup (x := a0) rfl r1 ?_
    rw [c1]
    show yB D xm_c44 _ L 4 _ _ _ _
    refine yb_push (v := 2) rfl ?_
    exact yb_ret rfl h
  by_cases c2 : a0 = 45
  · replace h := h.2.2.1 c2
    refine yb_lookup (x := a0) rfl r1 ?_
    rw [c2]
    show yB D xm_c44 _ L 4 _ _ _ _
    refine yb_push (v := 2) rfl ?_
    exact yb_ret rfl h
  by_cases c3 : a0 = 47
  · replace h := h.2.2.2.1 c3
    refine yb_lookup (x := a0) rfl r1 ?_
    rw [c3]
    show yB D xm_c44 _ L 6 _ _ _ _
    refine yb_push (v := 3) rfl ?_
    exact yb_ret rfl h
  by_cases c4 : a0 = 60
  · replace h := h.2.2.2.2.1 c4
    refine yb_lookup (x := a0) rfl r1 ?_
    rw [c4]
    show yB D xm_c44 _ L 2 _ _ _ _
    refine yb_push (v := 1) rfl ?_
    exact yb_ret rfl h
  by_cases c5 : a0 = 61
  · replace h := h.2.2.2.2.2.1 c5
    refine yb_lookup (x := a0) rfl r1 ?_
    rw [c5]
    show yB D xm_c44 _ L 2 _ _ _ _
    refine yb_push (v := 1) rfl ?_
    exact yb_ret rfl h
  by_cases c6 : a0 = 62
  · replace h := h.2.2.2.2.2.2.1 c6
    refine yb_lookup (x := a0) rfl r1 ?_
    rw [c6]
    show yB D xm_c44 _ L 2 _ _ _ _
    refine yb_push (v := 1) rfl ?_
    exact yb_ret rfl h
  by_cases c7 : a0 = 256
  · replace h := h.2.2.2.2.2.2.2.1 c7
    refine yb_lookup (x := a0) rfl r1 ?_
    rw [c7]
    show yB D xm_c44 _ L 8 _ _ _ _
    refine yb_push (v := 4) rfl ?_
    exact yb_ret rfl h
  replace h := h.2.2.2.2.2.2.2.2 ⟨c0, c1, c2, c3, c4, c5, c6, c7⟩
  refine yb_lookup (x := a0) rfl r1 ?_
  rw [show Op.lookupswitch.offset _ _ _ = (10 : Int) from by simp [Op.lookupswitch.offset, c0, Ne.symm c0, c1, Ne.symm c1, c2, Ne.symm c2, c3, Ne.symm c3, c4, Ne.symm c4, c5, Ne.symm c5, c6, Ne.symm c6, c7, Ne.symm c7]]
  show yB D xm_c44 _ L 10 _ _ _ _
  refine yb_push (v := 0) rfl ?_
  exact yb_ret rfl h
theorem sp_44 {D L : Nat} {P : Int → xh_D → xd_E → Prop} {d : xh_D} {e : xd_E} {a0 : Int} (hD : 1 ≤ D) (o : (-2147483648 ≤ a0 ∧ a0 < 2147483648)) (h : P (xp_str a0) d e) : yC D 44 L [.int (xJ a0)] d e P := by
  refine yC_of rfl rfl rfl (by omega) (yk_44_0 ?_)
  repeat' (first | apply And.intro | intro _)
  all_goals first
    | omega
    | (refine cast ?_ h; congr 1; unfold xp_str; (repeat' split) <;> omega)
theorem yk_45_0 {D L : Nat} {P : Int → xh_D → xd_E → Prop} {d : xh_D} {e : xd_E} {a0 : Int}   (h : ((-2147483648 ≤ a0 ∧ a0 < 2147483648) ∧ (((a0 < 100 ∨ 117 < a0) → P (-1 : Int) d e) ∧ (a0 = 100 → P (4 : Int) d e) ∧ (a0 = 101 → P (-1 : Int) d e) ∧ (a0 = 102 → P (-1 : Int) d e) ∧ (a0 = 103 → P (-1 : Int) d e) ∧ (a0 = 104 → P (-1 : Int) d e) ∧ (a0 = 105 → P (5 : Int) d e) ∧ (a0 = 106 → P (6 : Int) d e) ∧ (a0 = 107 → P (3 : Int) d e) ∧ (a0 = 108 → P (-1 : Int) d e) ∧ (a0 = 109 → P (-1 : Int) d e) ∧ (a0 = 110 → P (-1 : Int) d e) ∧ (a0 = 111 → P (-1 : Int) d e) ∧ (a0 = 112 → P (-1 : Int) d e) ∧ (a0 = 113 → P (-1 : Int) d e) ∧ (a0 = 114 → P (2 : Int) d e) ∧ (a0 = 115 → P (-1 : Int) d e) ∧ (a0 = 116 → P (0 : Int) d e) ∧ (a0 = 117 → P (1 : Int) d e)))) : yB D xm_c45 (yQi L P) L 0 [.int (xJ a0)] [] d e := by
  refine yb_iload (x := a0) rfl rfl ?_
  have r1 := h.1
  replace h := h.2
  refine yb_table (x := a0) rfl rfl r1 (fun c => ?_) (fun c1 c2 => ?_)
  · replace h := h.1 c
    refine yb_push (v := (-1)) rfl ?_
    exact yb_ret rfl h
  · rcases (show a0 = 100 ∨ a0 = 101 ∨ a0 = 102 ∨ a0 = 103 ∨ a0 = 104 ∨ a0 = 105 ∨ a0 = 106 ∨ a0 = 107 ∨ a0 = 108 ∨ a0 = 109 ∨ a0 = 110 ∨ a0 = 111 ∨ a0 = 112 ∨ a0 = 113 ∨ a0 = 114 ∨ a0 = 115 ∨ a0 = 116 ∨ a0 = 117 by omega) with c | c | c | c | c | c | c | c | c | c | c | c | c | c | c | c | c | c
    · replace h := h.2.1 c
      refine ⟨_, by rw [c]; rfl, ?_⟩
      refine yb_push (v := 4) rfl ?_
      exact yb_ret rfl h
    · replace h := h.2.2.1 c
      refine ⟨_, by rw [c]; rfl, ?_⟩
      refine yb_push (v := (-1)) rfl ?_
      exact yb_ret rfl h
    · replace h := h.2.2.2.1 c
      refine ⟨_, by rw [c]; rfl, ?_⟩
      refine yb_push (v := (-1)) rfl ?_
      exact yb_ret rfl h
    · replace h := h.2.2.2.2.1 c
      refine ⟨_, by rw [c]; rfl, ?_⟩
      refine yb_push (v := (-1)) rfl ?_
      exact yb_ret rfl h
    · replace h := h.2.2.2.2.2.1 c
      refine ⟨_, by rw [c]; rfl, ?_⟩
      refine yb_push (v := (-1)) rfl ?_
      exact yb_ret rfl h
    · replace h := h.2.2.2.2.2.2.1 c
      refine ⟨_, by rw [c]; rfl, ?_⟩
      refine yb_push (v := 5) rfl ?_
      exact yb_ret rfl h
    · replace h := h.2.2.2.2.2.2.2.1 c
      refine ⟨_, by rw [c]; rfl, ?_⟩
      refine yb_push (v := 6) rfl ?_
      exact yb_ret rfl h
    · replace h := h.2.2.2.2.2.2.2.2.1 c
      refine ⟨_, by rw [c]; rfl, ?_⟩
      refine yb_push (v := 3) rfl ?_
      exact yb_ret rfl h
    · replace h := h.2.2.2.2.2.2.2.2.2.1 c
      refine ⟨_, by rw [c]; rfl, ?_⟩
      refine yb_push (v := (-1)) rfl ?_
      exact yb_ret rfl h
    · replace h := h.2.2.2.2.2.2.2.2.2.2.1 c
      refine ⟨_, by rw [c]; rfl, ?_⟩
      refine yb_push (v := (-1)) rfl ?_
      exact yb_ret rfl h
    · replace h := h.2.2.2.2.2.2.2.2.2.2.2.1 c
      refine ⟨_, by rw [c]; rfl, ?_⟩
      refine yb_push (v := (-1)) rfl ?_
      exact yb_ret rfl h
    · replace h := h.2.2.2.2.2.2.2.2.2.2.2.2.1 c
      refine ⟨_, by rw [c]; rfl, ?_⟩
      refine yb_push (v := (-1)) rfl ?_
      exact yb_ret rfl h
    · replace h := h.2.2.2.2.2.2.2.2.2.2.2.2.2.1 c
      refine ⟨_, by rw [c]; rfl, ?_⟩
      refine yb_push (v := (-1)) rfl ?_
      exact yb_ret rfl h
    · replace h := h.2.2.2.2.2.2.2.2.2.2.2.2.2.2.1 c
      refine ⟨_, by rw [c]; rfl, ?_⟩
      refine yb_push (v := (-1)) rfl ?_
      exact yb_ret rfl h
    · replace h := h.2.2.2.2.2.2.2.2.2.2.2.2.2.2.2.1 c
      refine ⟨_, by rw [c]; rfl, ?_⟩
      refine yb_push (v := 2) rfl ?_
      exact yb_ret rfl h
    · replace h := h.2.2.2.2.2.2.2.2.2.2.2.2.2.2.2.2.1 c
      refine ⟨_, by rw [c]; rfl, ?_⟩
      refine yb_push (v := (-1)) rfl ?_
      exact yb_ret rfl h
    · replace h := h.2.2.2.2.2.2.2.2.2.2.2.2.2.2.2.2.2.1 c
      refine ⟨_, by rw [c]; rfl, ?_⟩
      refine yb_push (v := 0) rfl ?_
      exact yb_ret rfl h
    · replace h := h.2.2.2.2.2.2.2.2.2.2.2.2.2.2.2.2.2.2 c
      refine ⟨_, by rw [c]; rfl, ?_⟩
      refine yb_push (v := 1) rfl ?_
      exact yb_ret rfl h
theorem sp_45 {D L : Nat} {P : Int → xh_D → xd_E → Prop} {d : xh_D} {e : xd_E} {a0 : Int} (hD : 1 ≤ D) (o : (-2147483648 ≤ a0 ∧ a0 < 2147483648)) (h : P (xp_thg a0) d e) : yC D 45 L [.int (xJ a0)] d e P := by
  refine yC_of rfl rfl rfl (by omega) (yk_45_0 ?_)
  repeat' (first | apply And.intro | intro _)
  all_goals first
    | omega
    | (refine cast ?_ h; congr 1; unfold xp_thg; (repeat' split) <;> omega)
theorem yk_48_0 {D L : Nat} {P : Int → xh_D → xd_E → Prop} {d : xh_D} {e : xd_E} {a0 : Int} {a1 : Int} {a2 : Int}   (h : ((-2147483648 ≤ a0 ∧ a0 < 2147483648) ∧ ((a0 = 42 → P (a1 * a2) d e) ∧ (a0 = 43 → P (a1 + a2) d e) ∧ (a0 = 45 → P (a1 - a2) d e) ∧ (a0 = 60 → ((-2147483648 ≤ a1 ∧ a1 < 2147483648) ∧ ((-2147483648 ≤ a2 ∧ a2 < 2147483648) ∧ (((a2 ≤ a1) → P (0 : Int) d e) ∧ ((¬ a2 ≤ a1) → P (1 : Int) d e))))) ∧ (a0 = 61 → ((-2147483648 ≤ a1 ∧ a1 < 2147483648) ∧ ((-2147483648 ≤ a2 ∧ a2 < 2147483648) ∧ (((¬ a1 = a2) → P (0 : Int) d e) ∧ ((a1 = a2) → P (1 : Int) d e))))) ∧ (a0 = 62 → ((-2147483648 ≤ a1 ∧ a1 < 2147483648) ∧ ((-2147483648 ≤ a2 ∧ a2 < 2147483648) ∧ (((a1 ≤ a2) → P (0 : Int) d e) ∧ ((¬ a1 ≤ a2) → P (1 : Int) d e))))) ∧ ((¬ a0 = 42 ∧ ¬ a0 = 43 ∧ ¬ a0 = 45 ∧ ¬ a0 = 60 ∧ ¬ a0 = 61 ∧ ¬ a0 = 62) → ((-2147483648 ≤ a2 ∧ a2 < 2147483648) ∧ (((¬ a2 = 0) → (((-2147483648 ≤ a2 ∧ a2 < 2147483648) ∧ ¬ a2 = 0) ∧ P (xi_div a1 a2) d e)) ∧ ((a2 = 0) → P (0 : Int) d e))))))) : yB D xm_c48 (yQi L P) L 0 [.int (xJ a0), .int (xJ a1), .int (xJ a2)] [] d e := by
  refine yb_iload (x := a0) rfl rfl ?_
  have r1 := h.1
  replace h := h.2
  by_cases c0 : a0 = 42
  · replace h := h.1 c0
    refine yb_lookup (x := a0) rfl r1 ?_
    rw [c0]
    show yB D xm_c48 _ L 31 _ _ _ _
    refine yb_iload (x := a1) rfl rfl ?_
    refine yb_iload (x := a2) rfl rfl ?_
    refine yb_imul (x := a1) (y := a2) rfl ?_
    exact yb_ret rfl h
  by_cases c1 : a0 = 43
  · replace h := h.2.1 c1
    refine yb_lookup (x := a0) rfl r1 ?_
    rw [c1]
    show yB D xm_c48 _ L 23 _ _ _ _
    refine yb_iload (x := a1) rfl rfl ?_
    refine yb_iload (x := a2) rfl rfl ?_
    refine yb_iadd (x := a1) (y := a2) rfl ?_
    exact yb_ret rfl h
  by_cases c2 : a0 = 45
  · replace h := h.2.2.1 c2
    refine yb_lookup (x := a0) rfl r1 ?_
    rw [c2]
    show yB D xm_c48 _ L 27 _ _ _ _
    refine yb_iload (x := a1) rfl rfl ?_
    refine yb_iload (x := a2) rfl rfl ?_
    refine yb_isub (x := a1) (y := a2) rfl ?_
    exact yb_ret rfl h
  by_cases c3 : a0 = 60
  · replace h := h.2.2.2.1 c3
    refine yb_lookup (x := a0) rfl r1 ?_
    rw [c3]
    show yB D xm_c48 _ L 2 _ _ _ _
    refine yb_iload (x := a1) rfl rfl ?_
    refine yb_iload (x := a2) rfl rfl ?_
    have r2 := h.1
    replace h := h.2
    have r3 := h.1
    replace h := h.2
    refine yb_icmp_ge (x := a1) (y := a2) rfl rfl r2 r3 (fun c => ?_) (fun c => ?_)
    · replace h := h.1 c
      refine yb_push (v := 0) rfl ?_
      exact yb_ret rfl h
    · replace h := h.2 c
      refine yb_push (v := 1) rfl ?_
      refine yb_goto rfl rfl ?_
      exact yb_ret rfl h
  by_cases c4 : a0 = 61
  · replace h := h.2.2.2.2.1 c4
    refine yb_lookup (x := a0) rfl r1 ?_
    rw [c4]
    show yB D xm_c48 _ L 16 _ _ _ _
    refine yb_iload (x := a1) rfl rfl ?_
    refine yb_iload (x := a2) rfl rfl ?_
    have r4 := h.1
    replace h := h.2
    have r5 := h.1
    replace h := h.2
    refine yb_icmp_ne (x := a1) (y := a2) rfl rfl r4 r5 (fun c => ?_) (fun c => ?_)
    · replace h := h.1 c
      refine yb_push (v := 0) rfl ?_
      exact yb_ret rfl h
    · replace h := h.2 c
      refine yb_push (v := 1) rfl ?_
      refine yb_goto rfl rfl ?_
      exact yb_ret rfl h
  by_cases c5 : a0 = 62
  · replace h := h.2.2.2.2.2.1 c5
    refine yb_lookup (x := a0) rfl r1 ?_
    rw [c5]
    show yB D xm_c48 _ L 9 _ _ _ _
    refine yb_iload (x := a1) rfl rfl ?_
    refine yb_iload (x := a2) rfl rfl ?_
    have r6 := h.1
    replace h := h.2
    have r7 := h.1
    replace h := h.2
    refine yb_icmp_le (x := a1) (y := a2) rfl rfl r6 r7 (fun c => ?_) (fun c => ?_)
    · replace h := h.1 c
      refine yb_push (v := 0) rfl ?_
      exact yb_ret rfl h
    · replace h := h.2 c
      refine yb_push (v := 1) rfl ?_
      refine yb_goto rfl rfl ?_
      exact yb_ret rfl h
  replace h := h.2.2.2.2.2.2 ⟨c0, c1, c2, c3, c4, c5⟩
  refine yb_lookup (x := a0) rfl r1 ?_
  rw [show Op.lookupswitch.offset _ _ _ = (35 : Int) from by simp [Op.lookupswitch.offset, c0, Ne.symm c0, c1, Ne.symm c1, c2, Ne.symm c2, c3, Ne.symm c3, c4, Ne.symm c4, c5, Ne.symm c5]]
  show yB D xm_c48 _ L 35 _ _ _ _
  refine yb_iload (x := a2) rfl rfl ?_
  have r8 := h.1
  replace h := h.2
  refine yb_if_ne (x := a2) rfl rfl r8 (fun c => ?_) (fun c => ?_)
  · replace h := h.1 c
    refine yb_iload (x := a1) rfl rfl ?_
    refine yb_iload (x := a2) rfl rfl ?_
    have r9 := h.1
    replace h := h.2
    refine yb_idivg (x := a1) (y := a2) rfl r9 ?_
    exact yb_ret rfl h
  · replace h := h.2 c
    refine yb_push (v := 0) rfl ?_
    refine yb_goto rfl rfl ?_
    exact yb_ret rfl h
theorem sp_48 {D L : Nat} {P : Int → xh_D → xd_E → Prop} {d : xh_D} {e : xd_E} {a0 a1 a2 : Int} (hD : 1 ≤ D) (o : (-2147483648 ≤ a0 ∧ a0 < 2147483648) ∧ (-2147483648 ≤ a1 ∧ a1 < 2147483648) ∧ (-2147483648 ≤ a2 ∧ a2 < 2147483648)) (h : P (xp_join a0 a1 a2) d e) : yC D 48 L [.int (xJ a0), .int (xJ a1), .int (xJ a2)] d e P := by
  refine yC_wrap ?_
  refine yC_of rfl rfl rfl (by omega) (yk_48_0 ?_)
  have w0 : xw 0 = 0 := rfl
  have w1 : xw 1 = 1 := rfl
  have w2 : xw (xi_div a1 a2) = xi_div a1 a2 := xw_i (xi_div_r _ _)
  unfold xp_join at h
  repeat' (first | apply And.intro | intro _)
  all_goals first
    | omega
    | (simp only [w0, w1, w2, *] at h ⊢; exact h)
    | (refine cast ?_ h; congr 1; (repeat' split) <;> omega)
theorem yk_113_0 {D L : Nat} {P : Int → xh_D → xd_E → Prop} {d : xh_D} {e : xd_E} {a0 : Int} {a1 : Int}   (h : ((-2147483648 ≤ a0 ∧ a0 < 2147483648) ∧ (((¬ a0 = 0) → (((¬ a0 = (1 : Int)) → P a1 d e) ∧ ((a0 = (1 : Int)) → P (xi_i16 a1) d e))) ∧ ((a0 = 0) → P (xi_i8 a1) d e)))) : yB D xm_c113 (yQi L P) L 0 [.int (xJ a0), .int (xJ a1)] [] d e := by
  refine yb_iload (x := a0) rfl rfl ?_
  have r1 := h.1
  replace h := h.2
  refine yb_if_ne (x := a0) rfl rfl r1 (fun c => ?_) (fun c => ?_)
  · replace h := h.1 c
    refine yb_iload (x := a0) rfl rfl ?_
    refine yb_push (v := 1) rfl ?_
    refine yb_icmp_ne (x := a0) (y := (1 : Int)) rfl rfl r1 (by decide) (fun c => ?_) (fun c => ?_)
    · replace h := h.1 c
      refine yb_iload (x := a1) rfl rfl ?_
      exact yb_ret rfl h
    · replace h := h.2 c
      refine yb_iload (x := a1) rfl rfl ?_
      refine yb_i2s (x := a1) rfl ?_
      refine yb_goto rfl rfl ?_
      exact yb_ret rfl h
  · replace h := h.2 c
    refine yb_iload (x := a1) rfl rfl ?_
    refine yb_i2b (x := a1) rfl ?_
    exact yb_ret rfl h
theorem sp_113 {D L : Nat} {P : Int → xh_D → xd_E → Prop} {d : xh_D} {e : xd_E} {a0 a1 : Int} (hD : 1 ≤ D) (o : (-2147483648 ≤ a0 ∧ a0 < 2147483648)) (h : P (xp_kind a0 a1) d e) : yC D 113 L [.int (xJ a0), .int (xJ a1)] d e P := by
  refine yC_wrap ?_
  refine yC_of rfl rfl rfl (by omega) (yk_113_0 ?_)
  have w0 : xw 0 = 0 := rfl
  have w1 : xw 1 = 1 := rfl
  have w2 : xw (xi_i8 a1) = xi_i8 a1 := xw_i (xi_i8_r _)
  have w3 : xw (xi_i16 a1) = xi_i16 a1 := xw_i (xi_i16_r _)
  unfold xp_kind at h
  repeat' (first | apply And.intro | intro _)
  all_goals first
    | omega
    | (refine cast ?_ h; congr 1; (repeat' split) <;> omega)
theorem yk_124_0 {D L : Nat} {P : Int → xh_D → xd_E → Prop} {d : xh_D} {e : xd_E} {a0 : Int}   (h : ((-2147483648 ≤ a0 ∧ a0 < 2147483648) ∧ (((¬ a0 = (100 : Int)) → (((¬ a0 = (115 : Int)) → (((a0 = (104 : Int)) → P (2 : Int) d e) ∧ ((¬ a0 = (104 : Int)) → (((¬ a0 = (109 : Int)) → P (-1 : Int) d e) ∧ ((a0 = (109 : Int)) → P (2 : Int) d e))))) ∧ ((a0 = (115 : Int)) → P (3 : Int) d e))) ∧ ((a0 = (100 : Int)) → P (1 : Int) d e)))) : yB D xm_c124 (yQi L P) L 0 [.int (xJ a0)] [] d e := by
  refine yb_iload (x := a0) rfl rfl ?_
  refine yb_push (v := 100) rfl ?_
  have r1 := h.1
  replace h := h.2
  refine yb_icmp_ne (x := a0) (y := (100 : Int)) rfl rfl r1 (by decide) (fun c => ?_) (fun c => ?_)
  · replace h := h.1 c
    refine yb_iload (x := a0) rfl rfl ?_
    refine yb_push (v := 115) rfl ?_
    refine yb_icmp_ne (x := a0) (y := (115 : Int)) rfl rfl r1 (by decide) (fun c => ?_) (fun c => ?_)
    · replace h := h.1 c
      refine yb_iload (x := a0) rfl rfl ?_
      refine yb_push (v := 104) rfl ?_
      refine yb_icmp_eq (x := a0) (y := (104 : Int)) rfl rfl r1 (by decide) (fun c => ?_) (fun c => ?_)
      · replace h := h.1 c
        refine yb_push (v := 2) rfl ?_
        refine yb_goto rfl rfl ?_
        exact yb_ret rfl h
      · replace h := h.2 c
        refine yb_iload (x := a0) rfl rfl ?_
        refine yb_push (v := 109) rfl ?_
        refine yb_icmp_ne (x := a0) (y := (109 : Int)) rfl rfl r1 (by decide) (fun c => ?_) (fun c => ?_)
        · replace h := h.1 c
          refine yb_push (v := (-1)) rfl ?_
          exact yb_ret rfl h
        · replace h := h.2 c
          refine yb_push (v := 2) rfl ?_
          refine yb_goto rfl rfl ?_
          exact yb_ret rfl h
    · replace h := h.2 c
      refine yb_push (v := 3) rfl ?_
      exact yb_ret rfl h
  · replace h := h.2 c
    refine yb_push (v := 1) rfl ?_
    exact yb_ret rfl h
theorem sp_124 {D L : Nat} {P : Int → xh_D → xd_E → Prop} {d : xh_D} {e : xd_E} {a0 : Int} (hD : 1 ≤ D) (o : (-2147483648 ≤ a0 ∧ a0 < 2147483648)) (h : P (xp_pia a0) d e) : yC D 124 L [.int (xJ a0)] d e P := by
  refine yC_of rfl rfl rfl (by omega) (yk_124_0 ?_)
  repeat' (first | apply And.intro | intro _)
  all_goals first
    | omega
    | (refine cast ?_ h; congr 1; unfold xp_pia; (repeat' split) <;> omega)
theorem yk_170_0 {D L : Nat} {P1 P0 : xh_D → xd_E → Prop} {d : xh_D} {e : xd_E} {a0 : Int}   (h : ((-2147483648 ≤ a0 ∧ a0 < 2147483648) ∧ (((a0 < (48 : Int)) → P0 d e) ∧ ((¬ a0 < (48 : Int)) → ((((56 : Int) < a0) → P0 d e) ∧ ((¬ (56 : Int) < a0) → P1 d e)))))) : yB D xm_c170 (yQz L P1 P0) L 0 [.int (xJ a0)] [] d e := by
  refine yb_iload (x := a0) rfl rfl ?_
  refine yb_push (v := 48) rfl ?_
  have r1 := h.1
  replace h := h.2
  refine yb_icmp_lt (x := a0) (y := (48 : Int)) rfl rfl r1 (by decide) (fun c => ?_) (fun c => ?_)
  · replace h := h.1 c
    refine yb_push (v := 0) rfl ?_
    exact yb_ret0 rfl h
  · replace h := h.2 c
    refine yb_iload (x := a0) rfl rfl ?_
    refine yb_push (v := 56) rfl ?_
    refine yb_icmp_gt (x := a0) (y := (56 : Int)) rfl rfl r1 (by decide) (fun c => ?_) (fun c => ?_)
    · replace h := h.1 c
      refine yb_push (v := 0) rfl ?_
      exact yb_ret0 rfl h
    · replace h := h.2 c
      refine yb_push (v := 1) rfl ?_
      refine yb_goto rfl rfl ?_
      exact yb_ret1 rfl h
theorem sp_170 {D L : Nat} {P1 P0 : xh_D → xd_E → Prop} {d : xh_D} {e : xd_E} {a0 : Int} (hD : 1 ≤ D) (o : (-2147483648 ≤ a0 ∧ a0 < 2147483648)) (h1 : (48 ≤ a0 ∧ a0 ≤ 56) → P1 d e) (h0 : ¬ (48 ≤ a0 ∧ a0 ≤ 56) → P0 d e) : yZ D 170 L [.int (xJ a0)] d e P1 P0 := by
  refine yZ_of rfl rfl rfl (by omega) (yk_170_0 ?_)
  repeat' (first | apply And.intro | intro _)
  all_goals first
    | omega
    | exact h1 (by omega)
    | exact h0 (by omega)
theorem yk_171_0 {D L : Nat} {P1 P0 : xh_D → xd_E → Prop} {d : xh_D} {e : xd_E} {a0 : Int}   (h : ((-2147483648 ≤ a0 ∧ a0 < 2147483648) ∧ (((a0 < (97 : Int)) → P0 d e) ∧ ((¬ a0 < (97 : Int)) → ((((105 : Int) < a0) → P0 d e) ∧ ((¬ (105 : Int) < a0) → P1 d e)))))) : yB D xm_c171 (yQz L P1 P0) L 0 [.int (xJ a0)] [] d e := by
  refine yb_iload (x := a0) rfl rfl ?_
  refine yb_push (v := 97) rfl ?_
  have r1 := h.1
  replace h := h.2
  refine yb_icmp_lt (x := a0) (y := (97 : Int)) rfl rfl r1 (by decide) (fun c => ?_) (fun c => ?_)
  · replace h := h.1 c
    refine yb_push (v := 0) rfl ?_
    exact yb_ret0 rfl h
  · replace h := h.2 c
    refine yb_iload (x := a0) rfl rfl ?_
    refine yb_push (v := 105) rfl ?_
    refine yb_icmp_gt (x := a0) (y := (105 : Int)) rfl rfl r1 (by decide) (fun c => ?_) (fun c => ?_)
    · replace h := h.1 c
      refine yb_push (v := 0) rfl ?_
      exact yb_ret0 rfl h
    · replace h := h.2 c
      refine yb_push (v := 1) rfl ?_
      refine yb_goto rfl rfl ?_
      exact yb_ret1 rfl h
theorem sp_171 {D L : Nat} {P1 P0 : xh_D → xd_E → Prop} {d : xh_D} {e : xd_E} {a0 : Int} (hD : 1 ≤ D) (o : (-2147483648 ≤ a0 ∧ a0 < 2147483648)) (h1 : (97 ≤ a0 ∧ a0 ≤ 105) → P1 d e) (h0 : ¬ (97 ≤ a0 ∧ a0 ≤ 105) → P0 d e) : yZ D 171 L [.int (xJ a0)] d e P1 P0 := by
  refine yZ_of rfl rfl rfl (by omega) (yk_171_0 ?_)
  repeat' (first | apply And.intro | intro _)
  all_goals first
    | omega
    | exact h1 (by omega)
    | exact h0 (by omega)
theorem yk_172_0 {D L : Nat} {P1 P0 : xh_D → xd_E → Prop} {d : xh_D} {e : xd_E} {a0 : Int}   (h : ((-2147483648 ≤ a0 ∧ a0 < 2147483648) ∧ (((a0 < 0) → P0 d e) ∧ ((¬ a0 < 0) → ((((6 : Int) ≤ a0) → P0 d e) ∧ ((¬ (6 : Int) ≤ a0) → P1 d e)))))) : yB D xm_c172 (yQz L P1 P0) L 0 [.int (xJ a0)] [] d e := by
  refine yb_iload (x := a0) rfl rfl ?_
  have r1 := h.1
  replace h := h.2
  refine yb_if_lt (x := a0) rfl rfl r1 (fun c => ?_) (fun c => ?_)
  · replace h := h.1 c
    refine yb_push (v := 0) rfl ?_
    exact yb_ret0 rfl h
  · replace h := h.2 c
    refine yb_iload (x := a0) rfl rfl ?_
    refine yb_push (v := 6) rfl ?_
    refine yb_icmp_ge (x := a0) (y := (6 : Int)) rfl rfl r1 (by decide) (fun c => ?_) (fun c => ?_)
    · replace h := h.1 c
      refine yb_push (v := 0) rfl ?_
      exact yb_ret0 rfl h
    · replace h := h.2 c
      refine yb_push (v := 1) rfl ?_
      refine yb_goto rfl rfl ?_
      exact yb_ret1 rfl h
theorem sp_172 {D L : Nat} {P1 P0 : xh_D → xd_E → Prop} {d : xh_D} {e : xd_E} {a0 : Int} (hD : 1 ≤ D) (o : (-2147483648 ≤ a0 ∧ a0 < 2147483648)) (h1 : (0 ≤ a0 ∧ a0 ≤ 5) → P1 d e) (h0 : ¬ (0 ≤ a0 ∧ a0 ≤ 5) → P0 d e) : yZ D 172 L [.int (xJ a0)] d e P1 P0 := by
  refine yZ_of rfl rfl rfl (by omega) (yk_172_0 ?_)
  repeat' (first | apply And.intro | intro _)
  all_goals first
    | omega
    | exact h1 (by omega)
    | exact h0 (by omega)
theorem yk_173_0 {D L : Nat} {P1 P0 : xh_D → xd_E → Prop} {d : xh_D} {e : xd_E} {a0 : Int}   (h : ((-2147483648 ≤ a0 ∧ a0 < 2147483648) ∧ (((a0 < 0) → P0 d e) ∧ ((¬ a0 < 0) → ((((9 : Int) ≤ a0) → P0 d e) ∧ ((¬ (9 : Int) ≤ a0) → P1 d e)))))) : yB D xm_c173 (yQz L P1 P0) L 0 [.int (xJ a0)] [] d e := by
  refine yb_iload (x := a0) rfl rfl ?_
  have r1 := h.1
  replace h := h.2
  refine yb_if_lt (x := a0) rfl rfl r1 (fun c => ?_) (fun c => ?_)
  · replace h := h.1 c
    refine yb_push (v := 0) rfl ?_
    exact yb_ret0 rfl h
  · replace h := h.2 c
    refine yb_iload (x := a0) rfl rfl ?_
    refine yb_push (v := 9) rfl ?_
    refine yb_icmp_ge (x := a0) (y := (9 : Int)) rfl rfl r1 (by decide) (fun c => ?_) (fun c => ?_)
    · replace h := h.1 c
      refine yb_push (v := 0) rfl ?_
      exact yb_ret0 rfl h
    · replace h := h.2 c
      refine yb_push (v := 1) rfl ?_
      refine yb_goto rfl rfl ?_
      exact yb_ret1 rfl h
theorem sp_173 {D L : Nat} {P1 P0 : xh_D → xd_E → Prop} {d : xh_D} {e : xd_E} {a0 : Int} (hD : 1 ≤ D) (o : (-2147483648 ≤ a0 ∧ a0 < 2147483648)) (h1 : (0 ≤ a0 ∧ a0 ≤ 8) → P1 d e) (h0 : ¬ (0 ≤ a0 ∧ a0 ≤ 8) → P0 d e) : yZ D 173 L [.int (xJ a0)] d e P1 P0 := by
  refine yZ_of rfl rfl rfl (by omega) (yk_173_0 ?_)
  repeat' (first | apply And.intro | intro _)
  all_goals first
    | omega
    | exact h1 (by omega)
    | exact h0 (by omega)
theorem yk_174_0 {D L : Nat} {P1 P0 : xh_D → xd_E → Prop} {d : xh_D} {e : xd_E} {a0 : Int}   (h : ((-2147483648 ≤ a0 ∧ a0 < 2147483648) ∧ (((a0 < 0) → P0 d e) ∧ ((¬ a0 < 0) → ((((9 : Int) ≤ a0) → P0 d e) ∧ ((¬ (9 : Int) ≤ a0) → P1 d e)))))) : yB D xm_c174 (yQz L P1 P0) L 0 [.int (xJ a0)] [] d e := by
  refine yb_iload (x := a0) rfl rfl ?_
  have r1 := h.1
  replace h := h.2
  refine yb_if_lt (x := a0) rfl rfl r1 (fun c => ?_) (fun c => ?_)
  · replace h := h.1 c
    refine yb_push (v := 0) rfl ?_
    exact yb_ret0 rfl h
  · replace h := h.2 c
    refine yb_iload (x := a0) rfl rfl ?_
    refine yb_push (v := 9) rfl ?_
    refine yb_icmp_ge (x := a0) (y := (9 : Int)) rfl rfl r1 (by decide) (fun c => ?_) (fun c => ?_)
    · replace h := h.1 c
      refine yb_push (v := 0) rfl ?_
      exact yb_ret0 rfl h
    · replace h := h.2 c
      refine yb_push (v := 1) rfl ?_
      refine yb_goto rfl rfl ?_
      exact yb_ret1 rfl h
theorem sp_174 {D L : Nat} {P1 P0 : xh_D → xd_E → Prop} {d : xh_D} {e : xd_E} {a0 : Int} (hD : 1 ≤ D) (o : (-2147483648 ≤ a0 ∧ a0 < 2147483648)) (h1 : (0 ≤ a0 ∧ a0 ≤ 8) → P1 d e) (h0 : ¬ (0 ≤ a0 ∧ a0 ≤ 8) → P0 d e) : yZ D 174 L [.int (xJ a0)] d e P1 P0 := by
  refine yZ_of rfl rfl rfl (by omega) (yk_174_0 ?_)
  repeat' (first | apply And.intro | intro _)
  all_goals first
    | omega
    | exact h1 (by omega)
    | exact h0 (by omega)
theorem yk_175_0 {D L : Nat} {P1 P0 : xh_D → xd_E → Prop} {d : xh_D} {e : xd_E} {a0 : Int}   (h : ((-2147483648 ≤ a0 ∧ a0 < 2147483648) ∧ (((a0 < 0) → P0 d e) ∧ ((¬ a0 < 0) → ((((999 : Int) < a0) → P0 d e) ∧ ((¬ (999 : Int) < a0) → P1 d e)))))) : yB D xm_c175 (yQz L P1 P0) L 0 [.int (xJ a0)] [] d e := by
  refine yb_iload (x := a0) rfl rfl ?_
  have r1 := h.1
  replace h := h.2
  refine yb_if_lt (x := a0) rfl rfl r1 (fun c => ?_) (fun c => ?_)
  · replace h := h.1 c
    refine yb_push (v := 0) rfl ?_
    exact yb_ret0 rfl h
  · replace h := h.2 c
    refine yb_iload (x := a0) rfl rfl ?_
    refine yb_push (v := 999) rfl ?_
    refine yb_icmp_gt (x := a0) (y := (999 : Int)) rfl rfl r1 (by decide) (fun c => ?_) (fun c => ?_)
    · replace h := h.1 c
      refine yb_push (v := 0) rfl ?_
      exact yb_ret0 rfl h
    · replace h := h.2 c
      refine yb_push (v := 1) rfl ?_
      refine yb_goto rfl rfl ?_
      exact yb_ret1 rfl h
theorem sp_175 {D L : Nat} {P1 P0 : xh_D → xd_E → Prop} {d : xh_D} {e : xd_E} {a0 : Int} (hD : 1 ≤ D) (o : (-2147483648 ≤ a0 ∧ a0 < 2147483648)) (h1 : (0 ≤ a0 ∧ a0 ≤ 999) → P1 d e) (h0 : ¬ (0 ≤ a0 ∧ a0 ≤ 999) → P0 d e) : yZ D 175 L [.int (xJ a0)] d e P1 P0 := by
  refine yZ_of rfl rfl rfl (by omega) (yk_175_0 ?_)
  repeat' (first | apply And.intro | intro _)
  all_goals first
    | omega
    | exact h1 (by omega)
    | exact h0 (by omega)
theorem yk_123_0 {D L : Nat} {P : Int → xh_D → xd_E → Prop} {d : xh_D} {e : xd_E} {a0 : Int} {a1 : Int}   (hD : 1 ≤ D) (h : ((-2147483648 ≤ a0 ∧ a0 < 2147483648) ∧ (((a0 < 0 ∨ 5 < a0) → yB D xm_c123 (yQi L P) L 33 [.int (xJ a0), .int (xJ a1)] [] d e) ∧ (a0 = 0 → ((-2147483648 ≤ a1 ∧ a1 < 2147483648) ∧ P (xp_pia a1) d e)) ∧ (a0 = 1 → yB D xm_c123 (yQi L P) L 33 [.int (xJ a0), .int (xJ a1)] [] d e) ∧ (a0 = 2 → ((-2147483648 ≤ a1 ∧ a1 < 2147483648) ∧ (((97 ≤ a1 ∧ a1 ≤ 105) → P (4 : Int) d e) ∧ (¬ (97 ≤ a1 ∧ a1 ≤ 105) → P (-1 : Int) d e)))) ∧ (a0 = 3 → ((-2147483648 ≤ a1 ∧ a1 < 2147483648) ∧ (((97 ≤ a1 ∧ a1 ≤ 105) → P (5 : Int) d e) ∧ (¬ (97 ≤ a1 ∧ a1 ≤ 105) → P (-1 : Int) d e)))) ∧ (a0 = 4 → ((-2147483648 ≤ a1 ∧ a1 < 2147483648) ∧ (((48 ≤ a1 ∧ a1 ≤ 56) → P (6 : Int) d e) ∧ (¬ (48 ≤ a1 ∧ a1 ≤ 56) → P (-1 : Int) d e)))) ∧ (a0 = 5 → ((-2147483648 ≤ a1 ∧ a1 < 2147483648) ∧ (((97 ≤ a1 ∧ a1 ≤ 105) → P (6 : Int) d e) ∧ (¬ (97 ≤ a1 ∧ a1 ≤ 105) → P (-1 : Int) d e))))))) : yB D xm_c123 (yQi L P) L 0 [.int (xJ a0), .int (xJ a1)] [] d e := by
  refine yb_iload (x := a0) rfl rfl ?_
  have r1 := h.1
  replace h := h.2
  refine yb_table (x := a0) rfl rfl r1 (fun c => ?_) (fun c1 c2 => ?_)
  · replace h := h.1 c
    exact h
  · rcases (show a0 = 0 ∨ a0 = 1 ∨ a0 = 2 ∨ a0 = 3 ∨ a0 = 4 ∨ a0 = 5 by omega) with c | c | c | c | c | c
    · replace h := h.2.1 c
      refine ⟨_, by rw [c]; rfl, ?_⟩
      refine yb_iload (x := a1) rfl rfl ?_
      have r2 := h.1
      replace h := h.2
      refine yb_callSi (As := [.int (xJ a1)]) rfl rfl rfl rfl rfl rfl rfl rfl (by decide) (sp_124 (by omega) r2 ?_)
      show yB D xm_c123 _ L 4 [.int (xJ a0), .int (xJ a1)] [.int (xJ (xp_pia a1))] d e
      exact yb_ret rfl h
    · replace h := h.2.2.1 c
      refine ⟨_, by rw [c]; rfl, ?_⟩
      exact h
    · replace h := h.2.2.2.1 c
      refine ⟨_, by rw [c]; rfl, ?_⟩
      refine yb_iload (x := a1) rfl rfl ?_
      have r3 := h.1
      replace h := h.2
      refine yb_callSz (As := [.int (xJ a1)]) rfl rfl rfl rfl rfl rfl rfl rfl (by decide) (sp_171 (by omega) r3 (fun c => ?_) (fun c => ?_))
      · replace h := h.1 c
        show yB D xm_c123 _ L 7 [.int (xJ a0), .int (xJ a1)] [.int (xJ (1 : Int))] d e
        refine yb_if_eq (x := (1 : Int)) rfl rfl (by decide) (fun c => absurd c (by decide)) (fun _ => ?_)
        refine yb_push (v := 4) rfl ?_
        refine yb_goto rfl rfl ?_
        exact yb_ret rfl h
      · replace h := h.2 c
        show yB D xm_c123 _ L 7 [.int (xJ a0), .int (xJ a1)] [.int (xJ (0 : Int))] d e
        refine yb_if_eq (x := (0 : Int)) rfl rfl (by decide) (fun _ => ?_) (fun c => absurd (by decide) c)
        refine yb_push (v := (-1)) rfl ?_
        exact yb_ret rfl h
    · replace h := h.2.2.2.2.1 c
      refine ⟨_, by rw [c]; rfl, ?_⟩
      refine yb_iload (x := a1) rfl rfl ?_
      have r4 := h.1
      replace h := h.2
      refine yb_callSz (As := [.int (xJ a1)]) rfl rfl rfl rfl rfl rfl rfl rfl (by decide) (sp_171 (by omega) r4 (fun c => ?_) (fun c => ?_))
      · replace h := h.1 c
        show yB D xm_c123 _ L 14 [.int (xJ a0), .int (xJ a1)] [.int (xJ (1 : Int))] d e
        refine yb_if_eq (x := (1 : Int)) rfl rfl (by decide) (fun c => absurd c (by decide)) (fun _ => ?_)
        refine yb_push (v := 5) rfl ?_
        refine yb_goto rfl rfl ?_
        exact yb_ret rfl h
      · replace h := h.2 c
        show yB D xm_c123 _ L 14 [.int (xJ a0), .int (xJ a1)] [.int (xJ (0 : Int))] d e
        refine yb_if_eq (x := (0 : Int)) rfl rfl (by decide) (fun _ => ?_) (fun c => absurd (by decide) c)
        refine yb_push (v := (-1)) rfl ?_
        exact yb_ret rfl h
    · replace h := h.2.2.2.2.2.1 c
      refine ⟨_, by rw [c]; rfl, ?_⟩
      refine yb_iload (x := a1) rfl rfl ?_
      have r5 := h.1
      replace h := h.2
      refine yb_callSz (As := [.int (xJ a1)]) rfl rfl rfl rfl rfl rfl rfl rfl (by decide) (sp_170 (by omega) r5 (fun c => ?_) (fun c => ?_))
      · replace h := h.1 c
        show yB D xm_c123 _ L 21 [.int (xJ a0), .int (xJ a1)] [.int (xJ (1 : Int))] d e
        refine yb_if_eq (x := (1 : Int)) rfl rfl (by decide) (fun c => absurd c (by decide)) (fun _ => ?_)
        refine yb_push (v := 6) rfl ?_
        refine yb_goto rfl rfl ?_
        exact yb_ret rfl h
      · replace h := h.2 c
        show yB D xm_c123 _ L 21 [.int (xJ a0), .int (xJ a1)] [.int (xJ (0 : Int))] d e
        refine yb_if_eq (x := (0 : Int)) rfl rfl (by decide) (fun _ => ?_) (fun c => absurd (by decide) c)
        refine yb_push (v := (-1)) rfl ?_
        exact yb_ret rfl h
    · replace h := h.2.2.2.2.2.2 c
      refine ⟨_, by rw [c]; rfl, ?_⟩
      refine yb_iload (x := a1) rfl rfl ?_
      have r6 := h.1
      replace h := h.2
      refine yb_callSz (As := [.int (xJ a1)]) rfl rfl rfl rfl rfl rfl rfl rfl (by decide) (sp_171 (by omega) r6 (fun c => ?_) (fun c => ?_))
      · replace h := h.1 c
        show yB D xm_c123 _ L 28 [.int (xJ a0), .int (xJ a1)] [.int (xJ (1 : Int))] d e
        refine yb_if_eq (x := (1 : Int)) rfl rfl (by decide) (fun c => absurd c (by decide)) (fun _ => ?_)
        refine yb_push (v := 6) rfl ?_
        refine yb_goto rfl rfl ?_
        exact yb_ret rfl h
      · replace h := h.2 c
        show yB D xm_c123 _ L 28 [.int (xJ a0), .int (xJ a1)] [.int (xJ (0 : Int))] d e
        refine yb_if_eq (x := (0 : Int)) rfl rfl (by decide) (fun _ => ?_) (fun c => absurd (by decide) c)
        refine yb_push (v := (-1)) rfl ?_
        exact yb_ret rfl h
theorem yk_123_33 {D L : Nat} {P : Int → xh_D → xd_E → Prop} {d : xh_D} {e : xd_E}  {l0 : Int} {l1 : Int}  (h : ((-2147483648 ≤ l0 ∧ l0 < 2147483648) ∧ (((¬ l0 = (1 : Int)) → ((-2147483648 ≤ l1 ∧ l1 < 2147483648) ∧ (((¬ l1 = (59 : Int)) → P (-1 : Int) d e) ∧ ((l1 = (59 : Int)) → P (0 : Int) d e)))) ∧ ((l0 = (1 : Int)) → ((-2147483648 ≤ l1 ∧ l1 < 2147483648) ∧ (((l1 < (49 : Int)) → (((¬ l1 = (59 : Int)) → P (-1 : Int) d e) ∧ ((l1 = (59 : Int)) → P (0 : Int) d e))) ∧ ((¬ l1 < (49 : Int)) → ((((57 : Int) < l1) → (((¬ l1 = (59 : Int)) → P (-1 : Int) d e) ∧ ((l1 = (59 : Int)) → P (0 : Int) d e))) ∧ ((¬ (57 : Int) < l1) → P (6 : Int) d e))))))))) : yB D xm_c123 (yQi L P) L 33 [.int (xJ l0), .int (xJ l1)] [] d e := by
  refine yb_iload (x := l0) rfl rfl ?_
  refine yb_push (v := 1) rfl ?_
  have r1 := h.1
  replace h := h.2
  refine yb_icmp_ne (x := l0) (y := (1 : Int)) rfl rfl r1 (by decide) (fun c => ?_) (fun c => ?_)
  · replace h := h.1 c
    refine yb_iload (x := l1) rfl rfl ?_
    refine yb_push (v := 59) rfl ?_
    have r2 := h.1
    replace h := h.2
    refine yb_icmp_ne (x := l1) (y := (59 : Int)) rfl rfl r2 (by decide) (fun c => ?_) (fun c => ?_)
    · replace h := h.1 c
      refine yb_push (v := (-1)) rfl ?_
      exact yb_ret rfl h
    · replace h := h.2 c
      refine yb_push (v := 0) rfl ?_
      refine yb_goto rfl rfl ?_
      exact yb_ret rfl h
  · replace h := h.2 c
    refine yb_iload (x := l1) rfl rfl ?_
    refine yb_push (v := 49) rfl ?_
    have r3 := h.1
    replace h := h.2
    refine yb_icmp_lt (x := l1) (y := (49 : Int)) rfl rfl r3 (by decide) (fun c => ?_) (fun c => ?_)
    · replace h := h.1 c
      refine yb_iload (x := l1) rfl rfl ?_
      refine yb_push (v := 59) rfl ?_
      refine yb_icmp_ne (x := l1) (y := (59 : Int)) rfl rfl r3 (by decide) (fun c => ?_) (fun c => ?_)
      · replace h := h.1 c
        refine yb_push (v := (-1)) rfl ?_
        exact yb_ret rfl h
      · replace h := h.2 c
        refine yb_push (v := 0) rfl ?_
        refine yb_goto rfl rfl ?_
        exact yb_ret rfl h
    · replace h := h.2 c
      refine yb_iload (x := l1) rfl rfl ?_
      refine yb_push (v := 57) rfl ?_
      refine yb_icmp_gt (x := l1) (y := (57 : Int)) rfl rfl r3 (by decide) (fun c => ?_) (fun c => ?_)
      · replace h := h.1 c
        refine yb_iload (x := l1) rfl rfl ?_
        refine yb_push (v := 59) rfl ?_
        refine yb_icmp_ne (x := l1) (y := (59 : Int)) rfl rfl r3 (by decide) (fun c => ?_) (fun c => ?_)
        · replace h := h.1 c
          refine yb_push (v := (-1)) rfl ?_
          exact yb_ret rfl h
        · replace h := h.2 c
          refine yb_push (v := 0) rfl ?_
          refine yb_goto rfl rfl ?_
          exact yb_ret rfl h
      · replace h := h.2 c
        refine yb_push (v := 6) rfl ?_
        exact yb_ret rfl h
theorem sp_123 {D L : Nat} {P : Int → xh_D → xd_E → Prop} {d : xh_D} {e : xd_E} {a0 a1 : Int} (hD : 2 ≤ D) (o : (-2147483648 ≤ a0 ∧ a0 < 2147483648) ∧ (-2147483648 ≤ a1 ∧ a1 < 2147483648)) (h : P (xp_pb a0 a1) d e) : yC D 123 L [.int (xJ a0), .int (xJ a1)] d e P := by
  refine yC_of rfl rfl rfl (by omega) (yk_123_0 (by omega) ?_)
  have hb : ¬ a0 = 0 → ¬ a0 = 2 → ¬ a0 = 3 → ¬ a0 = 4 → ¬ a0 = 5 → yB (D - 1) xm_c123 (yQi L P) L 33 [.int (xJ a0), .int (xJ a1)] [] d e := by
    intro h0 h2 h3 h4 h5
    refine yk_123_33 ?_
    repeat' (first | apply And.intro | intro _)
    all_goals first
      | omega
      | (refine cast ?_ h; congr 1; unfold xp_pb; (repeat' split) <;> omega)
  repeat' (first | apply And.intro | intro _)
  all_goals first
    | omega
    | (apply hb <;> omega)
    | (refine cast ?_ h; congr 1; unfold xp_pb; (repeat' split) <;> first | rfl | omega)
theorem yk_162_0 {D L : Nat} {P : Int → xh_D → xd_E → Prop} {d : xh_D} {e : xd_E} {a0 : Int} {a1 : Int}   (hD : 1 ≤ D) (h : P ((xp_bc a0) + (xp_bc (xi_and a0 (xi_xor a1 (-1 : Int))))) d e) : yB D xm_c162 (yQi L P) L 0 [.int (xJ a0), .int (xJ a1)] [] d e := by
  refine yb_iload (x := a0) rfl rfl ?_
  refine yb_callSi (As := [.int (xJ a0)]) rfl rfl rfl rfl rfl rfl rfl rfl (by decide) (sp_0 (by omega) ?_)
  show yB D xm_c162 _ L 2 [.int (xJ a0), .int (xJ a1)] [.int (xJ (xp_bc a0))] d e
  refine yb_iload (x := a0) rfl rfl ?_
  refine yb_iload (x := a1) rfl rfl ?_
  refine yb_push (v := (-1)) rfl ?_
  refine yb_ixor (x := a1) (y := (-1 : Int)) rfl ?_
  refine yb_iand (x := a0) (y := (xi_xor a1 (-1 : Int))) rfl ?_
  refine yb_callSi (As := [.int (xJ (xi_and a0 (xi_xor a1 (-1 : Int))))]) rfl rfl rfl rfl rfl rfl rfl rfl (by show (1 : Nat) ≤ 8; decide) (sp_0 (by omega) ?_)
  show yB D xm_c162 _ L 8 [.int (xJ a0), .int (xJ a1)] [.int (xJ (xp_bc (xi_and a0 (xi_xor a1 (-1 : Int))))), .int (xJ (xp_bc a0))] d e
  refine yb_iadd (x := (xp_bc a0)) (y := (xp_bc (xi_and a0 (xi_xor a1 (-1 : Int))))) rfl ?_
  exact yb_ret rfl h
theorem sp_162 {D L : Nat} {P : Int → xh_D → xd_E → Prop} {d : xh_D} {e : xd_E} {a0 a1 : Int} (hD : 2 ≤ D) (h : P (xp_bc a0 + xp_bc (xi_and a0 (xi_xor a1 (-1 : Int)))) d e) : yC D 162 L [.int (xJ a0), .int (xJ a1)] d e P := by
  refine yC_of rfl rfl rfl (by omega) (yk_162_0 (by omega) ?_)
  exact h
theorem yk_165_0 {D L : Nat} {P : Int → xh_D → xd_E → Prop} {d : xh_D} {e : xd_E} {a0 : Int}   (h : P ((a0 * (1103515245 : Int)) + (12345 : Int)) d e) : yB D xm_c165 (yQi L P) L 0 [.int (xJ a0)] [] d e := by
  refine yb_iload (x := a0) rfl rfl ?_
  refine yb_push (v := 1103515245) rfl ?_
  refine yb_imul (x := a0) (y := (1103515245 : Int)) rfl ?_
  refine yb_push (v := 12345) rfl ?_
  refine yb_iadd (x := (a0 * (1103515245 : Int))) (y := (12345 : Int)) rfl ?_
  exact yb_ret rfl h
theorem sp_165 {D L : Nat} {P : Int → xh_D → xd_E → Prop} {d : xh_D} {e : xd_E} {a0 : Int} (hD : 1 ≤ D) (h : P (a0 * 1103515245 + 12345) d e) : yC D 165 L [.int (xJ a0)] d e P := by
  refine yC_of rfl rfl rfl (by omega) (yk_165_0 ?_)
  exact h
theorem yk_176_0 {D L : Nat} {P : Int → xh_D → xd_E → Prop} {d : xh_D} {e : xd_E} {a0 : Int} {a1 : Int}   (hD : 1 ≤ D) (h : ((-2147483648 ≤ a0 ∧ a0 < 2147483648) ∧ ((-2147483648 ≤ a1 ∧ a1 < 2147483648) ∧ P (max (0 : Int) (min a0 a1)) d e))) : yB D xm_c176 (yQi L P) L 0 [.int (xJ a0), .int (xJ a1)] [] d e := by
  refine yb_push (v := 0) rfl ?_
  refine yb_iload (x := a0) rfl rfl ?_
  refine yb_iload (x := a1) rfl rfl ?_
  have r1 := h.1
  replace h := h.2
  have r2 := h.1
  replace h := h.2
  refine yb_callSi (As := [.int (xJ a0), .int (xJ a1)]) rfl rfl rfl rfl rfl rfl rfl rfl (by show (1 : Nat) ≤ 8; decide) (sp_5 (by omega) ⟨r1, r2⟩ ?_)
  show yB D xm_c176 _ L 4 [.int (xJ a0), .int (xJ a1)] [.int (xJ (min a0 a1)), .int (xJ (0 : Int))] d e
  refine yb_callSi (As := [.int (xJ (0 : Int)), .int (xJ (min a0 a1))]) rfl rfl rfl rfl rfl rfl rfl rfl (by decide) (sp_4 (by omega) ⟨(by decide), (by omega)⟩ ?_)
  show yB D xm_c176 _ L 5 [.int (xJ a0), .int (xJ a1)] [.int (xJ (max (0 : Int) (min a0 a1)))] d e
  exact yb_ret rfl h
theorem sp_176 {D L : Nat} {P : Int → xh_D → xd_E → Prop} {d : xh_D} {e : xd_E} {a0 a1 : Int} (hD : 2 ≤ D) (o : (-2147483648 ≤ a0 ∧ a0 < 2147483648) ∧ (-2147483648 ≤ a1 ∧ a1 < 2147483648)) (h : P (max 0 (min a0 a1)) d e) : yC D 176 L [.int (xJ a0), .int (xJ a1)] d e P := by
  refine yC_of rfl rfl rfl (by omega) (yk_176_0 (by omega) ?_)
  exact ⟨by omega, by omega, h⟩
theorem yk_177_0 {D L : Nat} {P : Int → xh_D → xd_E → Prop} {d : xh_D} {e : xd_E} {a0 : Int} {a1 : Int}   (hD : 1 ≤ D) (h : ((-2147483648 < (a0 - a1) ∧ (a0 - a1) < 2147483648) ∧ ((-2147483648 ≤ ((9 : Int) - (max (a0 - a1) (-(a0 - a1)))) ∧ ((9 : Int) - (max (a0 - a1) (-(a0 - a1)))) < 2147483648) ∧ P (min (max (a0 - a1) (-(a0 - a1))) ((9 : Int) - (max (a0 - a1) (-(a0 - a1))))) d e))) : yB D xm_c177 (yQi L P) L 0 [.int (xJ a0), .int (xJ a1), .double 0] [] d e := by
  refine yb_iload (x := a0) rfl rfl ?_
  refine yb_iload (x := a1) rfl rfl ?_
  refine yb_isub (x := a0) (y := a1) rfl ?_
  have r1 := h.1
  replace h := h.2
  refine yb_callSi (As := [.int (xJ (a0 - a1))]) rfl rfl rfl rfl rfl rfl rfl rfl (by decide) (sp_2 (by omega) r1 ?_)
  show yB D xm_c177 _ L 4 [.int (xJ a0), .int (xJ a1), .double 0] [.int (xJ (max (a0 - a1) (-(a0 - a1))))] d e
  refine yb_istore rfl rfl rfl ?_
  refine yb_iload (x := (max (a0 - a1) (-(a0 - a1)))) rfl rfl ?_
  refine yb_push (v := 9) rfl ?_
  refine yb_iload (x := (max (a0 - a1) (-(a0 - a1)))) rfl rfl ?_
  refine yb_isub (x := (9 : Int)) (y := (max (a0 - a1) (-(a0 - a1)))) rfl ?_
  have r2 := h.1
  replace h := h.2
  refine yb_callSi (As := [.int (xJ (max (a0 - a1) (-(a0 - a1)))), .int (xJ ((9 : Int) - (max (a0 - a1) (-(a0 - a1)))))]) rfl rfl rfl rfl rfl rfl rfl rfl (by decide) (sp_5 (by omega) ⟨(by omega), r2⟩ ?_)
  show yB D xm_c177 _ L 10 [.int (xJ a0), .int (xJ a1), .int (xJ (max (a0 - a1) (-(a0 - a1))))] [.int (xJ (min (max (a0 - a1) (-(a0 - a1))) ((9 : Int) - (max (a0 - a1) (-(a0 - a1))))))] d e
  exact yb_ret rfl h
theorem sp_177 {D L : Nat} {P : Int → xh_D → xd_E → Prop} {d : xh_D} {e : xd_E} {a0 a1 : Int} (hD : 2 ≤ D) (o : (0 ≤ a0 ∧ a0 < 9) ∧ (0 ≤ a1 ∧ a1 < 9)) (h : P (xp_apart a0 a1) d e) : yC D 177 L [.int (xJ a0), .int (xJ a1)] d e P := by
  refine yC_of rfl rfl rfl (by omega) (yk_177_0 (by omega) ?_)
  exact ⟨by omega, by omega, h⟩
theorem yk_180_0 {D L : Nat} {P1 P0 : xh_D → xd_E → Prop} {d : xh_D} {e : xd_E} {a0 : Int} {a1 : Int} {a2 : Int}   (h : ((-2147483648 ≤ a0 ∧ a0 < 2147483648) ∧ ((-2147483648 ≤ a1 ∧ a1 < 2147483648) ∧ (((a0 < a1) → P0 d e) ∧ ((¬ a0 < a1) → ((-2147483648 ≤ a2 ∧ a2 < 2147483648) ∧ (((a2 < a0) → P0 d e) ∧ ((¬ a2 < a0) → P1 d e)))))))) : yB D xm_c180 (yQz L P1 P0) L 0 [.int (xJ a0), .int (xJ a1), .int (xJ a2)] [] d e := by
  refine yb_iload (x := a0) rfl rfl ?_
  refine yb_iload (x := a1) rfl rfl ?_
  have r1 := h.1
  replace h := h.2
  have r2 := h.1
  replace h := h.2
  refine yb_icmp_lt (x := a0) (y := a1) rfl rfl r1 r2 (fun c => ?_) (fun c => ?_)
  · replace h := h.1 c
    refine yb_push (v := 0) rfl ?_
    exact yb_ret0 rfl h
  · replace h := h.2 c
    refine yb_iload (x := a0) rfl rfl ?_
    refine yb_iload (x := a2) rfl rfl ?_
    have r3 := h.1
    replace h := h.2
    refine yb_icmp_gt (x := a0) (y := a2) rfl rfl r1 r3 (fun c => ?_) (fun c => ?_)
    · replace h := h.1 c
      refine yb_push (v := 0) rfl ?_
      exact yb_ret0 rfl h
    · replace h := h.2 c
      refine yb_push (v := 1) rfl ?_
      refine yb_goto rfl rfl ?_
      exact yb_ret1 rfl h
theorem sp_180 {D L : Nat} {P1 P0 : xh_D → xd_E → Prop} {d : xh_D} {e : xd_E} {a0 a1 a2 : Int} (hD : 1 ≤ D) (o : (-2147483648 ≤ a0 ∧ a0 < 2147483648) ∧ (-2147483648 ≤ a1 ∧ a1 < 2147483648) ∧ (-2147483648 ≤ a2 ∧ a2 < 2147483648)) (h1 : (a1 ≤ a0 ∧ a0 ≤ a2) → P1 d e) (h0 : ¬ (a1 ≤ a0 ∧ a0 ≤ a2) → P0 d e) : yZ D 180 L [.int (xJ a0), .int (xJ a1), .int (xJ a2)] d e P1 P0 := by
  refine yZ_of rfl rfl rfl (by omega) (yk_180_0 ?_)
  repeat' (first | apply And.intro | intro _)
  all_goals first
    | omega
    | exact h1 (by omega)
    | exact h0 (by omega)
theorem yk_181_0 {D L : Nat} {P1 P0 : xh_D → xd_E → Prop} {d : xh_D} {e : xd_E} {a0 : Int} {a1 : Int}   (h : (((¬ (xi_and (xi_shr a0 a1) (1 : Int)) = (1 : Int)) → P0 d e) ∧ (((xi_and (xi_shr a0 a1) (1 : Int)) = (1 : Int)) → P1 d e))) : yB D xm_c181 (yQz L P1 P0) L 0 [.int (xJ a0), .int (xJ a1)] [] d e := by
  refine yb_iload (x := a0) rfl rfl ?_
  refine yb_iload (x := a1) rfl rfl ?_
  refine yb_ishr (x := a0) (y := a1) rfl ?_
  refine yb_push (v := 1) rfl ?_
  refine yb_iand (x := (xi_shr a0 a1)) (y := (1 : Int)) rfl ?_
  refine yb_push (v := 1) rfl ?_
  refine yb_icmp_ne (x := (xi_and (xi_shr a0 a1) (1 : Int))) (y := (1 : Int)) rfl rfl (xJ_rng _) (by decide) (fun c => ?_) (fun c => ?_)
  · replace h := h.1 c
    refine yb_push (v := 0) rfl ?_
    exact yb_ret0 rfl h
  · replace h := h.2 c
    refine yb_push (v := 1) rfl ?_
    refine yb_goto rfl rfl ?_
    exact yb_ret1 rfl h
theorem sp_181 {D L : Nat} {P1 P0 : xh_D → xd_E → Prop} {d : xh_D} {e : xd_E} {a0 a1 : Int} (hD : 1 ≤ D) (h1 : (xi_and (xi_shr a0 a1) (1 : Int) = 1) → P1 d e) (h0 : ¬ (xi_and (xi_shr a0 a1) (1 : Int) = 1) → P0 d e) : yZ D 181 L [.int (xJ a0), .int (xJ a1)] d e P1 P0 := by
  refine yZ_of rfl rfl rfl (by omega) (yk_181_0 ?_)
  exact ⟨h0, h1⟩
theorem yk_186_0 {D L : Nat} {P1 P0 : xh_D → xd_E → Prop} {d : xh_D} {e : xd_E} {a0 : Int}   (hD : 1 ≤ D) (h : ((-2147483648 ≤ a0 ∧ a0 < 2147483648) ∧ ((((0 : Int) ≤ a0 ∧ a0 ≤ (8 : Int)) → P1 d e) ∧ (¬ ((0 : Int) ≤ a0 ∧ a0 ≤ (8 : Int)) → P0 d e)))) : yB D xm_c186 (yQz L P1 P0) L 0 [.int (xJ a0)] [] d e := by
  refine yb_iload (x := a0) rfl rfl ?_
  refine yb_push (v := 0) rfl ?_
  refine yb_push (v := 8) rfl ?_
  have r1 := h.1
  replace h := h.2
  refine yb_callSz (As := [.int (xJ a0), .int (xJ (0 : Int)), .int (xJ (8 : Int))]) rfl rfl rfl rfl rfl rfl rfl rfl (by decide) (sp_180 (by omega) ⟨r1, (by decide), (by decide)⟩ (fun c => ?_) (fun c => ?_))
  · replace h := h.1 c
    show yB D xm_c186 _ L 4 [.int (xJ a0)] [.int (xJ (1 : Int))] d e
    exact yb_ret1 rfl h
  · replace h := h.2 c
    show yB D xm_c186 _ L 4 [.int (xJ a0)] [.int (xJ (0 : Int))] d e
    exact yb_ret0 rfl h
theorem sp_186 {D L : Nat} {P1 P0 : xh_D → xd_E → Prop} {d : xh_D} {e : xd_E} {a0 : Int} (hD : 2 ≤ D) (o : (-2147483648 ≤ a0 ∧ a0 < 2147483648)) (h1 : (0 ≤ a0 ∧ a0 ≤ 8) → P1 d e) (h0 : ¬ (0 ≤ a0 ∧ a0 ≤ 8) → P0 d e) : yZ D 186 L [.int (xJ a0)] d e P1 P0 := by
  refine yZ_of rfl rfl rfl (by omega) (yk_186_0 (by omega) ?_)
  exact ⟨by omega, h1, h0⟩
theorem yk_208_0 {D L : Nat} {P : Int → xh_D → xd_E → Prop} {d : xh_D} {e : xd_E} {a0 : Int} {a1 : Int}   (hD : 1 ≤ D) (h : ((-2147483648 < (a0 - a1) ∧ (a0 - a1) < 2147483648) ∧ ((-2147483648 ≤ ((9 : Int) - (max (a0 - a1) (-(a0 - a1)))) ∧ ((9 : Int) - (max (a0 - a1) (-(a0 - a1)))) < 2147483648) ∧ P (min (max (a0 - a1) (-(a0 - a1))) ((9 : Int) - (max (a0 - a1) (-(a0 - a1))))) d e))) : yB D xm_c208 (yQi L P) L 0 [.int (xJ a0), .int (xJ a1), .double 0] [] d e := by
  refine yb_iload (x := a0) rfl rfl ?_
  refine yb_iload (x := a1) rfl rfl ?_
  refine yb_isub (x := a0) (y := a1) rfl ?_
  have r1 := h.1
  replace h := h.2
  refine yb_callSi (As := [.int (xJ (a0 - a1))]) rfl rfl rfl rfl rfl rfl rfl rfl (by decide) (sp_2 (by omega) r1 ?_)
  show yB D xm_c208 _ L 4 [.int (xJ a0), .int (xJ a1), .double 0] [.int (xJ (max (a0 - a1) (-(a0 - a1))))] d e
  refine yb_istore rfl rfl rfl ?_
  refine yb_iload (x := (max (a0 - a1) (-(a0 - a1)))) rfl rfl ?_
  refine yb_push (v := 9) rfl ?_
  refine yb_iload (x := (max (a0 - a1) (-(a0 - a1)))) rfl rfl ?_
  refine yb_isub (x := (9 : Int)) (y := (max (a0 - a1) (-(a0 - a1)))) rfl ?_
  have r2 := h.1
  replace h := h.2
  refine yb_callSi (As := [.int (xJ (max (a0 - a1) (-(a0 - a1)))), .int (xJ ((9 : Int) - (max (a0 - a1) (-(a0 - a1)))))]) rfl rfl rfl rfl rfl rfl rfl rfl (by decide) (sp_5 (by omega) ⟨(by omega), r2⟩ ?_)
  show yB D xm_c208 _ L 10 [.int (xJ a0), .int (xJ a1), .int (xJ (max (a0 - a1) (-(a0 - a1))))] [.int (xJ (min (max (a0 - a1) (-(a0 - a1))) ((9 : Int) - (max (a0 - a1) (-(a0 - a1))))))] d e
  exact yb_ret rfl h
theorem sp_208 {D L : Nat} {P : Int → xh_D → xd_E → Prop} {d : xh_D} {e : xd_E} {a0 a1 : Int} (hD : 2 ≤ D) (o : (0 ≤ a0 ∧ a0 < 9) ∧ (0 ≤ a1 ∧ a1 < 9)) (h : P (xp_apart a0 a1) d e) : yC D 208 L [.int (xJ a0), .int (xJ a1)] d e P := by
  refine yC_of rfl rfl rfl (by omega) (yk_208_0 (by omega) ?_)
  exact ⟨by omega, by omega, h⟩
end
section
/-! SMALL METHODS over the memory. -/
theorem yk_21_0 {D L : Nat} {P1 P0 : xh_D → xd_E → Prop} {d : xh_D} {e : xd_E} {a1 : Int}   (h : ((-2147483648 ≤ a1 ∧ a1 < 2147483648) ∧ (((a1 < 0) → P0 d e) ∧ ((¬ a1 < 0) → ((-2147483648 ≤ (d 6 (4 : Int)) ∧ (d 6 (4 : Int)) < 2147483648) ∧ ((((d 6 (4 : Int)) ≤ a1) → P0 d e) ∧ ((¬ (d 6 (4 : Int)) ≤ a1) → P1 d e))))))) : yB D xm_c21 (yQz L P1 P0) L 0 [.ref 6, .int (xJ a1)] [] d e := by
  refine yb_iload (x := a1) rfl rfl ?_
  have r1 := h.1
  replace h := h.2
  refine yb_if_lt (x := a1) rfl rfl r1 (fun c => ?_) (fun c => ?_)
  · replace h := h.1 c
    refine yb_push (v := 0) rfl ?_
    exact yb_ret0 rfl h
  · replace h := h.2 c
    refine yb_iload (x := a1) rfl rfl ?_
    refine yb_aload rfl rfl ?_
    refine yb_get (v := .int (xJ (d 6 (4 : Int)))) rfl (by decide) (by decide) (rfl) rfl ?_
    have r2 := h.1
    replace h := h.2
    refine yb_icmp_ge (x := a1) (y := (d 6 (4 : Int))) rfl rfl r1 r2 (fun c => ?_) (fun c => ?_)
    · replace h := h.1 c
      refine yb_push (v := 0) rfl ?_
      exact yb_ret0 rfl h
    · replace h := h.2 c
      refine yb_push (v := 1) rfl ?_
      refine yb_goto rfl rfl ?_
      exact yb_ret1 rfl h
theorem sp_21 {D L : Nat} {P1 P0 : xh_D → xd_E → Prop} {d : xh_D} {e : xd_E} {a0 : Int} (hD : 1 ≤ D) (o : (-2147483648 ≤ a0 ∧ a0 < 2147483648) ∧ (-2147483648 ≤ (d 6 (4 : Int)) ∧ (d 6 (4 : Int)) < 2147483648)) (h1 : (0 ≤ a0 ∧ a0 < (d 6 (4 : Int))) → P1 d e) (h0 : ¬ (0 ≤ a0 ∧ a0 < (d 6 (4 : Int))) → P0 d e) : yZ D 21 L [.ref 6, .int (xJ a0)] d e P1 P0 := by
  refine yZ_of rfl rfl rfl (by omega) (yk_21_0 ?_)
  repeat' (first | apply And.intro | intro _)
  all_goals first
    | omega
    | exact h1 (by omega)
    | exact h0 (by omega)
theorem yk_22_0 {D L : Nat} {P1 P0 : xh_D → xd_E → Prop} {d : xh_D} {e : xd_E} {a1 : Int} {a2 : Int}   (hD : 1 ≤ D) (h : ((-2147483648 ≤ a1 ∧ a1 < 2147483648) ∧ ((-2147483648 ≤ (d 6 (4 : Int)) ∧ (d 6 (4 : Int)) < 2147483648) ∧ (((0 ≤ a1 ∧ a1 < (d 6 (4 : Int))) → ((-2147483648 ≤ a2 ∧ a2 < 2147483648) ∧ (((0 ≤ a2 ∧ a2 < (d 6 (4 : Int))) → (((a1 = a2) → P0 d e) ∧ ((¬ a1 = a2) → P1 d e))) ∧ (¬ (0 ≤ a2 ∧ a2 < (d 6 (4 : Int))) → P0 d e)))) ∧ (¬ (0 ≤ a1 ∧ a1 < (d 6 (4 : Int))) → P0 d e))))) : yB D xm_c22 (yQz L P1 P0) L 0 [.ref 6, .int (xJ a1), .int (xJ a2)] [] d e := by
  refine yb_aload rfl rfl ?_
  refine yb_iload (x := a1) rfl rfl ?_
  have r1 := h.1
  replace h := h.2
  have r2 := h.1
  replace h := h.2
  refine yb_callVz (As := [.int (xJ a1)]) (a := 6) rfl rfl rfl rfl rfl rfl rfl rfl (by decide) (by decide) (rfl) (by decide) (sp_21 (by omega) ⟨r1, r2⟩ (fun c => ?_) (fun c => ?_))
  · replace h := h.1 c
    show yB D xm_c22 _ L 3 [.ref 6, .int (xJ a1), .int (xJ a2)] [.int (xJ (1 : Int))] d e
    refine yb_if_eq (x := (1 : Int)) rfl rfl (by decide) (fun c => absurd c (by decide)) (fun _ => ?_)
    refine yb_aload rfl rfl ?_
    refine yb_iload (x := a2) rfl rfl ?_
    have r3 := h.1
    replace h := h.2
    refine yb_callVz (As := [.int (xJ a2)]) (a := 6) rfl rfl rfl rfl rfl rfl rfl rfl (by decide) (by decide) (rfl) (by decide) (sp_21 (by omega) ⟨r3, r2⟩ (fun c => ?_) (fun c => ?_))
    · replace h := h.1 c
      show yB D xm_c22 _ L 7 [.ref 6, .int (xJ a1), .int (xJ a2)] [.int (xJ (1 : Int))] d e
      refine yb_if_eq (x := (1 : Int)) rfl rfl (by decide) (fun c => absurd c (by decide)) (fun _ => ?_)
      refine yb_iload (x := a1) rfl rfl ?_
      refine yb_iload (x := a2) rfl rfl ?_
      refine yb_icmp_eq (x := a1) (y := a2) rfl rfl r1 r3 (fun c => ?_) (fun c => ?_)
      · replace h := h.1 c
        refine yb_push (v := 0) rfl ?_
        exact yb_ret0 rfl h
      · replace h := h.2 c
        refine yb_push (v := 1) rfl ?_
        refine yb_goto rfl rfl ?_
        exact yb_ret1 rfl h
    · replace h := h.2 c
      show yB D xm_c22 _ L 7 [.ref 6, .int (xJ a1), .int (xJ a2)] [.int (xJ (0 : Int))] d e
      refine yb_if_eq (x := (0 : Int)) rfl rfl (by decide) (fun _ => ?_) (fun c => absurd (by decide) c)
      refine yb_push (v := 0) rfl ?_
      exact yb_ret0 rfl h
  · replace h := h.2 c
    show yB D xm_c22 _ L 3 [.ref 6, .int (xJ a1), .int (xJ a2)] [.int (xJ (0 : Int))] d e
    refine yb_if_eq (x := (0 : Int)) rfl rfl (by decide) (fun _ => ?_) (fun c => absurd (by decide) c)
    refine yb_push (v := 0) rfl ?_
    exact yb_ret0 rfl h
theorem sp_22 {D L : Nat} {P1 P0 : xh_D → xd_E → Prop} {d : xh_D} {e : xd_E} {a0 a1 : Int} (hD : 2 ≤ D) (o : (-2147483648 ≤ a0 ∧ a0 < 2147483648) ∧ (-2147483648 ≤ a1 ∧ a1 < 2147483648) ∧ (-2147483648 ≤ (d 6 (4 : Int)) ∧ (d 6 (4 : Int)) < 2147483648)) (h1 : ((0 ≤ a0 ∧ a0 < (d 6 (4 : Int))) ∧ (0 ≤ a1 ∧ a1 < (d 6 (4 : Int))) ∧ ¬ a0 = a1) → P1 d e) (h0 : ¬ ((0 ≤ a0 ∧ a0 < (d 6 (4 : Int))) ∧ (0 ≤ a1 ∧ a1 < (d 6 (4 : Int))) ∧ ¬ a0 = a1) → P0 d e) : yZ D 22 L [.ref 6, .int (xJ a0), .int (xJ a1)] d e P1 P0 := by
  refine yZ_of rfl rfl rfl (by omega) (yk_22_0 (by omega) ?_)
  repeat' (first | apply And.intro | intro _)
  all_goals first
    | omega
    | exact h1 (by omega)
    | exact h0 (by omega)
theorem yk_54_11_0 {D L : Nat} {P1 P0 : xh_D → xd_E → Prop} {d : xh_D} {e : xd_E} {a1 : Int} {a2 : Int}   (h : ((0 ≤ a1 ∧ a1 < 9) ∧ ((((xi_and (xi_shr (d 14 a1) a2) (1 : Int)) = 0) → P0 d e) ∧ ((¬ (xi_and (xi_shr (d 14 a1) a2) (1 : Int)) = 0) → P1 d e)))) : yB D xm_c54 (yQz L P1 P0) L 0 [.ref 11, .int (xJ a1), .int (xJ a2)] [] d e := by
  refine yb_aload rfl rfl ?_
  refine yb_get (v := .ref 14) rfl (by decide) (by decide) (rfl) rfl ?_
  refine yb_iload (x := a1) rfl rfl ?_
  have r1 := h.1
  replace h := h.2
  refine yb_iald (j := a1) rfl xd_A14 (by decide) r1 (v := (d 14 a1)) rfl ?_
  refine yb_iload (x := a2) rfl rfl ?_
  refine yb_ishr (x := (d 14 a1)) (y := a2) rfl ?_
  refine yb_push (v := 1) rfl ?_
  refine yb_iand (x := (xi_shr (d 14 a1) a2)) (y := (1 : Int)) rfl ?_
  refine yb_if_eq (x := (xi_and (xi_shr (d 14 a1) a2) (1 : Int))) rfl rfl (xJ_rng _) (fun c => ?_) (fun c => ?_)
  · replace h := h.1 c
    refine yb_push (v := 0) rfl ?_
    exact yb_ret0 rfl h
  · replace h := h.2 c
    refine yb_push (v := 1) rfl ?_
    refine yb_goto rfl rfl ?_
    exact yb_ret1 rfl h
theorem sp_54_11 {D L : Nat} {P1 P0 : xh_D → xd_E → Prop} {d : xh_D} {e : xd_E} {a0 a1 : Int} (hD : 1 ≤ D) (o : (0 ≤ a0 ∧ a0 < 9)) (h1 : (¬ xi_and (xi_shr (d 14 a0) a1) (1 : Int) = 0) → P1 d e) (h0 : ¬ (¬ xi_and (xi_shr (d 14 a0) a1) (1 : Int) = 0) → P0 d e) : yZ D 54 L [.ref 11, .int (xJ a0), .int (xJ a1)] d e P1 P0 := by
  refine yZ_of rfl rfl rfl (by omega) (yk_54_11_0 ?_)
  exact ⟨o, fun c => h0 (fun q => q c), h1⟩
theorem yk_54_17_0 {D L : Nat} {P1 P0 : xh_D → xd_E → Prop} {d : xh_D} {e : xd_E} {a1 : Int} {a2 : Int}   (h : ((0 ≤ a1 ∧ a1 < 9) ∧ ((((xi_and (xi_shr (d 20 a1) a2) (1 : Int)) = 0) → P0 d e) ∧ ((¬ (xi_and (xi_shr (d 20 a1) a2) (1 : Int)) = 0) → P1 d e)))) : yB D xm_c54 (yQz L P1 P0) L 0 [.ref 17, .int (xJ a1), .int (xJ a2)] [] d e := by
  refine yb_aload rfl rfl ?_
  refine yb_get (v := .ref 20) rfl (by decide) (by decide) (rfl) rfl ?_
  refine yb_iload (x := a1) rfl rfl ?_
  have r1 := h.1
  replace h := h.2
  refine yb_iald (j := a1) rfl xd_A20 (by decide) r1 (v := (d 20 a1)) rfl ?_
  refine yb_iload (x := a2) rfl rfl ?_
  refine yb_ishr (x := (d 20 a1)) (y := a2) rfl ?_
  refine yb_push (v := 1) rfl ?_
  refine yb_iand (x := (xi_shr (d 20 a1) a2)) (y := (1 : Int)) rfl ?_
  refine yb_if_eq (x := (xi_and (xi_shr (d 20 a1) a2) (1 : Int))) rfl rfl (xJ_rng _) (fun c => ?_) (fun c => ?_)
  · replace h := h.1 c
    refine yb_push (v := 0) rfl ?_
    exact yb_ret0 rfl h
  · replace h := h.2 c
    refine yb_push (v := 1) rfl ?_
    refine yb_goto rfl rfl ?_
    exact yb_ret1 rfl h
theorem sp_54_17 {D L : Nat} {P1 P0 : xh_D → xd_E → Prop} {d : xh_D} {e : xd_E} {a0 a1 : Int} (hD : 1 ≤ D) (o : (0 ≤ a0 ∧ a0 < 9)) (h1 : (¬ xi_and (xi_shr (d 20 a0) a1) (1 : Int) = 0) → P1 d e) (h0 : ¬ (¬ xi_and (xi_shr (d 20 a0) a1) (1 : Int) = 0) → P0 d e) : yZ D 54 L [.ref 17, .int (xJ a0), .int (xJ a1)] d e P1 P0 := by
  refine yZ_of rfl rfl rfl (by omega) (yk_54_17_0 ?_)
  exact ⟨o, fun c => h0 (fun q => q c), h1⟩
theorem yk_73_0 {D L : Nat} {P1 P0 : xh_D → xd_E → Prop} {d : xh_D} {e : xd_E} {a1 : Int}   (h : ((-2147483648 ≤ ((d 2 (1 : Int)) + a1) ∧ ((d 2 (1 : Int)) + a1) < 2147483648) ∧ ((((80 : Int) < ((d 2 (1 : Int)) + a1)) → P0 d e) ∧ ((¬ (80 : Int) < ((d 2 (1 : Int)) + a1)) → P1 d e)))) : yB D xm_c73 (yQz L P1 P0) L 0 [.ref 2, .int (xJ a1)] [] d e := by
  refine yb_aload rfl rfl ?_
  refine yb_get (v := .int (xJ (d 2 (1 : Int)))) rfl (by decide) (by decide) (rfl) rfl ?_
  refine yb_iload (x := a1) rfl rfl ?_
  refine yb_iadd (x := (d 2 (1 : Int))) (y := a1) rfl ?_
  refine yb_push (v := 80) rfl ?_
  have r1 := h.1
  replace h := h.2
  refine yb_icmp_gt (x := ((d 2 (1 : Int)) + a1)) (y := (80 : Int)) rfl rfl r1 (by decide) (fun c => ?_) (fun c => ?_)
  · replace h := h.1 c
    refine yb_push (v := 0) rfl ?_
    exact yb_ret0 rfl h
  · replace h := h.2 c
    refine yb_push (v := 1) rfl ?_
    refine yb_goto rfl rfl ?_
    exact yb_ret1 rfl h
theorem sp_73 {D L : Nat} {P1 P0 : xh_D → xd_E → Prop} {d : xh_D} {e : xd_E} {a0 : Int} (hD : 1 ≤ D) (o : (-2147483648 ≤ ((d 2 (1 : Int)) + a0) ∧ ((d 2 (1 : Int)) + a0) < 2147483648)) (h1 : ((d 2 (1 : Int)) + a0 ≤ 80) → P1 d e) (h0 : ¬ ((d 2 (1 : Int)) + a0 ≤ 80) → P0 d e) : yZ D 73 L [.ref 2, .int (xJ a0)] d e P1 P0 := by
  refine yZ_of rfl rfl rfl (by omega) (yk_73_0 ?_)
  repeat' (first | apply And.intro | intro _)
  all_goals first
    | omega
    | exact h1 (by omega)
    | exact h0 (by omega)
theorem yk_75_0 {D L : Nat} {P : Int → xh_D → xd_E → Prop} {d : xh_D} {e : xd_E} {a1 : Int}   (h : ((-2147483648 ≤ a1 ∧ a1 < 2147483648) ∧ (((a1 < 0) → P (-1 : Int) d e) ∧ ((¬ a1 < 0) → ((-2147483648 ≤ (d 2 (1 : Int)) ∧ (d 2 (1 : Int)) < 2147483648) ∧ ((((d 2 (1 : Int)) ≤ a1) → P (-1 : Int) d e) ∧ ((¬ (d 2 (1 : Int)) ≤ a1) → ((0 ≤ a1 ∧ a1 < 80) ∧ P (d 3 a1) d e)))))))) : yB D xm_c75 (yQi L P) L 0 [.ref 2, .int (xJ a1)] [] d e := by
  refine yb_iload (x := a1) rfl rfl ?_
  have r1 := h.1
  replace h := h.2
  refine yb_if_lt (x := a1) rfl rfl r1 (fun c => ?_) (fun c => ?_)
  · replace h := h.1 c
    refine yb_push (v := (-1)) rfl ?_
    exact yb_ret rfl h
  · replace h := h.2 c
    refine yb_iload (x := a1) rfl rfl ?_
    refine yb_aload rfl rfl ?_
    refine yb_get (v := .int (xJ (d 2 (1 : Int)))) rfl (by decide) (by decide) (rfl) rfl ?_
    have r2 := h.1
    replace h := h.2
    refine yb_icmp_ge (x := a1) (y := (d 2 (1 : Int))) rfl rfl r1 r2 (fun c => ?_) (fun c => ?_)
    · replace h := h.1 c
      refine yb_push (v := (-1)) rfl ?_
      exact yb_ret rfl h
    · replace h := h.2 c
      refine yb_aload rfl rfl ?_
      refine yb_get (v := .ref 3) rfl (by decide) (by decide) (rfl) rfl ?_
      refine yb_iload (x := a1) rfl rfl ?_
      have r3 := h.1
      replace h := h.2
      refine yb_iald (j := a1) rfl xd_A3 (by decide) r3 (v := (d 3 a1)) rfl ?_
      refine yb_goto rfl rfl ?_
      exact yb_ret rfl h
theorem sp_75 {D L : Nat} {P : Int → xh_D → xd_E → Prop} {d : xh_D} {e : xd_E} {a0 : Int} (hD : 1 ≤ D) (o : (-2147483648 ≤ a0 ∧ a0 < 2147483648) ∧ xt_ok d) (h : P (xt_at d a0) d e) : yC D 75 L [.ref 2, .int (xJ a0)] d e P := by
  refine yC_of rfl rfl rfl (by omega) (yk_75_0 ?_)
  obtain ⟨o1, o2⟩ := o
  have o3 := o2.1
  unfold xt_at at h
  refine ⟨o1, fun c => ?_, fun c => ⟨by omega, fun c2 => ?_, fun c2 => ⟨by omega, ?_⟩⟩⟩
  · rw [if_neg (by omega)] at h; exact h
  · rw [if_neg (by omega)] at h; exact h
  · rw [if_pos (by omega)] at h; exact h
theorem yk_76_0 {D L : Nat} {P : Int → xh_D → xd_E → Prop} {d : xh_D} {e : xd_E} {a1 : Int}   (hD : 1 ≤ D) (h : ((-2147483648 ≤ a1 ∧ a1 < 2147483648) ∧ (xt_ok d ∧ ((-2147483648 ≤ (xt_at d a1) ∧ (xt_at d a1) < 2147483648) ∧ ((((xt_at d a1) < (48 : Int)) → P (-1 : Int) d e) ∧ ((¬ (xt_at d a1) < (48 : Int)) → ((((57 : Int) < (xt_at d a1)) → P (-1 : Int) d e) ∧ ((¬ (57 : Int) < (xt_at d a1)) → P ((xt_at d a1) - (48 : Int)) d e)))))))) : yB D xm_c76 (yQi L P) L 0 [.ref 2, .int (xJ a1), .double 0] [] d e := by
  refine yb_aload rfl rfl ?_
  refine yb_iload (x := a1) rfl rfl ?_
  have r1 := h.1
  replace h := h.2
  have r2 := h.1
  replace h := h.2
  refine yb_callVi (As := [.int (xJ a1)]) (a := 2) rfl rfl rfl rfl rfl rfl rfl rfl (by decide) (by decide) (rfl) (by decide) (sp_75 (by omega) ⟨r1, r2⟩ ?_)
  show yB D xm_c76 _ L 3 [.ref 2, .int (xJ a1), .double 0] [.int (xJ (xt_at d a1))] d e
  refine yb_istore rfl rfl rfl ?_
  refine yb_iload (x := (xt_at d a1)) rfl rfl ?_
  refine yb_push (v := 48) rfl ?_
  have r3 := h.1
  replace h := h.2
  refine yb_icmp_lt (x := (xt_at d a1)) (y := (48 : Int)) rfl rfl r3 (by decide) (fun c => ?_) (fun c => ?_)
  · replace h := h.1 c
    refine yb_push (v := (-1)) rfl ?_
    exact yb_ret rfl h
  · replace h := h.2 c
    refine yb_iload (x := (xt_at d a1)) rfl rfl ?_
    refine yb_push (v := 57) rfl ?_
    refine yb_icmp_gt (x := (xt_at d a1)) (y := (57 : Int)) rfl rfl r3 (by decide) (fun c => ?_) (fun c => ?_)
    · replace h := h.1 c
      refine yb_push (v := (-1)) rfl ?_
      exact yb_ret rfl h
    · replace h := h.2 c
      refine yb_iload (x := (xt_at d a1)) rfl rfl ?_
      refine yb_push (v := 48) rfl ?_
      refine yb_isub (x := (xt_at d a1)) (y := (48 : Int)) rfl ?_
      refine yb_goto rfl rfl ?_
      exact yb_ret rfl h
theorem sp_76 {D L : Nat} {P : Int → xh_D → xd_E → Prop} {d : xh_D} {e : xd_E} {a0 : Int} (hD : 2 ≤ D) (o : (-2147483648 ≤ a0 ∧ a0 < 2147483648) ∧ xt_ok d) (h : P (xt_dig d a0) d e) : yC D 76 L [.ref 2, .int (xJ a0)] d e P := by
  refine yC_of rfl rfl rfl (by omega) (yk_76_0 (by omega) ?_)
  have o1 := xt_at_r o.2 a0
  unfold xt_dig xt_dg at h
  refine ⟨o.1, o.2, by omega, fun c => ?_, fun c => ⟨fun c2 => ?_, fun c2 => ?_⟩⟩
  · rw [if_neg (by omega)] at h; exact h
  · rw [if_neg (by omega)] at h; exact h
  · rw [if_pos (by omega)] at h; exact h
theorem yk_77_0 {D L : Nat} {P1 P0 : xh_D → xd_E → Prop} {d : xh_D} {e : xd_E} {a1 : Int}   (hD : 1 ≤ D) (h : ((-2147483648 ≤ a1 ∧ a1 < 2147483648) ∧ (((a1 = 0) → P1 d e) ∧ ((¬ a1 = 0) → ((-2147483648 ≤ (a1 - (1 : Int)) ∧ (a1 - (1 : Int)) < 2147483648) ∧ (xt_ok d ∧ ((-2147483648 ≤ (xt_at d (a1 - (1 : Int))) ∧ (xt_at d (a1 - (1 : Int))) < 2147483648) ∧ (((¬ (xt_at d (a1 - (1 : Int))) = (59 : Int)) → P0 d e) ∧ (((xt_at d (a1 - (1 : Int))) = (59 : Int)) → P1 d e))))))))) : yB D xm_c77 (yQz L P1 P0) L 0 [.ref 2, .int (xJ a1)] [] d e := by
  refine yb_iload (x := a1) rfl rfl ?_
  have r1 := h.1
  replace h := h.2
  refine yb_if_eq (x := a1) rfl rfl r1 (fun c => ?_) (fun c => ?_)
  · replace h := h.1 c
    refine yb_push (v := 1) rfl ?_
    refine yb_goto rfl rfl ?_
    exact yb_ret1 rfl h
  · replace h := h.2 c
    refine yb_aload rfl rfl ?_
    refine yb_iload (x := a1) rfl rfl ?_
    refine yb_push (v := 1) rfl ?_
    refine yb_isub (x := a1) (y := (1 : Int)) rfl ?_
    have r2 := h.1
    replace h := h.2
    have r3 := h.1
    replace h := h.2
    refine yb_callVi (As := [.int (xJ (a1 - (1 : Int)))]) (a := 2) rfl rfl rfl rfl rfl rfl rfl rfl (by decide) (by decide) (rfl) (by decide) (sp_75 (by omega) ⟨r2, r3⟩ ?_)
    show yB D xm_c77 _ L 7 [.ref 2, .int (xJ a1)] [.int (xJ (xt_at d (a1 - (1 : Int))))] d e
    refine yb_push (v := 59) rfl ?_
    have r4 := h.1
    replace h := h.2
    refine yb_icmp_ne (x := (xt_at d (a1 - (1 : Int)))) (y := (59 : Int)) rfl rfl r4 (by decide) (fun c => ?_) (fun c => ?_)
    · replace h := h.1 c
      refine yb_push (v := 0) rfl ?_
      exact yb_ret0 rfl h
    · replace h := h.2 c
      refine yb_push (v := 1) rfl ?_
      refine yb_goto rfl rfl ?_
      exact yb_ret1 rfl h
theorem sp_77 {D L : Nat} {P1 P0 : xh_D → xd_E → Prop} {d : xh_D} {e : xd_E} {a0 : Int} (hD : 2 ≤ D) (o : (-2147483648 ≤ a0 ∧ a0 < 2147483648) ∧ (-2147483648 ≤ (a0 - 1) ∧ (a0 - 1) < 2147483648) ∧ xt_ok d) (h1 : (a0 = 0 ∨ xt_at d (a0 - 1) = 59) → P1 d e) (h0 : ¬ (a0 = 0 ∨ xt_at d (a0 - 1) = 59) → P0 d e) : yZ D 77 L [.ref 2, .int (xJ a0)] d e P1 P0 := by
  refine yZ_of rfl rfl rfl (by omega) (yk_77_0 (by omega) ?_)
  have o1 := xt_at_r o.2.2 (a0 - 1)
  refine ⟨o.1, fun c => h1 (by omega), fun c => ⟨o.2.1, o.2.2, by omega, fun c2 => h0 (by omega), fun c2 => h1 (by omega)⟩⟩
theorem yk_74_0 {D L : Nat} {P : xh_D → xd_E → Prop} {d : xh_D} {e : xd_E} {a1 : Int}   (h : ((-2147483648 ≤ (d 2 (1 : Int)) ∧ (d 2 (1 : Int)) < 2147483648) ∧ ((((80 : Int) ≤ (d 2 (1 : Int))) → P d e) ∧ ((¬ (80 : Int) ≤ (d 2 (1 : Int))) → ((0 ≤ (d 2 (1 : Int)) ∧ (d 2 (1 : Int)) < 80) ∧ P (xs (xs d 3 (d 2 (1 : Int)) a1) 2 (1 : Int) ((d 2 (1 : Int)) + (1 : Int))) e))))) : yB D xm_c74 (yQv L P) L 0 [.ref 2, .int (xJ a1)] [] d e := by
  refine yb_aload rfl rfl ?_
  refine yb_get (v := .int (xJ (d 2 (1 : Int)))) rfl (by decide) (by decide) (rfl) rfl ?_
  refine yb_push (v := 80) rfl ?_
  have r1 := h.1
  replace h := h.2
  refine yb_icmp_ge (x := (d 2 (1 : Int))) (y := (80 : Int)) rfl rfl r1 (by decide) (fun c => ?_) (fun c => ?_)
  · replace h := h.1 c
    exact yb_retv rfl h
  · replace h := h.2 c
    refine yb_aload rfl rfl ?_
    refine yb_get (v := .ref 3) rfl (by decide) (by decide) (rfl) rfl ?_
    refine yb_aload rfl rfl ?_
    refine yb_get (v := .int (xJ (d 2 (1 : Int)))) rfl (by decide) (by decide) (rfl) rfl ?_
    refine yb_iload (x := a1) rfl rfl ?_
    have r2 := h.1
    replace h := h.2
    refine yb_iast (j := (d 2 (1 : Int))) (x := a1) rfl xd_A3 (by decide) r2 ?_
    refine yb_aload rfl rfl ?_
    refine yb_dup rfl rfl ?_
    refine yb_get (v := .int (xJ (d 2 (1 : Int)))) rfl (by decide) (by decide) (rfl) rfl ?_
    refine yb_push (v := 1) rfl ?_
    refine yb_iadd (x := (d 2 (1 : Int))) (y := (1 : Int)) rfl ?_
    refine yb_put (z := ((d 2 (1 : Int)) + (1 : Int))) (k := 1) rfl rfl (by decide) (by decide) (rfl) (Nat.le_of_ble_eq_true rfl) rfl (rfl) ?_
    exact yb_retv rfl h
theorem sp_74 {D L : Nat} {P : xh_D → xd_E → Prop} {d : xh_D} {e : xd_E} {a0 : Int} (hD : 1 ≤ D) (o : (0 ≤ (d 2 (1 : Int)) ∧ (d 2 (1 : Int)) < 80)) (h : P (xs (xs d 3 (d 2 (1 : Int)) a0) 2 (1 : Int) ((d 2 (1 : Int)) + 1)) e) : yV D 74 L [.ref 2, .int (xJ a0)] d e P := by
  refine yV_of rfl rfl rfl (by omega) (yk_74_0 ?_)
  repeat' (first | apply And.intro | intro _)
  all_goals first
    | omega
    | exact h
theorem yk_184_0 {D L : Nat} {P1 P0 : xh_D → xd_E → Prop} {d : xh_D} {e : xd_E} {a1 : Int}   (hD : 1 ≤ D) (h : ((-2147483648 ≤ a1 ∧ a1 < 2147483648) ∧ ((-2147483648 ≤ ((d 146 (1 : Int)) - (1 : Int)) ∧ ((d 146 (1 : Int)) - (1 : Int)) < 2147483648) ∧ ((((0 : Int) ≤ a1 ∧ a1 ≤ ((d 146 (1 : Int)) - (1 : Int))) → P1 d e) ∧ (¬ ((0 : Int) ≤ a1 ∧ a1 ≤ ((d 146 (1 : Int)) - (1 : Int))) → P0 d e))))) : yB D xm_c184 (yQz L P1 P0) L 0 [.ref 146, .int (xJ a1)] [] d e := by
  refine yb_iload (x := a1) rfl rfl ?_
  refine yb_push (v := 0) rfl ?_
  refine yb_aload rfl rfl ?_
  refine yb_get (v := .int (xJ (d 146 (1 : Int)))) rfl (by decide) (by decide) (rfl) rfl ?_
  refine yb_push (v := 1) rfl ?_
  refine yb_isub (x := (d 146 (1 : Int))) (y := (1 : Int)) rfl ?_
  have r1 := h.1
  replace h := h.2
  have r2 := h.1
  replace h := h.2
  refine yb_callSz (As := [.int (xJ a1), .int (xJ (0 : Int)), .int (xJ ((d 146 (1 : Int)) - (1 : Int)))]) rfl rfl rfl rfl rfl rfl rfl rfl (by decide) (sp_180 (by omega) ⟨r1, (by decide), r2⟩ (fun c => ?_) (fun c => ?_))
  · replace h := h.1 c
    show yB D xm_c184 _ L 7 [.ref 146, .int (xJ a1)] [.int (xJ (1 : Int))] d e
    exact yb_ret1 rfl h
  · replace h := h.2 c
    show yB D xm_c184 _ L 7 [.ref 146, .int (xJ a1)] [.int (xJ (0 : Int))] d e
    exact yb_ret0 rfl h
theorem sp_184 {D L : Nat} {P1 P0 : xh_D → xd_E → Prop} {d : xh_D} {e : xd_E} {a0 : Int} (hD : 2 ≤ D) (o : (-2147483648 ≤ a0 ∧ a0 < 2147483648) ∧ (0 ≤ (d 146 (1 : Int)) ∧ (d 146 (1 : Int)) ≤ 9)) (h1 : (0 ≤ a0 ∧ a0 < (d 146 (1 : Int))) → P1 d e) (h0 : ¬ (0 ≤ a0 ∧ a0 < (d 146 (1 : Int))) → P0 d e) : yZ D 184 L [.ref 146, .int (xJ a0)] d e P1 P0 := by
  refine yZ_of rfl rfl rfl (by omega) (yk_184_0 (by omega) ?_)
  exact ⟨o.1, by omega, fun c => h1 (by omega), fun c => h0 (by omega)⟩
theorem yk_185_0 {D L : Nat} {P1 P0 : xh_D → xd_E → Prop} {d : xh_D} {e : xd_E} {a1 : Int} {a2 : Int}   (hD : 2 ≤ D) (h : ((-2147483648 ≤ a1 ∧ a1 < 2147483648) ∧ ((0 ≤ (d 146 (1 : Int)) ∧ (d 146 (1 : Int)) ≤ 9) ∧ (((0 ≤ a1 ∧ a1 < (d 146 (1 : Int))) → ((-2147483648 ≤ a2 ∧ a2 < 2147483648) ∧ (((0 ≤ a2 ∧ a2 < (d 146 (1 : Int))) → (((a1 = a2) → P0 d e) ∧ ((¬ a1 = a2) → P1 d e))) ∧ (¬ (0 ≤ a2 ∧ a2 < (d 146 (1 : Int))) → P0 d e)))) ∧ (¬ (0 ≤ a1 ∧ a1 < (d 146 (1 : Int))) → P0 d e))))) : yB D xm_c185 (yQz L P1 P0) L 0 [.ref 146, .int (xJ a1), .int (xJ a2)] [] d e := by
  refine yb_aload rfl rfl ?_
  refine yb_iload (x := a1) rfl rfl ?_
  have r1 := h.1
  replace h := h.2
  have r2 := h.1
  replace h := h.2
  refine yb_callVz (As := [.int (xJ a1)]) (a := 146) rfl rfl rfl rfl rfl rfl rfl rfl (by decide) (by decide) (rfl) (by decide) (sp_184 (by omega) ⟨r1, r2⟩ (fun c => ?_) (fun c => ?_))
  · replace h := h.1 c
    show yB D xm_c185 _ L 3 [.ref 146, .int (xJ a1), .int (xJ a2)] [.int (xJ (1 : Int))] d e
    refine yb_if_eq (x := (1 : Int)) rfl rfl (by decide) (fun c => absurd c (by decide)) (fun _ => ?_)
    refine yb_aload rfl rfl ?_
    refine yb_iload (x := a2) rfl rfl ?_
    have r3 := h.1
    replace h := h.2
    refine yb_callVz (As := [.int (xJ a2)]) (a := 146) rfl rfl rfl rfl rfl rfl rfl rfl (by decide) (by decide) (rfl) (by decide) (sp_184 (by omega) ⟨r3, r2⟩ (fun c => ?_) (fun c => ?_))
    · replace h := h.1 c
      show yB D xm_c185 _ L 7 [.ref 146, .int (xJ a1), .int (xJ a2)] [.int (xJ (1 : Int))] d e
      refine yb_if_eq (x := (1 : Int)) rfl rfl (by decide) (fun c => absurd c (by decide)) (fun _ => ?_)
      refine yb_iload (x := a1) rfl rfl ?_
      refine yb_iload (x := a2) rfl rfl ?_
      refine yb_icmp_eq (x := a1) (y := a2) rfl rfl r1 r3 (fun c => ?_) (fun c => ?_)
      · replace h := h.1 c
        refine yb_push (v := 0) rfl ?_
        exact yb_ret0 rfl h
      · replace h := h.2 c
        refine yb_push (v := 1) rfl ?_
        refine yb_goto rfl rfl ?_
        exact yb_ret1 rfl h
    · replace h := h.2 c
      show yB D xm_c185 _ L 7 [.ref 146, .int (xJ a1), .int (xJ a2)] [.int (xJ (0 : Int))] d e
      refine yb_if_eq (x := (0 : Int)) rfl rfl (by decide) (fun _ => ?_) (fun c => absurd (by decide) c)
      refine yb_push (v := 0) rfl ?_
      exact yb_ret0 rfl h
  · replace h := h.2 c
    show yB D xm_c185 _ L 3 [.ref 146, .int (xJ a1), .int (xJ a2)] [.int (xJ (0 : Int))] d e
    refine yb_if_eq (x := (0 : Int)) rfl rfl (by decide) (fun _ => ?_) (fun c => absurd (by decide) c)
    refine yb_push (v := 0) rfl ?_
    exact yb_ret0 rfl h
theorem sp_185 {D L : Nat} {P1 P0 : xh_D → xd_E → Prop} {d : xh_D} {e : xd_E} {a0 a1 : Int} (hD : 3 ≤ D) (o : (-2147483648 ≤ a0 ∧ a0 < 2147483648) ∧ (-2147483648 ≤ a1 ∧ a1 < 2147483648) ∧ (0 ≤ (d 146 (1 : Int)) ∧ (d 146 (1 : Int)) ≤ 9)) (h1 : ((0 ≤ a0 ∧ a0 < (d 146 (1 : Int))) ∧ (0 ≤ a1 ∧ a1 < (d 146 (1 : Int))) ∧ ¬ a0 = a1) → P1 d e) (h0 : ¬ ((0 ≤ a0 ∧ a0 < (d 146 (1 : Int))) ∧ (0 ≤ a1 ∧ a1 < (d 146 (1 : Int))) ∧ ¬ a0 = a1) → P0 d e) : yZ D 185 L [.ref 146, .int (xJ a0), .int (xJ a1)] d e P1 P0 := by
  refine yZ_of rfl rfl rfl (by omega) (yk_185_0 (by omega) ?_)
  repeat' (first | apply And.intro | intro _)
  all_goals first
    | omega
    | exact h1 (by omega)
    | exact h0 (by omega)
theorem yk_191_0 {D L : Nat} {P1 P0 : xh_D → xd_E → Prop} {d : xh_D} {e : xd_E}    (h : ((-2147483648 ≤ (d 146 (13 : Int)) ∧ (d 146 (13 : Int)) < 2147483648) ∧ (((¬ (d 146 (13 : Int)) = (-1 : Int)) → P0 d e) ∧ (((d 146 (13 : Int)) = (-1 : Int)) → P1 d e)))) : yB D xm_c191 (yQz L P1 P0) L 0 [.ref 146] [] d e := by
  refine yb_aload rfl rfl ?_
  refine yb_get (v := .int (xJ (d 146 (13 : Int)))) rfl (by decide) (by decide) (rfl) rfl ?_
  refine yb_push (v := (-1)) rfl ?_
  have r1 := h.1
  replace h := h.2
  refine yb_icmp_ne (x := (d 146 (13 : Int))) (y := (-1 : Int)) rfl rfl r1 (by decide) (fun c => ?_) (fun c => ?_)
  · replace h := h.1 c
    refine yb_push (v := 0) rfl ?_
    exact yb_ret0 rfl h
  · replace h := h.2 c
    refine yb_push (v := 1) rfl ?_
    refine yb_goto rfl rfl ?_
    exact yb_ret1 rfl h
theorem sp_191 {D L : Nat} {P1 P0 : xh_D → xd_E → Prop} {d : xh_D} {e : xd_E} (hD : 1 ≤ D) (o : (-2147483648 ≤ (d 146 (13 : Int)) ∧ (d 146 (13 : Int)) < 2147483648)) (h1 : ((d 146 (13 : Int)) = -1) → P1 d e) (h0 : ¬ ((d 146 (13 : Int)) = -1) → P0 d e) : yZ D 191 L [.ref 146] d e P1 P0 := by
  refine yZ_of rfl rfl rfl (by omega) (yk_191_0 ?_)
  repeat' (first | apply And.intro | intro _)
  all_goals first
    | omega
    | exact h1 (by omega)
    | exact h0 (by omega)
theorem yk_192_0 {D L : Nat} {P : xh_D → xd_E → Prop} {d : xh_D} {e : xd_E} {a1 : Int}   (hD : 1 ≤ D) (h : ((-2147483648 ≤ (d 146 (13 : Int)) ∧ (d 146 (13 : Int)) < 2147483648) ∧ ((((d 146 (13 : Int)) = -1) → P (xs d 146 (13 : Int) a1) e) ∧ (¬ ((d 146 (13 : Int)) = -1) → P d e)))) : yB D xm_c192 (yQv L P) L 0 [.ref 146, .int (xJ a1)] [] d e := by
  refine yb_aload rfl rfl ?_
  have r1 := h.1
  replace h := h.2
  refine yb_callVz (As := []) (a := 146) rfl rfl rfl rfl rfl rfl rfl rfl (by decide) (by decide) (rfl) (by decide) (sp_191 (by omega) r1 (fun c => ?_) (fun c => ?_))
  · replace h := h.1 c
    show yB D xm_c192 _ L 2 [.ref 146, .int (xJ a1)] [.int (xJ (1 : Int))] d e
    refine yb_if_eq (x := (1 : Int)) rfl rfl (by decide) (fun c => absurd c (by decide)) (fun _ => ?_)
    refine yb_aload rfl rfl ?_
    refine yb_iload (x := a1) rfl rfl ?_
    refine yb_put (z := a1) (k := 13) rfl rfl (by decide) (by decide) (rfl) (Nat.le_of_ble_eq_true rfl) rfl (rfl) ?_
    exact yb_retv rfl h
  · replace h := h.2 c
    show yB D xm_c192 _ L 2 [.ref 146, .int (xJ a1)] [.int (xJ (0 : Int))] d e
    refine yb_if_eq (x := (0 : Int)) rfl rfl (by decide) (fun _ => ?_) (fun c => absurd (by decide) c)
    exact yb_retv rfl h
theorem sp_192 {D L : Nat} {P : xh_D → xd_E → Prop} {d : xh_D} {e : xd_E} {a0 : Int} (hD : 2 ≤ D) (o : (-2147483648 ≤ (d 146 (13 : Int)) ∧ (d 146 (13 : Int)) < 2147483648)) (h : P (xs d 146 (13 : Int) (if (d 146 (13 : Int)) = -1 then a0 else (d 146 (13 : Int)))) e) : yV D 192 L [.ref 146, .int (xJ a0)] d e P := by
  refine yV_of rfl rfl rfl (by omega) (yk_192_0 (by omega) ?_)
  refine ⟨o, fun c => ?_, fun c => ?_⟩
  · rw [if_pos c] at h; exact h
  · rw [if_neg c] at h
    refine cast ?_ h
    congr 1
    funext p i
    unfold xs
    split
    · rename_i q; rw [q.1, q.2]
    · rfl
theorem yk_190_0 {D L : Nat} {P : Int → xh_D → xd_E → Prop} {d : xh_D} {e : xd_E}    (h : ((-2147483648 ≤ (d 146 (12 : Int)) ∧ (d 146 (12 : Int)) < 2147483648) ∧ ((-2147483648 ≤ (d 146 (10 : Int)) ∧ (d 146 (10 : Int)) < 2147483648) ∧ ((((d 146 (10 : Int)) ≤ (d 146 (12 : Int))) → P (-1 : Int) d e) ∧ ((¬ (d 146 (10 : Int)) ≤ (d 146 (12 : Int))) → ((-2147483648 ≤ (d 146 (11 : Int)) ∧ (d 146 (11 : Int)) < 2147483648) ∧ ((((d 146 (11 : Int)) ≤ (d 146 (12 : Int))) → P (-1 : Int) d e) ∧ ((¬ (d 146 (11 : Int)) ≤ (d 146 (12 : Int))) → (((d 146 (9 : Int)) = 150 → ((0 ≤ (d 146 (12 : Int)) ∧ (d 146 (12 : Int)) < 80) ∧ P (d 150 (d 146 (12 : Int))) d e)) ∧ ((d 146 (9 : Int)) = 153 → ((0 ≤ (d 146 (12 : Int)) ∧ (d 146 (12 : Int)) < 40) ∧ P (d 153 (d 146 (12 : Int))) d e)) ∧ ((d 146 (9 : Int)) = 150 ∨ (d 146 (9 : Int)) = 153)))))))))) : yB D xm_c190 (yQi L P) L 0 [.ref 146] [] d e := by
  refine yb_aload rfl rfl ?_
  refine yb_get (v := .int (xJ (d 146 (12 : Int)))) rfl (by decide) (by decide) (rfl) rfl ?_
  refine yb_aload rfl rfl ?_
  refine yb_get (v := .int (xJ (d 146 (10 : Int)))) rfl (by decide) (by decide) (rfl) rfl ?_
  have r1 := h.1
  replace h := h.2
  have r2 := h.1
  replace h := h.2
  refine yb_icmp_ge (x := (d 146 (12 : Int))) (y := (d 146 (10 : Int))) rfl rfl r1 r2 (fun c => ?_) (fun c => ?_)
  · replace h := h.1 c
    refine yb_push (v := (-1)) rfl ?_
    exact yb_ret rfl h
  · replace h := h.2 c
    refine yb_aload rfl rfl ?_
    refine yb_get (v := .int (xJ (d 146 (12 : Int)))) rfl (by decide) (by decide) (rfl) rfl ?_
    refine yb_aload rfl rfl ?_
    refine yb_get (v := .int (xJ (d 146 (11 : Int)))) rfl (by decide) (by decide) (rfl) rfl ?_
    have r3 := h.1
    replace h := h.2
    refine yb_icmp_ge (x := (d 146 (12 : Int))) (y := (d 146 (11 : Int))) rfl rfl r1 r3 (fun c => ?_) (fun c => ?_)
    · replace h := h.1 c
      refine yb_push (v := (-1)) rfl ?_
      exact yb_ret rfl h
    · replace h := h.2 c
      refine yb_aload rfl rfl ?_
      rcases h.2.2 with c | c
      · replace h := h.1 c
        refine yb_get (v := .ref 150) rfl (by decide) (by decide) rfl (by show some (xd_r (xJ (d 146 (9 : Int)))) = some (.ref 150); rw [c]; rfl) ?_
        refine yb_aload rfl rfl ?_
        refine yb_get (v := .int (xJ (d 146 (12 : Int)))) rfl (by decide) (by decide) (rfl) rfl ?_
        have r4 := h.1
        replace h := h.2
        refine yb_bald (j := (d 146 (12 : Int))) rfl (by decide) xd_A150 r4 (v := (d 150 (d 146 (12 : Int)))) rfl ?_
        refine yb_goto rfl rfl ?_
        exact yb_ret rfl h
      · replace h := h.2.1 c
        refine yb_get (v := .ref 153) rfl (by decide) (by decide) rfl (by show some (xd_r (xJ (d 146 (9 : Int)))) = some (.ref 153); rw [c]; rfl) ?_
        refine yb_aload rfl rfl ?_
        refine yb_get (v := .int (xJ (d 146 (12 : Int)))) rfl (by decide) (by decide) (rfl) rfl ?_
        have r5 := h.1
        replace h := h.2
        refine yb_bald (j := (d 146 (12 : Int))) rfl (by decide) xd_A153 r5 (v := (d 153 (d 146 (12 : Int)))) rfl ?_
        refine yb_goto rfl rfl ?_
        exact yb_ret rfl h
theorem sp_190 {D L : Nat} {P : Int → xh_D → xd_E → Prop} {d : xh_D} {e : xd_E} (hD : 1 ≤ D) (o : xm_hok d) (h : P (xm_here d) d e) : yC D 190 L [.ref 146] d e P := by
  refine yC_of rfl rfl rfl (by omega) (yk_190_0 ?_)
  obtain ⟨h1, h2, h3, h4, h5⟩ := o
  unfold xm_here at h
  have h6 : -2147483648 ≤ d 146 10 ∧ d 146 10 < 2147483648 := by omega
  refine ⟨by omega, h6, fun c => ?_, fun c => ⟨by omega, fun c2 => ?_, fun c2 => ⟨fun c3 => ⟨by omega, ?_⟩, fun c3 => ⟨by omega, ?_⟩, by omega⟩⟩⟩
  · rw [if_neg (by omega)] at h; exact h
  · rw [if_neg (by omega)] at h; exact h
  · rw [if_pos (by omega), c3] at h; exact h
  · rw [if_pos (by omega), c3] at h; exact h
theorem yk_183_0 {D L : Nat} {P : xh_D → xd_E → Prop} {d : xh_D} {e : xd_E} {a1 : Int}   (h : ((0 ≤ (d 146 (7 : Int)) ∧ (d 146 (7 : Int)) < 20) ∧ P (xs (xs d 151 (d 146 (7 : Int)) a1) 146 (7 : Int) ((d 146 (7 : Int)) + (1 : Int))) e)) : yB D xm_c183 (yQv L P) L 0 [.ref 146, .int (xJ a1)] [] d e := by
  refine yb_aload rfl rfl ?_
  refine yb_get (v := .ref 151) rfl (by decide) (by decide) (rfl) rfl ?_
  refine yb_aload rfl rfl ?_
  refine yb_get (v := .int (xJ (d 146 (7 : Int)))) rfl (by decide) (by decide) (rfl) rfl ?_
  refine yb_iload (x := a1) rfl rfl ?_
  have r1 := h.1
  replace h := h.2
  refine yb_iast (j := (d 146 (7 : Int))) (x := a1) rfl xd_A151 (by decide) r1 ?_
  refine yb_aload rfl rfl ?_
  refine yb_dup rfl rfl ?_
  refine yb_get (v := .int (xJ (d 146 (7 : Int)))) rfl (by decide) (by decide) (rfl) rfl ?_
  refine yb_push (v := 1) rfl ?_
  refine yb_iadd (x := (d 146 (7 : Int))) (y := (1 : Int)) rfl ?_
  refine yb_put (z := ((d 146 (7 : Int)) + (1 : Int))) (k := 7) rfl rfl (by decide) (by decide) (rfl) (Nat.le_of_ble_eq_true rfl) rfl (rfl) ?_
  exact yb_retv rfl h
theorem sp_183 {D L : Nat} {P : xh_D → xd_E → Prop} {d : xh_D} {e : xd_E} {a0 : Int} (hD : 1 ≤ D) (o : (0 ≤ (d 146 (7 : Int)) ∧ (d 146 (7 : Int)) < 20)) (h : P (xs (xs d 151 (d 146 (7 : Int)) a0) 146 (7 : Int) ((d 146 (7 : Int)) + 1)) e) : yV D 183 L [.ref 146, .int (xJ a0)] d e P := by
  refine yV_of rfl rfl rfl (by omega) (yk_183_0 ?_)
  repeat' (first | apply And.intro | intro _)
  all_goals first
    | omega
    | exact h
theorem yk_182_0 {D L : Nat} {P : Int → xh_D → xd_E → Prop} {d : xh_D} {e : xd_E}    (h : P (0 : Int) (xs d 146 (8 : Int) (1 : Int)) e) : yB D xm_c182 (yQi L P) L 0 [.ref 146] [] d e := by
  refine yb_aload rfl rfl ?_
  refine yb_push (v := 1) rfl ?_
  refine yb_put (z := (1 : Int)) (k := 8) rfl rfl (by decide) (by decide) (rfl) (Nat.le_of_ble_eq_true rfl) rfl (rfl) ?_
  refine yb_push (v := 0) rfl ?_
  exact yb_ret rfl h
theorem sp_182 {D L : Nat} {P : Int → xh_D → xd_E → Prop} {d : xh_D} {e : xd_E} (hD : 1 ≤ D) (h : P (0 : Int) (xs d 146 (8 : Int) (1 : Int)) e) : yC D 182 L [.ref 146] d e P := by
  refine yC_of rfl rfl rfl (by omega) (yk_182_0 ?_)
  exact h
theorem yk_179_0 {D L : Nat} {P : Int → xh_D → xd_E → Prop} {d : xh_D} {e : xd_E}    (h : P (d 146 (8 : Int)) d e) : yB D xm_c179 (yQi L P) L 0 [.ref 146] [] d e := by
  refine yb_aload rfl rfl ?_
  refine yb_get (v := .int (xJ (d 146 (8 : Int)))) rfl (by decide) (by decide) (rfl) rfl ?_
  exact yb_ret rfl h
theorem sp_179 {D L : Nat} {P : Int → xh_D → xd_E → Prop} {d : xh_D} {e : xd_E} (hD : 1 ≤ D) (h : P (d 146 (8 : Int)) d e) : yC D 179 L [.ref 146] d e P := by
  refine yC_of rfl rfl rfl (by omega) (yk_179_0 ?_)
  exact h
theorem yk_189_150_0 {D L : Nat} {P : xh_D → xd_E → Prop} {d : xh_D} {e : xd_E} {a2 : Int} {a3 : Int}   (h : P (xs (xs (xs (xs (xs d 146 (9 : Int) (150 : Int)) 146 (10 : Int) a2) 146 (11 : Int) a3) 146 (12 : Int) (0 : Int)) 146 (13 : Int) (-1 : Int)) e) : yB D xm_c189 (yQv L P) L 0 [.ref 146, .ref 150, .int (xJ a2), .int (xJ a3)] [] d e := by
  refine yb_aload rfl rfl ?_
  refine yb_aload rfl rfl ?_
  refine yb_put (z := (150 : Int)) (k := 9) rfl rfl (by decide) (by decide) (rfl) (Nat.le_of_ble_eq_true rfl) rfl (rfl) ?_
  refine yb_aload rfl rfl ?_
  refine yb_iload (x := a2) rfl rfl ?_
  refine yb_put (z := a2) (k := 10) rfl rfl (by decide) (by decide) (rfl) (Nat.le_of_ble_eq_true rfl) rfl (rfl) ?_
  refine yb_aload rfl rfl ?_
  refine yb_iload (x := a3) rfl rfl ?_
  refine yb_put (z := a3) (k := 11) rfl rfl (by decide) (by decide) (rfl) (Nat.le_of_ble_eq_true rfl) rfl (rfl) ?_
  refine yb_aload rfl rfl ?_
  refine yb_push (v := 0) rfl ?_
  refine yb_put (z := (0 : Int)) (k := 12) rfl rfl (by decide) (by decide) (rfl) (Nat.le_of_ble_eq_true rfl) rfl (rfl) ?_
  refine yb_aload rfl rfl ?_
  refine yb_push (v := (-1)) rfl ?_
  refine yb_put (z := (-1 : Int)) (k := 13) rfl rfl (by decide) (by decide) (rfl) (Nat.le_of_ble_eq_true rfl) rfl (rfl) ?_
  exact yb_retv rfl h
theorem sp_189_150 {D L : Nat} {P : xh_D → xd_E → Prop} {d : xh_D} {e : xd_E} {a1 a2 : Int} (hD : 1 ≤ D) (h : P (xs (xs (xs (xs (xs d 146 (9 : Int) (150 : Int)) 146 (10 : Int) a1) 146 (11 : Int) a2) 146 (12 : Int) (0 : Int)) 146 (13 : Int) (-1 : Int)) e) : yV D 189 L [.ref 146, .ref 150, .int (xJ a1), .int (xJ a2)] d e P := by
  refine yV_of rfl rfl rfl (by omega) (yk_189_150_0 ?_)
  exact h
theorem yk_189_153_0 {D L : Nat} {P : xh_D → xd_E → Prop} {d : xh_D} {e : xd_E} {a2 : Int} {a3 : Int}   (h : P (xs (xs (xs (xs (xs d 146 (9 : Int) (153 : Int)) 146 (10 : Int) a2) 146 (11 : Int) a3) 146 (12 : Int) (0 : Int)) 146 (13 : Int) (-1 : Int)) e) : yB D xm_c189 (yQv L P) L 0 [.ref 146, .ref 153, .int (xJ a2), .int (xJ a3)] [] d e := by
  refine yb_aload rfl rfl ?_
  refine yb_aload rfl rfl ?_
  refine yb_put (z := (153 : Int)) (k := 9) rfl rfl (by decide) (by decide) (rfl) (Nat.le_of_ble_eq_true rfl) rfl (rfl) ?_
  refine yb_aload rfl rfl ?_
  refine yb_iload (x := a2) rfl rfl ?_
  refine yb_put (z := a2) (k := 10) rfl rfl (by decide) (by decide) (rfl) (Nat.le_of_ble_eq_true rfl) rfl (rfl) ?_
  refine yb_aload rfl rfl ?_
  refine yb_iload (x := a3) rfl rfl ?_
  refine yb_put (z := a3) (k := 11) rfl rfl (by decide) (by decide) (rfl) (Nat.le_of_ble_eq_true rfl) rfl (rfl) ?_
  refine yb_aload rfl rfl ?_
  refine yb_push (v := 0) rfl ?_
  refine yb_put (z := (0 : Int)) (k := 12) rfl rfl (by decide) (by decide) (rfl) (Nat.le_of_ble_eq_true rfl) rfl (rfl) ?_
  refine yb_aload rfl rfl ?_
  refine yb_push (v := (-1)) rfl ?_
  refine yb_put (z := (-1 : Int)) (k := 13) rfl rfl (by decide) (by decide) (rfl) (Nat.le_of_ble_eq_true rfl) rfl (rfl) ?_
  exact yb_retv rfl h
theorem sp_189_153 {D L : Nat} {P : xh_D → xd_E → Prop} {d : xh_D} {e : xd_E} {a1 a2 : Int} (hD : 1 ≤ D) (h : P (xs (xs (xs (xs (xs d 146 (9 : Int) (153 : Int)) 146 (10 : Int) a1) 146 (11 : Int) a2) 146 (12 : Int) (0 : Int)) 146 (13 : Int) (-1 : Int)) e) : yV D 189 L [.ref 146, .ref 153, .int (xJ a1), .int (xJ a2)] d e P := by
  refine yV_of rfl rfl rfl (by omega) (yk_189_153_0 ?_)
  exact h
theorem yk_232_147_0 {D L : Nat} {P : xh_D → xd_E → Prop} {d : xh_D} {e : xd_E} {a1 : Int} {a2 : Int}   (h : ((0 ≤ a1 ∧ a1 < 353) ∧ ((0 ≤ a2 ∧ a2 < 353) ∧ P (xs (xs d 147 a1 (d 147 a2)) 147 a2 (d 147 a1)) e))) : yB D xm_c232 (yQv L P) L 0 [.ref 147, .int (xJ a1), .int (xJ a2), .double 0] [] d e := by
  refine yb_aload rfl rfl ?_
  refine yb_iload (x := a1) rfl rfl ?_
  have r1 := h.1
  replace h := h.2
  refine yb_iald (j := a1) rfl xd_A147 (by decide) r1 (v := (d 147 a1)) rfl ?_
  refine yb_istore rfl rfl rfl ?_
  refine yb_aload rfl rfl ?_
  refine yb_iload (x := a1) rfl rfl ?_
  refine yb_aload rfl rfl ?_
  refine yb_iload (x := a2) rfl rfl ?_
  have r2 := h.1
  replace h := h.2
  refine yb_iald (j := a2) rfl xd_A147 (by decide) r2 (v := (d 147 a2)) rfl ?_
  refine yb_iast (j := a1) (x := (d 147 a2)) rfl xd_A147 (by decide) r1 ?_
  refine yb_aload rfl rfl ?_
  refine yb_iload (x := a2) rfl rfl ?_
  refine yb_iload (x := (d 147 a1)) rfl rfl ?_
  refine yb_iast (j := a2) (x := (d 147 a1)) rfl xd_A147 (by decide) r2 ?_
  exact yb_retv rfl h
theorem sp_232_147 {D L : Nat} {P : xh_D → xd_E → Prop} {d : xh_D} {e : xd_E} {a1 a2 : Int} (hD : 1 ≤ D) (o : (0 ≤ a1 ∧ a1 < 9) ∧ (0 ≤ a2 ∧ a2 < 9)) (h : P (xs (xs d 147 a1 (d 147 a2)) 147 a2 (d 147 a1)) e) : yV D 232 L [.ref 147, .int (xJ a1), .int (xJ a2)] d e P := by
  refine yV_of rfl rfl rfl (by omega) (yk_232_147_0 ?_)
  repeat' (first | apply And.intro | intro _)
  all_goals first
    | omega
    | exact h
theorem yk_232_164_0 {D L : Nat} {P : xh_D → xd_E → Prop} {d : xh_D} {e : xd_E} {a1 : Int} {a2 : Int}   (h : ((0 ≤ a1 ∧ a1 < 10) ∧ ((0 ≤ a2 ∧ a2 < 10) ∧ P (xs (xs d 164 a1 (d 164 a2)) 164 a2 (d 164 a1)) e))) : yB D xm_c232 (yQv L P) L 0 [.ref 164, .int (xJ a1), .int (xJ a2), .double 0] [] d e := by
  refine yb_aload rfl rfl ?_
  refine yb_iload (x := a1) rfl rfl ?_
  have r1 := h.1
  replace h := h.2
  refine yb_iald (j := a1) rfl xd_A164 (by decide) r1 (v := (d 164 a1)) rfl ?_
  refine yb_istore rfl rfl rfl ?_
  refine yb_aload rfl rfl ?_
  refine yb_iload (x := a1) rfl rfl ?_
  refine yb_aload rfl rfl ?_
  refine yb_iload (x := a2) rfl rfl ?_
  have r2 := h.1
  replace h := h.2
  refine yb_iald (j := a2) rfl xd_A164 (by decide) r2 (v := (d 164 a2)) rfl ?_
  refine yb_iast (j := a1) (x := (d 164 a2)) rfl xd_A164 (by decide) r1 ?_
  refine yb_aload rfl rfl ?_
  refine yb_iload (x := a2) rfl rfl ?_
  refine yb_iload (x := (d 164 a1)) rfl rfl ?_
  refine yb_iast (j := a2) (x := (d 164 a1)) rfl xd_A164 (by decide) r2 ?_
  exact yb_retv rfl h
theorem sp_232_164 {D L : Nat} {P : xh_D → xd_E → Prop} {d : xh_D} {e : xd_E} {a1 a2 : Int} (hD : 1 ≤ D) (o : (0 ≤ a1 ∧ a1 < 9) ∧ (0 ≤ a2 ∧ a2 < 9)) (h : P (xs (xs d 164 a1 (d 164 a2)) 164 a2 (d 164 a1)) e) : yV D 232 L [.ref 164, .int (xJ a1), .int (xJ a2)] d e P := by
  refine yV_of rfl rfl rfl (by omega) (yk_232_164_0 ?_)
  repeat' (first | apply And.intro | intro _)
  all_goals first
    | omega
    | exact h
theorem yk_53_11_0 {D L : Nat} {P : xh_D → xd_E → Prop} {d : xh_D} {e : xd_E} {a1 : Int} {a2 : Int}   (h : ((0 ≤ a1 ∧ a1 < 9) ∧ ((0 ≤ a2 ∧ a2 < 9) ∧ P (xs (xs d 12 a1 (d 12 a2)) 12 a2 (d 12 a1)) e))) : yB D xm_c53 (yQv L P) L 0 [.ref 11, .int (xJ a1), .int (xJ a2), .double 0] [] d e := by
  refine yb_aload rfl rfl ?_
  refine yb_get (v := .ref 12) rfl (by decide) (by decide) (rfl) rfl ?_
  refine yb_iload (x := a1) rfl rfl ?_
  have r1 := h.1
  replace h := h.2
  refine yb_iald (j := a1) rfl xd_A12 (by decide) r1 (v := (d 12 a1)) rfl ?_
  refine yb_istore rfl rfl rfl ?_
  refine yb_aload rfl rfl ?_
  refine yb_get (v := .ref 12) rfl (by decide) (by decide) (rfl) rfl ?_
  refine yb_iload (x := a1) rfl rfl ?_
  refine yb_aload rfl rfl ?_
  refine yb_get (v := .ref 12) rfl (by decide) (by decide) (rfl) rfl ?_
  refine yb_iload (x := a2) rfl rfl ?_
  have r2 := h.1
  replace h := h.2
  refine yb_iald (j := a2) rfl xd_A12 (by decide) r2 (v := (d 12 a2)) rfl ?_
  refine yb_iast (j := a1) (x := (d 12 a2)) rfl xd_A12 (by decide) r1 ?_
  refine yb_aload rfl rfl ?_
  refine yb_get (v := .ref 12) rfl (by decide) (by decide) (rfl) rfl ?_
  refine yb_iload (x := a2) rfl rfl ?_
  refine yb_iload (x := (d 12 a1)) rfl rfl ?_
  refine yb_iast (j := a2) (x := (d 12 a1)) rfl xd_A12 (by decide) r2 ?_
  exact yb_retv rfl h
theorem sp_53_11 {D L : Nat} {P : xh_D → xd_E → Prop} {d : xh_D} {e : xd_E} {a0 a1 : Int} (hD : 1 ≤ D) (o : (0 ≤ a0 ∧ a0 < 9) ∧ (0 ≤ a1 ∧ a1 < 9)) (h : P (xs (xs d 12 a0 (d 12 a1)) 12 a1 (d 12 a0)) e) : yV D 53 L [.ref 11, .int (xJ a0), .int (xJ a1)] d e P := by
  refine yV_of rfl rfl rfl (by omega) (yk_53_11_0 ?_)
  repeat' (first | apply And.intro | intro _)
  all_goals first
    | omega
    | exact h
theorem yk_12_0 {D L : Nat} {P : Int → xh_D → xd_E → Prop} {d : xh_D} {e : xd_E}    (h : ((0 ≤ (d 119 (8 : Int)) ∧ (d 119 (8 : Int)) < 2147483648) ∧ P ((d 119 (8 : Int)) / (1000 : Int)) d e)) : yB D xm_c12 (yQi L P) L 0 [.ref 119] [] d e := by
  refine yb_aload rfl rfl ?_
  refine yb_get (v := .int (xJ (d 119 (8 : Int)))) rfl (by decide) (by decide) (rfl) rfl ?_
  refine yb_push (v := 1000) rfl ?_
  have r1 := h.1
  replace h := h.2
  refine yb_idiv (x := (d 119 (8 : Int))) (y := (1000 : Int)) rfl r1 (by decide) ?_
  exact yb_ret rfl h
theorem sp_12 {D L : Nat} {P : Int → xh_D → xd_E → Prop} {d : xh_D} {e : xd_E} (hD : 1 ≤ D) (o : (0 ≤ (d 119 (8 : Int)) ∧ (d 119 (8 : Int)) < 2147483648)) (h : P ((d 119 (8 : Int)) / (1000 : Int)) d e) : yC D 12 L [.ref 119] d e P := by
  refine yC_of rfl rfl rfl (by omega) (yk_12_0 ?_)
  repeat' (first | apply And.intro | intro _)
  all_goals first
    | omega
    | exact h
theorem yk_13_0 {D L : Nat} {P : Int → xh_D → xd_E → Prop} {d : xh_D} {e : xd_E}    (h : ((0 ≤ (d 119 (8 : Int)) ∧ (d 119 (8 : Int)) < 2147483648) ∧ P ((d 119 (8 : Int)) % (1000 : Int)) d e)) : yB D xm_c13 (yQi L P) L 0 [.ref 119] [] d e := by
  refine yb_aload rfl rfl ?_
  refine yb_get (v := .int (xJ (d 119 (8 : Int)))) rfl (by decide) (by decide) (rfl) rfl ?_
  refine yb_push (v := 1000) rfl ?_
  have r1 := h.1
  replace h := h.2
  refine yb_irem (x := (d 119 (8 : Int))) (y := (1000 : Int)) rfl r1 (by decide) ?_
  exact yb_ret rfl h
theorem sp_13 {D L : Nat} {P : Int → xh_D → xd_E → Prop} {d : xh_D} {e : xd_E} (hD : 1 ≤ D) (o : (0 ≤ (d 119 (8 : Int)) ∧ (d 119 (8 : Int)) < 2147483648)) (h : P ((d 119 (8 : Int)) % (1000 : Int)) d e) : yC D 13 L [.ref 119] d e P := by
  refine yC_of rfl rfl rfl (by omega) (yk_13_0 ?_)
  repeat' (first | apply And.intro | intro _)
  all_goals first
    | omega
    | exact h
theorem yk_23_0 {D L : Nat} {P : Int → xh_D → xd_E → Prop} {d : xh_D} {e : xd_E}    (h : P ((xi_shl (1 : Int) (d 6 (4 : Int))) - (1 : Int)) d e) : yB D xm_c23 (yQi L P) L 0 [.ref 6] [] d e := by
  refine yb_push (v := 1) rfl ?_
  refine yb_aload rfl rfl ?_
  refine yb_get (v := .int (xJ (d 6 (4 : Int)))) rfl (by decide) (by decide) (rfl) rfl ?_
  refine yb_ishl (x := (1 : Int)) (y := (d 6 (4 : Int))) rfl ?_
  refine yb_push (v := 1) rfl ?_
  refine yb_isub (x := (xi_shl (1 : Int) (d 6 (4 : Int)))) (y := (1 : Int)) rfl ?_
  exact yb_ret rfl h
theorem sp_23 {D L : Nat} {P : Int → xh_D → xd_E → Prop} {d : xh_D} {e : xd_E} (hD : 1 ≤ D) (h : P (xi_shl (1 : Int) (d 6 (4 : Int)) - 1) d e) : yC D 23 L [.ref 6] d e P := by
  refine yC_of rfl rfl rfl (by omega) (yk_23_0 ?_)
  exact h
theorem yk_57_11_0 {D L : Nat} {P : Int → xh_D → xd_E → Prop} {d : xh_D} {e : xd_E}    (hD : 1 ≤ D) (h : ((-2147483648 ≤ (d 11 (5 : Int)) ∧ (d 11 (5 : Int)) < 2147483648) ∧ P (min (d 11 (5 : Int)) (30 : Int)) d e)) : yB D xm_c57 (yQi L P) L 0 [.ref 11] [] d e := by
  refine yb_aload rfl rfl ?_
  refine yb_get (v := .int (xJ (d 11 (5 : Int)))) rfl (by decide) (by decide) (rfl) rfl ?_
  refine yb_push (v := 30) rfl ?_
  have r1 := h.1
  replace h := h.2
  refine yb_callSi (As := [.int (xJ (d 11 (5 : Int))), .int (xJ (30 : Int))]) rfl rfl rfl rfl rfl rfl rfl rfl (by decide) (sp_5 (by omega) ⟨r1, (by decide)⟩ ?_)
  show yB D xm_c57 _ L 4 [.ref 11] [.int (xJ (min (d 11 (5 : Int)) (30 : Int)))] d e
  exact yb_ret rfl h
theorem sp_57_11 {D L : Nat} {P : Int → xh_D → xd_E → Prop} {d : xh_D} {e : xd_E} (hD : 2 ≤ D) (o : (-2147483648 ≤ (d 11 (5 : Int)) ∧ (d 11 (5 : Int)) < 2147483648)) (h : P (min (d 11 (5 : Int)) 30) d e) : yC D 57 L [.ref 11] d e P := by
  refine yC_of rfl rfl rfl (by omega) (yk_57_11_0 (by omega) ?_)
  repeat' (first | apply And.intro | intro _)
  all_goals first
    | omega
    | exact h
theorem yk_58_11_0 {D L : Nat} {P : Int → xh_D → xd_E → Prop} {d : xh_D} {e : xd_E} {a1 : Int} {a2 : Int}   (hD : 1 ≤ D) (h : ((0 ≤ ((d 11 (5 : Int)) - a2) ∧ ((d 11 (5 : Int)) - a2) < 2147483648) ∧ ((0 ≤ (((d 11 (5 : Int)) - a2) % (30 : Int)) ∧ (((d 11 (5 : Int)) - a2) % (30 : Int)) < 30) ∧ P (xi_and ((((e 16 (((d 11 (5 : Int)) - a2) % (30 : Int)).toNat).toUInt64 >>> ((xJ (a1 * (4 : Int))).toInt64.toUInt64 &&& Int64.toUInt64 63)).toInt64).toInt32.toInt) (15 : Int)) d e))) : yB D xm_c58 (yQi L P) L 0 [.ref 11, .int (xJ a1), .int (xJ a2), .double 0] [] d e := by
  refine yb_aload rfl rfl ?_
  refine yb_get (v := .int (xJ (d 11 (5 : Int)))) rfl (by decide) (by decide) (rfl) rfl ?_
  refine yb_iload (x := a2) rfl rfl ?_
  refine yb_isub (x := (d 11 (5 : Int))) (y := a2) rfl ?_
  refine yb_push (v := 30) rfl ?_
  have r1 := h.1
  replace h := h.2
  refine yb_callSi (As := [.int (xJ ((d 11 (5 : Int)) - a2)), .int (xJ (30 : Int))]) rfl rfl rfl rfl rfl rfl rfl rfl (by decide) (sp_3 (by omega) ⟨r1, (by decide)⟩ ?_)
  show yB D xm_c58 _ L 6 [.ref 11, .int (xJ a1), .int (xJ a2), .double 0] [.int (xJ (((d 11 (5 : Int)) - a2) % (30 : Int)))] d e
  refine yb_istore rfl rfl rfl ?_
  refine yb_aload rfl rfl ?_
  refine yb_get (v := .ref 16) rfl (by decide) (by decide) (rfl) rfl ?_
  refine yb_iload (x := (((d 11 (5 : Int)) - a2) % (30 : Int))) rfl rfl ?_
  have r2 := h.1
  replace h := h.2
  refine yb_lald (j := (((d 11 (5 : Int)) - a2) % (30 : Int))) rfl xd_A16 r2 rfl ?_
  refine yb_iload (x := a1) rfl rfl ?_
  refine yb_push (v := 4) rfl ?_
  refine yb_imul (x := a1) (y := (4 : Int)) rfl ?_
  refine yb_lushr (y := (a1 * (4 : Int))) rfl ?_
  refine yb_l2i rfl ?_
  refine yb_push (v := 15) rfl ?_
  refine yb_iand (x := (((e 16 (((d 11 (5 : Int)) - a2) % (30 : Int)).toNat).toUInt64 >>> ((xJ (a1 * (4 : Int))).toInt64.toUInt64 &&& Int64.toUInt64 63)).toInt64).toInt32.toInt) (y := (15 : Int)) rfl ?_
  exact yb_ret rfl h
theorem sp_58_11 {D L : Nat} {P : Int → xh_D → xd_E → Prop} {d : xh_D} {e : xd_E} {a0 a1 : Int} (hD : 2 ≤ D) (o : (0 ≤ (d 11 (5 : Int)) - a1 ∧ (d 11 (5 : Int)) - a1 < 2147483648)) (h : P (xp_ent (e 16 (((d 11 (5 : Int)) - a1) % 30).toNat) a0) d e) : yC D 58 L [.ref 11, .int (xJ a0), .int (xJ a1)] d e P := by
  refine yC_of rfl rfl rfl (by omega) (yk_58_11_0 (by omega) ?_)
  refine ⟨o, by omega, ?_⟩
  exact h
theorem yk_64_0 {D L : Nat} {P : Int → xh_D → xd_E → Prop} {d : xh_D} {e : xd_E} {a1 : Int}   (h : ((0 ≤ a1 ∧ a1 < 9) ∧ P (xi_and (d 127 (9 : Int)) (xi_xor (d 133 a1) (-1 : Int))) d e)) : yB D xm_c64 (yQi L P) L 0 [.ref 127, .int (xJ a1)] [] d e := by
  refine yb_aload rfl rfl ?_
  refine yb_get (v := .int (xJ (d 127 (9 : Int)))) rfl (by decide) (by decide) (rfl) rfl ?_
  refine yb_aload rfl rfl ?_
  refine yb_get (v := .ref 133) rfl (by decide) (by decide) (rfl) rfl ?_
  refine yb_iload (x := a1) rfl rfl ?_
  have r1 := h.1
  replace h := h.2
  refine yb_iald (j := a1) rfl xd_A133 (by decide) r1 (v := (d 133 a1)) rfl ?_
  refine yb_push (v := (-1)) rfl ?_
  refine yb_ixor (x := (d 133 a1)) (y := (-1 : Int)) rfl ?_
  refine yb_iand (x := (d 127 (9 : Int))) (y := (xi_xor (d 133 a1) (-1 : Int))) rfl ?_
  exact yb_ret rfl h
theorem sp_64 {D L : Nat} {P : Int → xh_D → xd_E → Prop} {d : xh_D} {e : xd_E} {a0 : Int} (hD : 1 ≤ D) (o : (0 ≤ a0 ∧ a0 < 9)) (h : P (xi_and (d 127 (9 : Int)) (xi_xor (d 133 a0) (-1 : Int))) d e) : yC D 64 L [.ref 127, .int (xJ a0)] d e P := by
  refine yC_of rfl rfl rfl (by omega) (yk_64_0 ?_)
  exact ⟨o, h⟩
theorem yk_69_0 {D L : Nat} {P : xh_D → xd_E → Prop} {d : xh_D} {e : xd_E} {a1 : Int} {a2 : Int} {a3 : Int}   (h : ((0 ≤ a2 ∧ a2 < 9) ∧ ((0 ≤ a3 ∧ a3 < 9) ∧ P (xs (xs d 133 a2 (xi_xor (d 133 a2) (xi_shl (1 : Int) a1))) 133 a3 (xi_xor ((xs d 133 a2 (xi_xor (d 133 a2) (xi_shl (1 : Int) a1))) 133 a3) (xi_shl (1 : Int) a1))) e))) : yB D xm_c69 (yQv L P) L 0 [.ref 127, .int (xJ a1), .int (xJ a2), .int (xJ a3)] [] d e := by
  refine yb_aload rfl rfl ?_
  refine yb_get (v := .ref 133) rfl (by decide) (by decide) (rfl) rfl ?_
  refine yb_iload (x := a2) rfl rfl ?_
  refine yb_dup2 rfl rfl rfl ?_
  have r1 := h.1
  replace h := h.2
  refine yb_iald (j := a2) rfl xd_A133 (by decide) r1 (v := (d 133 a2)) rfl ?_
  refine yb_push (v := 1) rfl ?_
  refine yb_iload (x := a1) rfl rfl ?_
  refine yb_ishl (x := (1 : Int)) (y := a1) rfl ?_
  refine yb_ixor (x := (d 133 a2)) (y := (xi_shl (1 : Int) a1)) rfl ?_
  refine yb_iast (j := a2) (x := (xi_xor (d 133 a2) (xi_shl (1 : Int) a1))) rfl xd_A133 (by decide) r1 ?_
  refine yb_aload rfl rfl ?_
  refine yb_get (v := .ref 133) rfl (by decide) (by decide) (rfl) rfl ?_
  refine yb_iload (x := a3) rfl rfl ?_
  refine yb_dup2 rfl rfl rfl ?_
  have r2 := h.1
  replace h := h.2
  refine yb_iald (j := a3) rfl xd_A133 (by decide) r2 (v := ((xs d 133 a2 (xi_xor (d 133 a2) (xi_shl (1 : Int) a1))) 133 a3)) rfl ?_
  refine yb_push (v := 1) rfl ?_
  refine yb_iload (x := a1) rfl rfl ?_
  refine yb_ishl (x := (1 : Int)) (y := a1) rfl ?_
  refine yb_ixor (x := ((xs d 133 a2 (xi_xor (d 133 a2) (xi_shl (1 : Int) a1))) 133 a3)) (y := (xi_shl (1 : Int) a1)) rfl ?_
  refine yb_iast (j := a3) (x := (xi_xor ((xs d 133 a2 (xi_xor (d 133 a2) (xi_shl (1 : Int) a1))) 133 a3) (xi_shl (1 : Int) a1))) rfl xd_A133 (by decide) r2 ?_
  exact yb_retv rfl h
theorem sp_69 {D L : Nat} {P : xh_D → xd_E → Prop} {d : xh_D} {e : xd_E} {a0 a1 a2 : Int} (hD : 1 ≤ D) (o : (0 ≤ a1 ∧ a1 < 9) ∧ (0 ≤ a2 ∧ a2 < 9)) (h : P (xs (xs d 133 a1 (xi_xor (d 133 a1) (xi_shl (1 : Int) a0))) 133 a2 (xi_xor ((xs d 133 a1 (xi_xor (d 133 a1) (xi_shl (1 : Int) a0))) 133 a2) (xi_shl (1 : Int) a0))) e) : yV D 69 L [.ref 127, .int (xJ a0), .int (xJ a1), .int (xJ a2)] d e P := by
  refine yV_of rfl rfl rfl (by omega) (yk_69_0 ?_)
  exact ⟨o.1, o.2, h⟩
theorem yk_31_0 {D L : Nat} {P : xh_D → xd_E → Prop} {d : xh_D} {e : xd_E}    (h : P (xs d 4 (1 : Int) (0 : Int)) e) : yB D xm_c31 (yQv L P) L 0 [.ref 4] [] d e := by
  refine yb_aload rfl rfl ?_
  refine yb_push (v := 0) rfl ?_
  refine yb_put (z := (0 : Int)) (k := 1) rfl rfl (by decide) (by decide) (rfl) (Nat.le_of_ble_eq_true rfl) rfl (rfl) ?_
  exact yb_retv rfl h
theorem sp_31 {D L : Nat} {P : xh_D → xd_E → Prop} {d : xh_D} {e : xd_E} (hD : 1 ≤ D) (h : P (xs d 4 (1 : Int) (0 : Int)) e) : yV D 31 L [.ref 4] d e P := by
  refine yV_of rfl rfl rfl (by omega) (yk_31_0 ?_)
  exact h
theorem yk_32_0 {D L : Nat} {P : xh_D → xd_E → Prop} {d : xh_D} {e : xd_E} {a1 : Int}   (h : ((-2147483648 ≤ (d 4 (1 : Int)) ∧ (d 4 (1 : Int)) < 2147483648) ∧ ((((12 : Int) ≤ (d 4 (1 : Int))) → P d e) ∧ ((¬ (12 : Int) ≤ (d 4 (1 : Int))) → ((0 ≤ (d 4 (1 : Int)) ∧ (d 4 (1 : Int)) < 12) ∧ P (xs (xs d 5 (d 4 (1 : Int)) a1) 4 (1 : Int) ((d 4 (1 : Int)) + (1 : Int))) e))))) : yB D xm_c32 (yQv L P) L 0 [.ref 4, .int (xJ a1)] [] d e := by
  refine yb_aload rfl rfl ?_
  refine yb_get (v := .int (xJ (d 4 (1 : Int)))) rfl (by decide) (by decide) (rfl) rfl ?_
  refine yb_push (v := 12) rfl ?_
  have r1 := h.1
  replace h := h.2
  refine yb_icmp_ge (x := (d 4 (1 : Int))) (y := (12 : Int)) rfl rfl r1 (by decide) (fun c => ?_) (fun c => ?_)
  · replace h := h.1 c
    exact yb_retv rfl h
  · replace h := h.2 c
    refine yb_aload rfl rfl ?_
    refine yb_get (v := .ref 5) rfl (by decide) (by decide) (rfl) rfl ?_
    refine yb_aload rfl rfl ?_
    refine yb_get (v := .int (xJ (d 4 (1 : Int)))) rfl (by decide) (by decide) (rfl) rfl ?_
    refine yb_iload (x := a1) rfl rfl ?_
    have r2 := h.1
    replace h := h.2
    refine yb_iast (j := (d 4 (1 : Int))) (x := a1) rfl xd_A5 (by decide) r2 ?_
    refine yb_aload rfl rfl ?_
    refine yb_dup rfl rfl ?_
    refine yb_get (v := .int (xJ (d 4 (1 : Int)))) rfl (by decide) (by decide) (rfl) rfl ?_
    refine yb_push (v := 1) rfl ?_
    refine yb_iadd (x := (d 4 (1 : Int))) (y := (1 : Int)) rfl ?_
    refine yb_put (z := ((d 4 (1 : Int)) + (1 : Int))) (k := 1) rfl rfl (by decide) (by decide) (rfl) (Nat.le_of_ble_eq_true rfl) rfl (rfl) ?_
    exact yb_retv rfl h
theorem sp_32 {D L : Nat} {P : xh_D → xd_E → Prop} {d : xh_D} {e : xd_E} {a0 : Int} (hD : 1 ≤ D) (o : (0 ≤ (d 4 (1 : Int)) ∧ (d 4 (1 : Int)) < 12)) (h : P (xs (xs d 5 (d 4 (1 : Int)) a0) 4 (1 : Int) ((d 4 (1 : Int)) + 1)) e) : yV D 32 L [.ref 4, .int (xJ a0)] d e P := by
  refine yV_of rfl rfl rfl (by omega) (yk_32_0 ?_)
  repeat' (first | apply And.intro | intro _)
  all_goals first
    | omega
    | exact h
theorem yk_41_0 {D L : Nat} {P : xh_D → xd_E → Prop} {d : xh_D} {e : xd_E} {a1 : Int}   (h : ((-2147483648 ≤ (d 111 (7 : Int)) ∧ (d 111 (7 : Int)) < 2147483648) ∧ ((((40 : Int) ≤ (d 111 (7 : Int))) → P d e) ∧ ((¬ (40 : Int) ≤ (d 111 (7 : Int))) → ((0 ≤ (d 111 (7 : Int)) ∧ (d 111 (7 : Int)) < 40) ∧ P (xs (xs d 113 (d 111 (7 : Int)) a1) 111 (7 : Int) ((d 111 (7 : Int)) + (1 : Int))) e))))) : yB D xm_c41 (yQv L P) L 0 [.ref 111, .int (xJ a1)] [] d e := by
  refine yb_aload rfl rfl ?_
  refine yb_get (v := .int (xJ (d 111 (7 : Int)))) rfl (by decide) (by decide) (rfl) rfl ?_
  refine yb_push (v := 40) rfl ?_
  have r1 := h.1
  replace h := h.2
  refine yb_icmp_ge (x := (d 111 (7 : Int))) (y := (40 : Int)) rfl rfl r1 (by decide) (fun c => ?_) (fun c => ?_)
  · replace h := h.1 c
    exact yb_retv rfl h
  · replace h := h.2 c
    refine yb_aload rfl rfl ?_
    refine yb_get (v := .ref 113) rfl (by decide) (by decide) (rfl) rfl ?_
    refine yb_aload rfl rfl ?_
    refine yb_get (v := .int (xJ (d 111 (7 : Int)))) rfl (by decide) (by decide) (rfl) rfl ?_
    refine yb_iload (x := a1) rfl rfl ?_
    have r2 := h.1
    replace h := h.2
    refine yb_iast (j := (d 111 (7 : Int))) (x := a1) rfl xd_A113 (by decide) r2 ?_
    refine yb_aload rfl rfl ?_
    refine yb_dup rfl rfl ?_
    refine yb_get (v := .int (xJ (d 111 (7 : Int)))) rfl (by decide) (by decide) (rfl) rfl ?_
    refine yb_push (v := 1) rfl ?_
    refine yb_iadd (x := (d 111 (7 : Int))) (y := (1 : Int)) rfl ?_
    refine yb_put (z := ((d 111 (7 : Int)) + (1 : Int))) (k := 7) rfl rfl (by decide) (by decide) (rfl) (Nat.le_of_ble_eq_true rfl) rfl (rfl) ?_
    exact yb_retv rfl h
theorem sp_41 {D L : Nat} {P : xh_D → xd_E → Prop} {d : xh_D} {e : xd_E} {a0 : Int} (hD : 1 ≤ D) (o : (0 ≤ (d 111 (7 : Int)) ∧ (d 111 (7 : Int)) < 40)) (h : P (xs (xs d 113 (d 111 (7 : Int)) a0) 111 (7 : Int) ((d 111 (7 : Int)) + 1)) e) : yV D 41 L [.ref 111, .int (xJ a0)] d e P := by
  refine yV_of rfl rfl rfl (by omega) (yk_41_0 ?_)
  repeat' (first | apply And.intro | intro _)
  all_goals first
    | omega
    | exact h
theorem yk_42_0 {D L : Nat} {P : xh_D → xd_E → Prop} {d : xh_D} {e : xd_E} {a1 : Int}   (h : ((-2147483648 ≤ (d 111 (8 : Int)) ∧ (d 111 (8 : Int)) < 2147483648) ∧ ((((40 : Int) ≤ (d 111 (8 : Int))) → P d e) ∧ ((¬ (40 : Int) ≤ (d 111 (8 : Int))) → ((0 ≤ (d 111 (8 : Int)) ∧ (d 111 (8 : Int)) < 40) ∧ P (xs (xs d 114 (d 111 (8 : Int)) a1) 111 (8 : Int) ((d 111 (8 : Int)) + (1 : Int))) e))))) : yB D xm_c42 (yQv L P) L 0 [.ref 111, .int (xJ a1)] [] d e := by
  refine yb_aload rfl rfl ?_
  refine yb_get (v := .int (xJ (d 111 (8 : Int)))) rfl (by decide) (by decide) (rfl) rfl ?_
  refine yb_push (v := 40) rfl ?_
  have r1 := h.1
  replace h := h.2
  refine yb_icmp_ge (x := (d 111 (8 : Int))) (y := (40 : Int)) rfl rfl r1 (by decide) (fun c => ?_) (fun c => ?_)
  · replace h := h.1 c
    exact yb_retv rfl h
  · replace h := h.2 c
    refine yb_aload rfl rfl ?_
    refine yb_get (v := .ref 114) rfl (by decide) (by decide) (rfl) rfl ?_
    refine yb_aload rfl rfl ?_
    refine yb_get (v := .int (xJ (d 111 (8 : Int)))) rfl (by decide) (by decide) (rfl) rfl ?_
    refine yb_iload (x := a1) rfl rfl ?_
    have r2 := h.1
    replace h := h.2
    refine yb_iast (j := (d 111 (8 : Int))) (x := a1) rfl xd_A114 (by decide) r2 ?_
    refine yb_aload rfl rfl ?_
    refine yb_dup rfl rfl ?_
    refine yb_get (v := .int (xJ (d 111 (8 : Int)))) rfl (by decide) (by decide) (rfl) rfl ?_
    refine yb_push (v := 1) rfl ?_
    refine yb_iadd (x := (d 111 (8 : Int))) (y := (1 : Int)) rfl ?_
    refine yb_put (z := ((d 111 (8 : Int)) + (1 : Int))) (k := 8) rfl rfl (by decide) (by decide) (rfl) (Nat.le_of_ble_eq_true rfl) rfl (rfl) ?_
    exact yb_retv rfl h
theorem sp_42 {D L : Nat} {P : xh_D → xd_E → Prop} {d : xh_D} {e : xd_E} {a0 : Int} (hD : 1 ≤ D) (o : (0 ≤ (d 111 (8 : Int)) ∧ (d 111 (8 : Int)) < 40)) (h : P (xs (xs d 114 (d 111 (8 : Int)) a0) 111 (8 : Int) ((d 111 (8 : Int)) + 1)) e) : yV D 42 L [.ref 111, .int (xJ a0)] d e P := by
  refine yV_of rfl rfl rfl (by omega) (yk_42_0 ?_)
  repeat' (first | apply And.intro | intro _)
  all_goals first
    | omega
    | exact h
theorem yk_62_0 {D L : Nat} {P : xh_D → xd_E → Prop} {d : xh_D} {e : xd_E} {a1 : Int} {a2 : Int}   (h : ((-2147483648 ≤ (d 127 (8 : Int)) ∧ (d 127 (8 : Int)) < 2147483648) ∧ ((((6 : Int) ≤ (d 127 (8 : Int))) → P d e) ∧ ((¬ (6 : Int) ≤ (d 127 (8 : Int))) → ((0 ≤ (d 127 (8 : Int)) ∧ (d 127 (8 : Int)) < 6) ∧ P (xs (xs (xs d 128 (d 127 (8 : Int)) a1) 129 (d 127 (8 : Int)) a2) 127 (8 : Int) ((d 127 (8 : Int)) + (1 : Int))) e))))) : yB D xm_c62 (yQv L P) L 0 [.ref 127, .int (xJ a1), .int (xJ a2)] [] d e := by
  refine yb_aload rfl rfl ?_
  refine yb_get (v := .int (xJ (d 127 (8 : Int)))) rfl (by decide) (by decide) (rfl) rfl ?_
  refine yb_push (v := 6) rfl ?_
  have r1 := h.1
  replace h := h.2
  refine yb_icmp_ge (x := (d 127 (8 : Int))) (y := (6 : Int)) rfl rfl r1 (by decide) (fun c => ?_) (fun c => ?_)
  · replace h := h.1 c
    exact yb_retv rfl h
  · replace h := h.2 c
    refine yb_aload rfl rfl ?_
    refine yb_get (v := .ref 128) rfl (by decide) (by decide) (rfl) rfl ?_
    refine yb_aload rfl rfl ?_
    refine yb_get (v := .int (xJ (d 127 (8 : Int)))) rfl (by decide) (by decide) (rfl) rfl ?_
    refine yb_iload (x := a1) rfl rfl ?_
    have r2 := h.1
    replace h := h.2
    refine yb_iast (j := (d 127 (8 : Int))) (x := a1) rfl xd_A128 (by decide) r2 ?_
    refine yb_aload rfl rfl ?_
    refine yb_get (v := .ref 129) rfl (by decide) (by decide) (rfl) rfl ?_
    refine yb_aload rfl rfl ?_
    refine yb_get (v := .int (xJ (d 127 (8 : Int)))) rfl (by decide) (by decide) (rfl) rfl ?_
    refine yb_iload (x := a2) rfl rfl ?_
    refine yb_iast (j := (d 127 (8 : Int))) (x := a2) rfl xd_A129 (by decide) r2 ?_
    refine yb_aload rfl rfl ?_
    refine yb_dup rfl rfl ?_
    refine yb_get (v := .int (xJ (d 127 (8 : Int)))) rfl (by decide) (by decide) (rfl) rfl ?_
    refine yb_push (v := 1) rfl ?_
    refine yb_iadd (x := (d 127 (8 : Int))) (y := (1 : Int)) rfl ?_
    refine yb_put (z := ((d 127 (8 : Int)) + (1 : Int))) (k := 8) rfl rfl (by decide) (by decide) (rfl) (Nat.le_of_ble_eq_true rfl) rfl (rfl) ?_
    exact yb_retv rfl h
theorem sp_62 {D L : Nat} {P : xh_D → xd_E → Prop} {d : xh_D} {e : xd_E} {a0 a1 : Int} (hD : 1 ≤ D) (o : (0 ≤ (d 127 (8 : Int)) ∧ (d 127 (8 : Int)) < 6)) (h : P (xs (xs (xs d 128 (d 127 (8 : Int)) a0) 129 (d 127 (8 : Int)) a1) 127 (8 : Int) ((d 127 (8 : Int)) + 1)) e) : yV D 62 L [.ref 127, .int (xJ a0), .int (xJ a1)] d e P := by
  refine yV_of rfl rfl rfl (by omega) (yk_62_0 ?_)
  repeat' (first | apply And.intro | intro _)
  all_goals first
    | omega
    | exact h
theorem yk_89_0 {D L : Nat} {P : xh_D → xd_E → Prop} {d : xh_D} {e : xd_E} {a1 : Int} {a2 : Int} {a3 : Int}   (h : ((-2147483648 ≤ (d 136 (5 : Int)) ∧ (d 136 (5 : Int)) < 2147483648) ∧ ((((12 : Int) ≤ (d 136 (5 : Int))) → P d e) ∧ ((¬ (12 : Int) ≤ (d 136 (5 : Int))) → ((0 ≤ (d 136 (5 : Int)) ∧ (d 136 (5 : Int)) < 12) ∧ P (xs (xs (xs (xs d 137 (d 136 (5 : Int)) a1) 138 (d 136 (5 : Int)) a2) 139 (d 136 (5 : Int)) a3) 136 (5 : Int) ((d 136 (5 : Int)) + (1 : Int))) e))))) : yB D xm_c89 (yQv L P) L 0 [.ref 136, .int (xJ a1), .int (xJ a2), .int (xJ a3)] [] d e := by
  refine yb_aload rfl rfl ?_
  refine yb_get (v := .int (xJ (d 136 (5 : Int)))) rfl (by decide) (by decide) (rfl) rfl ?_
  refine yb_push (v := 12) rfl ?_
  have r1 := h.1
  replace h := h.2
  refine yb_icmp_ge (x := (d 136 (5 : Int))) (y := (12 : Int)) rfl rfl r1 (by decide) (fun c => ?_) (fun c => ?_)
  · replace h := h.1 c
    exact yb_retv rfl h
  · replace h := h.2 c
    refine yb_aload rfl rfl ?_
    refine yb_get (v := .ref 137) rfl (by decide) (by decide) (rfl) rfl ?_
    refine yb_aload rfl rfl ?_
    refine yb_get (v := .int (xJ (d 136 (5 : Int)))) rfl (by decide) (by decide) (rfl) rfl ?_
    refine yb_iload (x := a1) rfl rfl ?_
    have r2 := h.1
    replace h := h.2
    refine yb_iast (j := (d 136 (5 : Int))) (x := a1) rfl xd_A137 (by decide) r2 ?_
    refine yb_aload rfl rfl ?_
    refine yb_get (v := .ref 138) rfl (by decide) (by decide) (rfl) rfl ?_
    refine yb_aload rfl rfl ?_
    refine yb_get (v := .int (xJ (d 136 (5 : Int)))) rfl (by decide) (by decide) (rfl) rfl ?_
    refine yb_iload (x := a2) rfl rfl ?_
    refine yb_iast (j := (d 136 (5 : Int))) (x := a2) rfl xd_A138 (by decide) r2 ?_
    refine yb_aload rfl rfl ?_
    refine yb_get (v := .ref 139) rfl (by decide) (by decide) (rfl) rfl ?_
    refine yb_aload rfl rfl ?_
    refine yb_get (v := .int (xJ (d 136 (5 : Int)))) rfl (by decide) (by decide) (rfl) rfl ?_
    refine yb_iload (x := a3) rfl rfl ?_
    refine yb_iast (j := (d 136 (5 : Int))) (x := a3) rfl xd_A139 (by decide) r2 ?_
    refine yb_aload rfl rfl ?_
    refine yb_dup rfl rfl ?_
    refine yb_get (v := .int (xJ (d 136 (5 : Int)))) rfl (by decide) (by decide) (rfl) rfl ?_
    refine yb_push (v := 1) rfl ?_
    refine yb_iadd (x := (d 136 (5 : Int))) (y := (1 : Int)) rfl ?_
    refine yb_put (z := ((d 136 (5 : Int)) + (1 : Int))) (k := 5) rfl rfl (by decide) (by decide) (rfl) (Nat.le_of_ble_eq_true rfl) rfl (rfl) ?_
    exact yb_retv rfl h
theorem sp_89 {D L : Nat} {P : xh_D → xd_E → Prop} {d : xh_D} {e : xd_E} {a0 a1 a2 : Int} (hD : 1 ≤ D) (o : (0 ≤ (d 136 (5 : Int)) ∧ (d 136 (5 : Int)) < 12)) (h : P (xs (xs (xs (xs d 137 (d 136 (5 : Int)) a0) 138 (d 136 (5 : Int)) a1) 139 (d 136 (5 : Int)) a2) 136 (5 : Int) ((d 136 (5 : Int)) + 1)) e) : yV D 89 L [.ref 136, .int (xJ a0), .int (xJ a1), .int (xJ a2)] d e P := by
  refine yV_of rfl rfl rfl (by omega) (yk_89_0 ?_)
  repeat' (first | apply And.intro | intro _)
  all_goals first
    | omega
    | exact h
theorem yk_80_0 {D L : Nat} {P : xh_D → xd_E → Prop} {d : xh_D} {e : xd_E} {a1 : Int} {a2 : Int}   (h : ((-2147483648 ≤ (d 142 (3 : Int)) ∧ (d 142 (3 : Int)) < 2147483648) ∧ ((((10 : Int) ≤ (d 142 (3 : Int))) → P d e) ∧ ((¬ (10 : Int) ≤ (d 142 (3 : Int))) → ((0 ≤ (d 142 (3 : Int)) ∧ (d 142 (3 : Int)) < 10) ∧ P (xs (xs (xs d 143 (d 142 (3 : Int)) a1) 144 (d 142 (3 : Int)) a2) 142 (3 : Int) ((d 142 (3 : Int)) + (1 : Int))) e))))) : yB D xm_c80 (yQv L P) L 0 [.ref 142, .int (xJ a1), .int (xJ a2)] [] d e := by
  refine yb_aload rfl rfl ?_
  refine yb_get (v := .int (xJ (d 142 (3 : Int)))) rfl (by decide) (by decide) (rfl) rfl ?_
  refine yb_push (v := 10) rfl ?_
  have r1 := h.1
  replace h := h.2
  refine yb_icmp_ge (x := (d 142 (3 : Int))) (y := (10 : Int)) rfl rfl r1 (by decide) (fun c => ?_) (fun c => ?_)
  · replace h := h.1 c
    exact yb_retv rfl h
  · replace h := h.2 c
    refine yb_aload rfl rfl ?_
    refine yb_get (v := .ref 143) rfl (by decide) (by decide) (rfl) rfl ?_
    refine yb_aload rfl rfl ?_
    refine yb_get (v := .int (xJ (d 142 (3 : Int)))) rfl (by decide) (by decide) (rfl) rfl ?_
    refine yb_iload (x := a1) rfl rfl ?_
    have r2 := h.1
    replace h := h.2
    refine yb_iast (j := (d 142 (3 : Int))) (x := a1) rfl xd_A143 (by decide) r2 ?_
    refine yb_aload rfl rfl ?_
    refine yb_get (v := .ref 144) rfl (by decide) (by decide) (rfl) rfl ?_
    refine yb_aload rfl rfl ?_
    refine yb_get (v := .int (xJ (d 142 (3 : Int)))) rfl (by decide) (by decide) (rfl) rfl ?_
    refine yb_iload (x := a2) rfl rfl ?_
    refine yb_iast (j := (d 142 (3 : Int))) (x := a2) rfl xd_A144 (by decide) r2 ?_
    refine yb_aload rfl rfl ?_
    refine yb_dup rfl rfl ?_
    refine yb_get (v := .int (xJ (d 142 (3 : Int)))) rfl (by decide) (by decide) (rfl) rfl ?_
    refine yb_push (v := 1) rfl ?_
    refine yb_iadd (x := (d 142 (3 : Int))) (y := (1 : Int)) rfl ?_
    refine yb_put (z := ((d 142 (3 : Int)) + (1 : Int))) (k := 3) rfl rfl (by decide) (by decide) (rfl) (Nat.le_of_ble_eq_true rfl) rfl (rfl) ?_
    exact yb_retv rfl h
theorem sp_80 {D L : Nat} {P : xh_D → xd_E → Prop} {d : xh_D} {e : xd_E} {a0 a1 : Int} (hD : 1 ≤ D) (o : (0 ≤ (d 142 (3 : Int)) ∧ (d 142 (3 : Int)) < 10)) (h : P (xs (xs (xs d 143 (d 142 (3 : Int)) a0) 144 (d 142 (3 : Int)) a1) 142 (3 : Int) ((d 142 (3 : Int)) + 1)) e) : yV D 80 L [.ref 142, .int (xJ a0), .int (xJ a1)] d e P := by
  refine yV_of rfl rfl rfl (by omega) (yk_80_0 ?_)
  repeat' (first | apply And.intro | intro _)
  all_goals first
    | omega
    | exact h
theorem yk_104_0 {D L : Nat} {P : xh_D → xd_E → Prop} {d : xh_D} {e : xd_E} {a1 : Int} {a2 : Int} {a3 : Int}   (h : ((-2147483648 ≤ (d 6 (4 : Int)) ∧ (d 6 (4 : Int)) < 2147483648) ∧ ((((9 : Int) ≤ (d 6 (4 : Int))) → P d e) ∧ ((¬ (9 : Int) ≤ (d 6 (4 : Int))) → ((0 ≤ (d 6 (4 : Int)) ∧ (d 6 (4 : Int)) < 9) ∧ P (xs (xs (xs (xs d 12 (d 6 (4 : Int)) a1) 13 (d 6 (4 : Int)) a2) 14 (d 6 (4 : Int)) a3) 6 (4 : Int) ((d 6 (4 : Int)) + (1 : Int))) e))))) : yB D xm_c104 (yQv L P) L 0 [.ref 1, .int (xJ a1), .int (xJ a2), .int (xJ a3)] [] d e := by
  refine yb_aload rfl rfl ?_
  refine yb_get (v := .ref 6) rfl (by decide) (by decide) (rfl) rfl ?_
  refine yb_get (v := .int (xJ (d 6 (4 : Int)))) rfl (by decide) (by decide) (rfl) rfl ?_
  refine yb_push (v := 9) rfl ?_
  have r1 := h.1
  replace h := h.2
  refine yb_icmp_ge (x := (d 6 (4 : Int))) (y := (9 : Int)) rfl rfl r1 (by decide) (fun c => ?_) (fun c => ?_)
  · replace h := h.1 c
    exact yb_retv rfl h
  · replace h := h.2 c
    refine yb_aload rfl rfl ?_
    refine yb_get (v := .ref 11) rfl (by decide) (by decide) (rfl) rfl ?_
    refine yb_get (v := .ref 12) rfl (by decide) (by decide) (rfl) rfl ?_
    refine yb_aload rfl rfl ?_
    refine yb_get (v := .ref 6) rfl (by decide) (by decide) (rfl) rfl ?_
    refine yb_get (v := .int (xJ (d 6 (4 : Int)))) rfl (by decide) (by decide) (rfl) rfl ?_
    refine yb_iload (x := a1) rfl rfl ?_
    have r2 := h.1
    replace h := h.2
    refine yb_iast (j := (d 6 (4 : Int))) (x := a1) rfl xd_A12 (by decide) r2 ?_
    refine yb_aload rfl rfl ?_
    refine yb_get (v := .ref 11) rfl (by decide) (by decide) (rfl) rfl ?_
    refine yb_get (v := .ref 13) rfl (by decide) (by decide) (rfl) rfl ?_
    refine yb_aload rfl rfl ?_
    refine yb_get (v := .ref 6) rfl (by decide) (by decide) (rfl) rfl ?_
    refine yb_get (v := .int (xJ (d 6 (4 : Int)))) rfl (by decide) (by decide) (rfl) rfl ?_
    refine yb_iload (x := a2) rfl rfl ?_
    refine yb_iast (j := (d 6 (4 : Int))) (x := a2) rfl xd_A13 (by decide) r2 ?_
    refine yb_aload rfl rfl ?_
    refine yb_get (v := .ref 11) rfl (by decide) (by decide) (rfl) rfl ?_
    refine yb_get (v := .ref 14) rfl (by decide) (by decide) (rfl) rfl ?_
    refine yb_aload rfl rfl ?_
    refine yb_get (v := .ref 6) rfl (by decide) (by decide) (rfl) rfl ?_
    refine yb_get (v := .int (xJ (d 6 (4 : Int)))) rfl (by decide) (by decide) (rfl) rfl ?_
    refine yb_iload (x := a3) rfl rfl ?_
    refine yb_iast (j := (d 6 (4 : Int))) (x := a3) rfl xd_A14 (by decide) r2 ?_
    refine yb_aload rfl rfl ?_
    refine yb_get (v := .ref 6) rfl (by decide) (by decide) (rfl) rfl ?_
    refine yb_dup rfl rfl ?_
    refine yb_get (v := .int (xJ (d 6 (4 : Int)))) rfl (by decide) (by decide) (rfl) rfl ?_
    refine yb_push (v := 1) rfl ?_
    refine yb_iadd (x := (d 6 (4 : Int))) (y := (1 : Int)) rfl ?_
    refine yb_put (z := ((d 6 (4 : Int)) + (1 : Int))) (k := 4) rfl rfl (by decide) (by decide) (rfl) (Nat.le_of_ble_eq_true rfl) rfl (rfl) ?_
    exact yb_retv rfl h
theorem sp_104 {D L : Nat} {P : xh_D → xd_E → Prop} {d : xh_D} {e : xd_E} {a0 a1 a2 : Int} (hD : 1 ≤ D) (o : (0 ≤ (d 6 (4 : Int)) ∧ (d 6 (4 : Int)) < 9)) (h : P (xs (xs (xs (xs d 12 (d 6 (4 : Int)) a0) 13 (d 6 (4 : Int)) a1) 14 (d 6 (4 : Int)) a2) 6 (4 : Int) ((d 6 (4 : Int)) + 1)) e) : yV D 104 L [.ref 1, .int (xJ a0), .int (xJ a1), .int (xJ a2)] d e P := by
  refine yV_of rfl rfl rfl (by omega) (yk_104_0 ?_)
  repeat' (first | apply And.intro | intro _)
  all_goals first
    | omega
    | exact h
theorem yk_19_0 {D L : Nat} {P : xh_D → xd_E → Prop} {d : xh_D} {e : xd_E}    (h : P (xs d 23 (4 : Int) (0 : Int)) e) : yB D xm_c19 (yQv L P) L 0 [.ref 23] [] d e := by
  refine yb_aload rfl rfl ?_
  refine yb_push (v := 0) rfl ?_
  refine yb_put (z := (0 : Int)) (k := 4) rfl rfl (by decide) (by decide) (rfl) (Nat.le_of_ble_eq_true rfl) rfl (rfl) ?_
  exact yb_retv rfl h
theorem sp_19 {D L : Nat} {P : xh_D → xd_E → Prop} {d : xh_D} {e : xd_E} (hD : 1 ≤ D) (h : P (xs d 23 (4 : Int) (0 : Int)) e) : yV D 19 L [.ref 23] d e P := by
  refine yV_of rfl rfl rfl (by omega) (yk_19_0 ?_)
  exact h
theorem yk_35_0 {D L : Nat} {P : xh_D → xd_E → Prop} {d : xh_D} {e : xd_E}    (h : P (xs (xs (xs (xs (xs (xs d 111 (7 : Int) (0 : Int)) 111 (8 : Int) (0 : Int)) 111 (9 : Int) (0 : Int)) 111 (10 : Int) (0 : Int)) 111 (11 : Int) (1 : Int)) 117 (0 : Int) (0 : Int)) e) : yB D xm_c35 (yQv L P) L 0 [.ref 111] [] d e := by
  refine yb_aload rfl rfl ?_
  refine yb_push (v := 0) rfl ?_
  refine yb_put (z := (0 : Int)) (k := 7) rfl rfl (by decide) (by decide) (rfl) (Nat.le_of_ble_eq_true rfl) rfl (rfl) ?_
  refine yb_aload rfl rfl ?_
  refine yb_push (v := 0) rfl ?_
  refine yb_put (z := (0 : Int)) (k := 8) rfl rfl (by decide) (by decide) (rfl) (Nat.le_of_ble_eq_true rfl) rfl (rfl) ?_
  refine yb_aload rfl rfl ?_
  refine yb_push (v := 0) rfl ?_
  refine yb_put (z := (0 : Int)) (k := 9) rfl rfl (by decide) (by decide) (rfl) (Nat.le_of_ble_eq_true rfl) rfl (rfl) ?_
  refine yb_aload rfl rfl ?_
  refine yb_push (v := 0) rfl ?_
  refine yb_put (z := (0 : Int)) (k := 10) rfl rfl (by decide) (by decide) (rfl) (Nat.le_of_ble_eq_true rfl) rfl (rfl) ?_
  refine yb_aload rfl rfl ?_
  refine yb_push (v := 1) rfl ?_
  refine yb_put (z := (1 : Int)) (k := 11) rfl rfl (by decide) (by decide) (rfl) (Nat.le_of_ble_eq_true rfl) (by decide) (rfl) ?_
  refine yb_aload rfl rfl ?_
  refine yb_get (v := .ref 117) rfl (by decide) (by decide) (rfl) rfl ?_
  refine yb_push (v := 0) rfl ?_
  refine yb_push (v := 0) rfl ?_
  refine yb_bast (j := (0 : Int)) (x := (0 : Int)) rfl (Or.inr ⟨rfl, by decide⟩) xd_A117 (by decide) ?_
  exact yb_retv rfl h
theorem sp_35 {D L : Nat} {P : xh_D → xd_E → Prop} {d : xh_D} {e : xd_E} (hD : 1 ≤ D) (h : P (xs (xs (xs (xs (xs (xs d 111 (7 : Int) (0 : Int)) 111 (8 : Int) (0 : Int)) 111 (9 : Int) (0 : Int)) 111 (10 : Int) (0 : Int)) 111 (11 : Int) (1 : Int)) 117 (0 : Int) (0 : Int)) e) : yV D 35 L [.ref 111] d e P := by
  refine yV_of rfl rfl rfl (by omega) (yk_35_0 ?_)
  exact h
theorem yk_27_12_0 {D L : Nat} {P1 P0 : xh_D → xd_E → Prop} {d : xh_D} {e : xd_E} {a2 : Int} {a3 : Int}   (h : ((0 ≤ a3 ∧ a3 < 9) ∧ ((0 ≤ ((a2 * (9 : Int)) + (d 12 a3)) ∧ ((a2 * (9 : Int)) + (d 12 a3)) < 81) ∧ ((0 ≤ a2 ∧ a2 < 9) ∧ ((0 ≤ ((a2 * (9 : Int)) + (d 12 a2)) ∧ ((a2 * (9 : Int)) + (d 12 a2)) < 81) ∧ ((-2147483648 ≤ (d 8 ((a2 * (9 : Int)) + (d 12 a3))) ∧ (d 8 ((a2 * (9 : Int)) + (d 12 a3))) < 2147483648) ∧ ((-2147483648 ≤ (d 8 ((a2 * (9 : Int)) + (d 12 a2))) ∧ (d 8 ((a2 * (9 : Int)) + (d 12 a2))) < 2147483648) ∧ ((((d 8 ((a2 * (9 : Int)) + (d 12 a3))) ≤ (d 8 ((a2 * (9 : Int)) + (d 12 a2)))) → P0 d e) ∧ ((¬ (d 8 ((a2 * (9 : Int)) + (d 12 a3))) ≤ (d 8 ((a2 * (9 : Int)) + (d 12 a2)))) → P1 d e))))))))) : yB D xm_c27 (yQz L P1 P0) L 0 [.ref 6, .ref 12, .int (xJ a2), .int (xJ a3)] [] d e := by
  refine yb_aload rfl rfl ?_
  refine yb_get (v := .ref 8) rfl (by decide) (by decide) (rfl) rfl ?_
  refine yb_iload (x := a2) rfl rfl ?_
  refine yb_push (v := 9) rfl ?_
  refine yb_imul (x := a2) (y := (9 : Int)) rfl ?_
  refine yb_aload rfl rfl ?_
  refine yb_iload (x := a3) rfl rfl ?_
  have r1 := h.1
  replace h := h.2
  refine yb_iald (j := a3) rfl xd_A12 (by decide) r1 (v := (d 12 a3)) rfl ?_
  refine yb_iadd (x := (a2 * (9 : Int))) (y := (d 12 a3)) rfl ?_
  have r2 := h.1
  replace h := h.2
  refine yb_iald (j := ((a2 * (9 : Int)) + (d 12 a3))) rfl xd_A8 (by decide) r2 (v := (d 8 ((a2 * (9 : Int)) + (d 12 a3)))) rfl ?_
  refine yb_aload rfl rfl ?_
  refine yb_get (v := .ref 8) rfl (by decide) (by decide) (rfl) rfl ?_
  refine yb_iload (x := a2) rfl rfl ?_
  refine yb_push (v := 9) rfl ?_
  refine yb_imul (x := a2) (y := (9 : Int)) rfl ?_
  refine yb_aload rfl rfl ?_
  refine yb_iload (x := a2) rfl rfl ?_
  have r3 := h.1
  replace h := h.2
  refine yb_iald (j := a2) rfl xd_A12 (by decide) r3 (v := (d 12 a2)) rfl ?_
  refine yb_iadd (x := (a2 * (9 : Int))) (y := (d 12 a2)) rfl ?_
  have r4 := h.1
  replace h := h.2
  refine yb_iald (j := ((a2 * (9 : Int)) + (d 12 a2))) rfl xd_A8 (by decide) r4 (v := (d 8 ((a2 * (9 : Int)) + (d 12 a2)))) rfl ?_
  have r5 := h.1
  replace h := h.2
  have r6 := h.1
  replace h := h.2
  refine yb_icmp_le (x := (d 8 ((a2 * (9 : Int)) + (d 12 a3)))) (y := (d 8 ((a2 * (9 : Int)) + (d 12 a2)))) rfl rfl r5 r6 (fun c => ?_) (fun c => ?_)
  · replace h := h.1 c
    refine yb_push (v := 0) rfl ?_
    exact yb_ret0 rfl h
  · replace h := h.2 c
    refine yb_push (v := 1) rfl ?_
    refine yb_goto rfl rfl ?_
    exact yb_ret1 rfl h
theorem sp_27_12 {D L : Nat} {P1 P0 : xh_D → xd_E → Prop} {d : xh_D} {e : xd_E} {a1 a2 : Int} (hD : 1 ≤ D) (o : (0 ≤ a1 ∧ a1 < 9) ∧ (0 ≤ a2 ∧ a2 < 9) ∧ (0 ≤ (d 12 a1) ∧ (d 12 a1) < 9) ∧ (0 ≤ (d 12 a2) ∧ (d 12 a2) < 9) ∧ (-2147483648 ≤ (d 8 (a1 * 9 + (d 12 a1))) ∧ (d 8 (a1 * 9 + (d 12 a1))) < 2147483648) ∧ (-2147483648 ≤ (d 8 (a1 * 9 + (d 12 a2))) ∧ (d 8 (a1 * 9 + (d 12 a2))) < 2147483648)) (h1 : ((d 8 (a1 * 9 + (d 12 a1))) < (d 8 (a1 * 9 + (d 12 a2)))) → P1 d e) (h0 : ¬ ((d 8 (a1 * 9 + (d 12 a1))) < (d 8 (a1 * 9 + (d 12 a2)))) → P0 d e) : yZ D 27 L [.ref 6, .ref 12, .int (xJ a1), .int (xJ a2)] d e P1 P0 := by
  refine yZ_of rfl rfl rfl (by omega) (yk_27_12_0 ?_)
  repeat' (first | apply And.intro | intro _)
  all_goals first
    | omega
    | exact h1 (by omega)
    | exact h0 (by omega)
theorem yk_27_18_0 {D L : Nat} {P1 P0 : xh_D → xd_E → Prop} {d : xh_D} {e : xd_E} {a2 : Int} {a3 : Int}   (h : ((0 ≤ a3 ∧ a3 < 9) ∧ ((0 ≤ ((a2 * (9 : Int)) + (d 18 a3)) ∧ ((a2 * (9 : Int)) + (d 18 a3)) < 81) ∧ ((0 ≤ a2 ∧ a2 < 9) ∧ ((0 ≤ ((a2 * (9 : Int)) + (d 18 a2)) ∧ ((a2 * (9 : Int)) + (d 18 a2)) < 81) ∧ ((-2147483648 ≤ (d 8 ((a2 * (9 : Int)) + (d 18 a3))) ∧ (d 8 ((a2 * (9 : Int)) + (d 18 a3))) < 2147483648) ∧ ((-2147483648 ≤ (d 8 ((a2 * (9 : Int)) + (d 18 a2))) ∧ (d 8 ((a2 * (9 : Int)) + (d 18 a2))) < 2147483648) ∧ ((((d 8 ((a2 * (9 : Int)) + (d 18 a3))) ≤ (d 8 ((a2 * (9 : Int)) + (d 18 a2)))) → P0 d e) ∧ ((¬ (d 8 ((a2 * (9 : Int)) + (d 18 a3))) ≤ (d 8 ((a2 * (9 : Int)) + (d 18 a2)))) → P1 d e))))))))) : yB D xm_c27 (yQz L P1 P0) L 0 [.ref 6, .ref 18, .int (xJ a2), .int (xJ a3)] [] d e := by
  refine yb_aload rfl rfl ?_
  refine yb_get (v := .ref 8) rfl (by decide) (by decide) (rfl) rfl ?_
  refine yb_iload (x := a2) rfl rfl ?_
  refine yb_push (v := 9) rfl ?_
  refine yb_imul (x := a2) (y := (9 : Int)) rfl ?_
  refine yb_aload rfl rfl ?_
  refine yb_iload (x := a3) rfl rfl ?_
  have r1 := h.1
  replace h := h.2
  refine yb_iald (j := a3) rfl xd_A18 (by decide) r1 (v := (d 18 a3)) rfl ?_
  refine yb_iadd (x := (a2 * (9 : Int))) (y := (d 18 a3)) rfl ?_
  have r2 := h.1
  replace h := h.2
  refine yb_iald (j := ((a2 * (9 : Int)) + (d 18 a3))) rfl xd_A8 (by decide) r2 (v := (d 8 ((a2 * (9 : Int)) + (d 18 a3)))) rfl ?_
  refine yb_aload rfl rfl ?_
  refine yb_get (v := .ref 8) rfl (by decide) (by decide) (rfl) rfl ?_
  refine yb_iload (x := a2) rfl rfl ?_
  refine yb_push (v := 9) rfl ?_
  refine yb_imul (x := a2) (y := (9 : Int)) rfl ?_
  refine yb_aload rfl rfl ?_
  refine yb_iload (x := a2) rfl rfl ?_
  have r3 := h.1
  replace h := h.2
  refine yb_iald (j := a2) rfl xd_A18 (by decide) r3 (v := (d 18 a2)) rfl ?_
  refine yb_iadd (x := (a2 * (9 : Int))) (y := (d 18 a2)) rfl ?_
  have r4 := h.1
  replace h := h.2
  refine yb_iald (j := ((a2 * (9 : Int)) + (d 18 a2))) rfl xd_A8 (by decide) r4 (v := (d 8 ((a2 * (9 : Int)) + (d 18 a2)))) rfl ?_
  have r5 := h.1
  replace h := h.2
  have r6 := h.1
  replace h := h.2
  refine yb_icmp_le (x := (d 8 ((a2 * (9 : Int)) + (d 18 a3)))) (y := (d 8 ((a2 * (9 : Int)) + (d 18 a2)))) rfl rfl r5 r6 (fun c => ?_) (fun c => ?_)
  · replace h := h.1 c
    refine yb_push (v := 0) rfl ?_
    exact yb_ret0 rfl h
  · replace h := h.2 c
    refine yb_push (v := 1) rfl ?_
    refine yb_goto rfl rfl ?_
    exact yb_ret1 rfl h
theorem sp_27_18 {D L : Nat} {P1 P0 : xh_D → xd_E → Prop} {d : xh_D} {e : xd_E} {a1 a2 : Int} (hD : 1 ≤ D) (o : (0 ≤ a1 ∧ a1 < 9) ∧ (0 ≤ a2 ∧ a2 < 9) ∧ (0 ≤ (d 18 a1) ∧ (d 18 a1) < 9) ∧ (0 ≤ (d 18 a2) ∧ (d 18 a2) < 9) ∧ (-2147483648 ≤ (d 8 (a1 * 9 + (d 18 a1))) ∧ (d 8 (a1 * 9 + (d 18 a1))) < 2147483648) ∧ (-2147483648 ≤ (d 8 (a1 * 9 + (d 18 a2))) ∧ (d 8 (a1 * 9 + (d 18 a2))) < 2147483648)) (h1 : ((d 8 (a1 * 9 + (d 18 a1))) < (d 8 (a1 * 9 + (d 18 a2)))) → P1 d e) (h0 : ¬ ((d 8 (a1 * 9 + (d 18 a1))) < (d 8 (a1 * 9 + (d 18 a2)))) → P0 d e) : yZ D 27 L [.ref 6, .ref 18, .int (xJ a1), .int (xJ a2)] d e P1 P0 := by
  refine yZ_of rfl rfl rfl (by omega) (yk_27_18_0 ?_)
  repeat' (first | apply And.intro | intro _)
  all_goals first
    | omega
    | exact h1 (by omega)
    | exact h0 (by omega)
theorem yk_266_147_0 {D L : Nat} {P1 P0 : xh_D → xd_E → Prop} {d : xh_D} {e : xd_E} {a2 : Int} {a3 : Int}   (h : ((0 ≤ a3 ∧ a3 < 353) ∧ ((0 ≤ (((9 : Int) * a2) + (d 147 a3)) ∧ (((9 : Int) * a2) + (d 147 a3)) < 81) ∧ ((0 ≤ a2 ∧ a2 < 353) ∧ ((0 ≤ (((9 : Int) * a2) + (d 147 a2)) ∧ (((9 : Int) * a2) + (d 147 a2)) < 81) ∧ ((-2147483648 ≤ (d 149 (((9 : Int) * a2) + (d 147 a3))) ∧ (d 149 (((9 : Int) * a2) + (d 147 a3))) < 2147483648) ∧ ((-2147483648 ≤ (d 149 (((9 : Int) * a2) + (d 147 a2))) ∧ (d 149 (((9 : Int) * a2) + (d 147 a2))) < 2147483648) ∧ ((((d 149 (((9 : Int) * a2) + (d 147 a3))) ≤ (d 149 (((9 : Int) * a2) + (d 147 a2)))) → P0 d e) ∧ ((¬ (d 149 (((9 : Int) * a2) + (d 147 a3))) ≤ (d 149 (((9 : Int) * a2) + (d 147 a2)))) → P1 d e))))))))) : yB D xm_c266 (yQz L P1 P0) L 0 [.ref 146, .ref 147, .int (xJ a2), .int (xJ a3)] [] d e := by
  refine yb_aload rfl rfl ?_
  refine yb_get (v := .ref 149) rfl (by decide) (by decide) (rfl) rfl ?_
  refine yb_push (v := 9) rfl ?_
  refine yb_iload (x := a2) rfl rfl ?_
  refine yb_imul (x := (9 : Int)) (y := a2) rfl ?_
  refine yb_aload rfl rfl ?_
  refine yb_iload (x := a3) rfl rfl ?_
  have r1 := h.1
  replace h := h.2
  refine yb_iald (j := a3) rfl xd_A147 (by decide) r1 (v := (d 147 a3)) rfl ?_
  refine yb_iadd (x := ((9 : Int) * a2)) (y := (d 147 a3)) rfl ?_
  have r2 := h.1
  replace h := h.2
  refine yb_iald (j := (((9 : Int) * a2) + (d 147 a3))) rfl xd_A149 (by decide) r2 (v := (d 149 (((9 : Int) * a2) + (d 147 a3)))) rfl ?_
  refine yb_aload rfl rfl ?_
  refine yb_get (v := .ref 149) rfl (by decide) (by decide) (rfl) rfl ?_
  refine yb_push (v := 9) rfl ?_
  refine yb_iload (x := a2) rfl rfl ?_
  refine yb_imul (x := (9 : Int)) (y := a2) rfl ?_
  refine yb_aload rfl rfl ?_
  refine yb_iload (x := a2) rfl rfl ?_
  have r3 := h.1
  replace h := h.2
  refine yb_iald (j := a2) rfl xd_A147 (by decide) r3 (v := (d 147 a2)) rfl ?_
  refine yb_iadd (x := ((9 : Int) * a2)) (y := (d 147 a2)) rfl ?_
  have r4 := h.1
  replace h := h.2
  refine yb_iald (j := (((9 : Int) * a2) + (d 147 a2))) rfl xd_A149 (by decide) r4 (v := (d 149 (((9 : Int) * a2) + (d 147 a2)))) rfl ?_
  have r5 := h.1
  replace h := h.2
  have r6 := h.1
  replace h := h.2
  refine yb_icmp_le (x := (d 149 (((9 : Int) * a2) + (d 147 a3)))) (y := (d 149 (((9 : Int) * a2) + (d 147 a2)))) rfl rfl r5 r6 (fun c => ?_) (fun c => ?_)
  · replace h := h.1 c
    refine yb_push (v := 0) rfl ?_
    exact yb_ret0 rfl h
  · replace h := h.2 c
    refine yb_push (v := 1) rfl ?_
    refine yb_goto rfl rfl ?_
    exact yb_ret1 rfl h
theorem sp_266_147 {D L : Nat} {P1 P0 : xh_D → xd_E → Prop} {d : xh_D} {e : xd_E} {a1 a2 : Int} (hD : 1 ≤ D) (o : (0 ≤ a1 ∧ a1 < 9) ∧ (0 ≤ a2 ∧ a2 < 9) ∧ (0 ≤ (d 147 a1) ∧ (d 147 a1) < 9) ∧ (0 ≤ (d 147 a2) ∧ (d 147 a2) < 9) ∧ (-2147483648 ≤ (d 149 (9 * a1 + (d 147 a1))) ∧ (d 149 (9 * a1 + (d 147 a1))) < 2147483648) ∧ (-2147483648 ≤ (d 149 (9 * a1 + (d 147 a2))) ∧ (d 149 (9 * a1 + (d 147 a2))) < 2147483648)) (h1 : ((d 149 (9 * a1 + (d 147 a1))) < (d 149 (9 * a1 + (d 147 a2)))) → P1 d e) (h0 : ¬ ((d 149 (9 * a1 + (d 147 a1))) < (d 149 (9 * a1 + (d 147 a2)))) → P0 d e) : yZ D 266 L [.ref 146, .ref 147, .int (xJ a1), .int (xJ a2)] d e P1 P0 := by
  refine yZ_of rfl rfl rfl (by omega) (yk_266_147_0 ?_)
  repeat' (first | apply And.intro | intro _)
  all_goals first
    | omega
    | exact h1 (by omega)
    | exact h0 (by omega)
theorem yk_266_162_0 {D L : Nat} {P1 P0 : xh_D → xd_E → Prop} {d : xh_D} {e : xd_E} {a2 : Int} {a3 : Int}   (h : ((0 ≤ a3 ∧ a3 < 353) ∧ ((0 ≤ (((9 : Int) * a2) + (d 162 a3)) ∧ (((9 : Int) * a2) + (d 162 a3)) < 81) ∧ ((0 ≤ a2 ∧ a2 < 353) ∧ ((0 ≤ (((9 : Int) * a2) + (d 162 a2)) ∧ (((9 : Int) * a2) + (d 162 a2)) < 81) ∧ ((-2147483648 ≤ (d 149 (((9 : Int) * a2) + (d 162 a3))) ∧ (d 149 (((9 : Int) * a2) + (d 162 a3))) < 2147483648) ∧ ((-2147483648 ≤ (d 149 (((9 : Int) * a2) + (d 162 a2))) ∧ (d 149 (((9 : Int) * a2) + (d 162 a2))) < 2147483648) ∧ ((((d 149 (((9 : Int) * a2) + (d 162 a3))) ≤ (d 149 (((9 : Int) * a2) + (d 162 a2)))) → P0 d e) ∧ ((¬ (d 149 (((9 : Int) * a2) + (d 162 a3))) ≤ (d 149 (((9 : Int) * a2) + (d 162 a2)))) → P1 d e))))))))) : yB D xm_c266 (yQz L P1 P0) L 0 [.ref 146, .ref 162, .int (xJ a2), .int (xJ a3)] [] d e := by
  refine yb_aload rfl rfl ?_
  refine yb_get (v := .ref 149) rfl (by decide) (by decide) (rfl) rfl ?_
  refine yb_push (v := 9) rfl ?_
  refine yb_iload (x := a2) rfl rfl ?_
  refine yb_imul (x := (9 : Int)) (y := a2) rfl ?_
  refine yb_aload rfl rfl ?_
  refine yb_iload (x := a3) rfl rfl ?_
  have r1 := h.1
  replace h := h.2
  refine yb_iald (j := a3) rfl xd_A162 (by decide) r1 (v := (d 162 a3)) rfl ?_
  refine yb_iadd (x := ((9 : Int) * a2)) (y := (d 162 a3)) rfl ?_
  have r2 := h.1
  replace h := h.2
  refine yb_iald (j := (((9 : Int) * a2) + (d 162 a3))) rfl xd_A149 (by decide) r2 (v := (d 149 (((9 : Int) * a2) + (d 162 a3)))) rfl ?_
  refine yb_aload rfl rfl ?_
  refine yb_get (v := .ref 149) rfl (by decide) (by decide) (rfl) rfl ?_
  refine yb_push (v := 9) rfl ?_
  refine yb_iload (x := a2) rfl rfl ?_
  refine yb_imul (x := (9 : Int)) (y := a2) rfl ?_
  refine yb_aload rfl rfl ?_
  refine yb_iload (x := a2) rfl rfl ?_
  have r3 := h.1
  replace h := h.2
  refine yb_iald (j := a2) rfl xd_A162 (by decide) r3 (v := (d 162 a2)) rfl ?_
  refine yb_iadd (x := ((9 : Int) * a2)) (y := (d 162 a2)) rfl ?_
  have r4 := h.1
  replace h := h.2
  refine yb_iald (j := (((9 : Int) * a2) + (d 162 a2))) rfl xd_A149 (by decide) r4 (v := (d 149 (((9 : Int) * a2) + (d 162 a2)))) rfl ?_
  have r5 := h.1
  replace h := h.2
  have r6 := h.1
  replace h := h.2
  refine yb_icmp_le (x := (d 149 (((9 : Int) * a2) + (d 162 a3)))) (y := (d 149 (((9 : Int) * a2) + (d 162 a2)))) rfl rfl r5 r6 (fun c => ?_) (fun c => ?_)
  · replace h := h.1 c
    refine yb_push (v := 0) rfl ?_
    exact yb_ret0 rfl h
  · replace h := h.2 c
    refine yb_push (v := 1) rfl ?_
    refine yb_goto rfl rfl ?_
    exact yb_ret1 rfl h
theorem sp_266_162 {D L : Nat} {P1 P0 : xh_D → xd_E → Prop} {d : xh_D} {e : xd_E} {a1 a2 : Int} (hD : 1 ≤ D) (o : (0 ≤ a1 ∧ a1 < 9) ∧ (0 ≤ a2 ∧ a2 < 9) ∧ (0 ≤ (d 162 a1) ∧ (d 162 a1) < 9) ∧ (0 ≤ (d 162 a2) ∧ (d 162 a2) < 9) ∧ (-2147483648 ≤ (d 149 (9 * a1 + (d 162 a1))) ∧ (d 149 (9 * a1 + (d 162 a1))) < 2147483648) ∧ (-2147483648 ≤ (d 149 (9 * a1 + (d 162 a2))) ∧ (d 149 (9 * a1 + (d 162 a2))) < 2147483648)) (h1 : ((d 149 (9 * a1 + (d 162 a1))) < (d 149 (9 * a1 + (d 162 a2)))) → P1 d e) (h0 : ¬ ((d 149 (9 * a1 + (d 162 a1))) < (d 149 (9 * a1 + (d 162 a2)))) → P0 d e) : yZ D 266 L [.ref 146, .ref 162, .int (xJ a1), .int (xJ a2)] d e P1 P0 := by
  refine yZ_of rfl rfl rfl (by omega) (yk_266_162_0 ?_)
  repeat' (first | apply And.intro | intro _)
  all_goals first
    | omega
    | exact h1 (by omega)
    | exact h0 (by omega)
theorem yk_91_12_0 {D L : Nat} {P1 P0 : xh_D → xd_E → Prop} {d : xh_D} {e : xd_E} {a2 : Int}   (h : ((0 ≤ a2 ∧ a2 < 12) ∧ ((0 ≤ (d 137 a2) ∧ (d 137 a2) < 9) ∧ ((0 ≤ (d 138 a2) ∧ (d 138 a2) < 9) ∧ ((-2147483648 ≤ (d 12 (d 137 a2)) ∧ (d 12 (d 137 a2)) < 2147483648) ∧ ((-2147483648 ≤ (d 12 (d 138 a2)) ∧ (d 12 (d 138 a2)) < 2147483648) ∧ (((¬ (d 12 (d 137 a2)) = (d 12 (d 138 a2))) → ((-2147483648 ≤ (d 139 a2) ∧ (d 139 a2) < 2147483648) ∧ (((¬ (d 139 a2) = (1 : Int)) → P1 d e) ∧ (((d 139 a2) = (1 : Int)) → P0 d e)))) ∧ (((d 12 (d 137 a2)) = (d 12 (d 138 a2))) → ((-2147483648 ≤ (d 139 a2) ∧ (d 139 a2) < 2147483648) ∧ (((¬ (d 139 a2) = (1 : Int)) → P0 d e) ∧ (((d 139 a2) = (1 : Int)) → P1 d e))))))))))) : yB D xm_c91 (yQz L P1 P0) L 0 [.ref 136, .ref 12, .int (xJ a2)] [] d e := by
  refine yb_aload rfl rfl ?_
  refine yb_aload rfl rfl ?_
  refine yb_get (v := .ref 137) rfl (by decide) (by decide) (rfl) rfl ?_
  refine yb_iload (x := a2) rfl rfl ?_
  have r1 := h.1
  replace h := h.2
  refine yb_iald (j := a2) rfl xd_A137 (by decide) r1 (v := (d 137 a2)) rfl ?_
  have r2 := h.1
  replace h := h.2
  refine yb_iald (j := (d 137 a2)) rfl xd_A12 (by decide) r2 (v := (d 12 (d 137 a2))) rfl ?_
  refine yb_aload rfl rfl ?_
  refine yb_aload rfl rfl ?_
  refine yb_get (v := .ref 138) rfl (by decide) (by decide) (rfl) rfl ?_
  refine yb_iload (x := a2) rfl rfl ?_
  refine yb_iald (j := a2) rfl xd_A138 (by decide) r1 (v := (d 138 a2)) rfl ?_
  have r3 := h.1
  replace h := h.2
  refine yb_iald (j := (d 138 a2)) rfl xd_A12 (by decide) r3 (v := (d 12 (d 138 a2))) rfl ?_
  have r4 := h.1
  replace h := h.2
  have r5 := h.1
  replace h := h.2
  refine yb_icmp_ne (x := (d 12 (d 137 a2))) (y := (d 12 (d 138 a2))) rfl rfl r4 r5 (fun c => ?_) (fun c => ?_)
  · replace h := h.1 c
    refine yb_push (v := 0) rfl ?_
    refine yb_aload rfl rfl ?_
    refine yb_get (v := .ref 139) rfl (by decide) (by decide) (rfl) rfl ?_
    refine yb_iload (x := a2) rfl rfl ?_
    refine yb_iald (j := a2) rfl xd_A139 (by decide) r1 (v := (d 139 a2)) rfl ?_
    refine yb_push (v := 1) rfl ?_
    have r6 := h.1
    replace h := h.2
    refine yb_icmp_ne (x := (d 139 a2)) (y := (1 : Int)) rfl rfl r6 (by decide) (fun c => ?_) (fun c => ?_)
    · replace h := h.1 c
      refine yb_push (v := 0) rfl ?_
      refine yb_icmp_ne (x := (0 : Int)) (y := (0 : Int)) rfl rfl (by decide) (by decide) (fun c => absurd (by decide) c) (fun _ => ?_)
      refine yb_push (v := 1) rfl ?_
      refine yb_goto rfl rfl ?_
      exact yb_ret1 rfl h
    · replace h := h.2 c
      refine yb_push (v := 1) rfl ?_
      refine yb_goto rfl rfl ?_
      refine yb_icmp_ne (x := (0 : Int)) (y := (1 : Int)) rfl rfl (by decide) (by decide) (fun _ => ?_) (fun c => absurd c (by decide))
      refine yb_push (v := 0) rfl ?_
      exact yb_ret0 rfl h
  · replace h := h.2 c
    refine yb_push (v := 1) rfl ?_
    refine yb_goto rfl rfl ?_
    refine yb_aload rfl rfl ?_
    refine yb_get (v := .ref 139) rfl (by decide) (by decide) (rfl) rfl ?_
    refine yb_iload (x := a2) rfl rfl ?_
    refine yb_iald (j := a2) rfl xd_A139 (by decide) r1 (v := (d 139 a2)) rfl ?_
    refine yb_push (v := 1) rfl ?_
    have r7 := h.1
    replace h := h.2
    refine yb_icmp_ne (x := (d 139 a2)) (y := (1 : Int)) rfl rfl r7 (by decide) (fun c => ?_) (fun c => ?_)
    · replace h := h.1 c
      refine yb_push (v := 0) rfl ?_
      refine yb_icmp_ne (x := (1 : Int)) (y := (0 : Int)) rfl rfl (by decide) (by decide) (fun _ => ?_) (fun c => absurd c (by decide))
      refine yb_push (v := 0) rfl ?_
      exact yb_ret0 rfl h
    · replace h := h.2 c
      refine yb_push (v := 1) rfl ?_
      refine yb_goto rfl rfl ?_
      refine yb_icmp_ne (x := (1 : Int)) (y := (1 : Int)) rfl rfl (by decide) (by decide) (fun c => absurd (by decide) c) (fun _ => ?_)
      refine yb_push (v := 1) rfl ?_
      refine yb_goto rfl rfl ?_
      exact yb_ret1 rfl h
theorem sp_91_12 {D L : Nat} {P1 P0 : xh_D → xd_E → Prop} {d : xh_D} {e : xd_E} {a1 : Int} (hD : 1 ≤ D) (o : (0 ≤ a1 ∧ a1 < 12) ∧ (0 ≤ (d 137 a1) ∧ (d 137 a1) < 9) ∧ (0 ≤ (d 138 a1) ∧ (d 138 a1) < 9) ∧ (-2147483648 ≤ (d 12 (d 137 a1)) ∧ (d 12 (d 137 a1)) < 2147483648) ∧ (-2147483648 ≤ (d 12 (d 138 a1)) ∧ (d 12 (d 138 a1)) < 2147483648) ∧ (-2147483648 ≤ (d 139 a1) ∧ (d 139 a1) < 2147483648)) (h1 : (((d 12 (d 137 a1)) = (d 12 (d 138 a1)) ↔ (d 139 a1) = 1)) → P1 d e) (h0 : ¬ (((d 12 (d 137 a1)) = (d 12 (d 138 a1)) ↔ (d 139 a1) = 1)) → P0 d e) : yZ D 91 L [.ref 136, .ref 12, .int (xJ a1)] d e P1 P0 := by
  refine yZ_of rfl rfl rfl (by omega) (yk_91_12_0 ?_)
  repeat' (first | apply And.intro | intro _)
  all_goals first
    | omega
    | exact h1 (by omega)
    | exact h0 (by omega)
theorem yk_91_18_0 {D L : Nat} {P1 P0 : xh_D → xd_E → Prop} {d : xh_D} {e : xd_E} {a2 : Int}   (h : ((0 ≤ a2 ∧ a2 < 12) ∧ ((0 ≤ (d 137 a2) ∧ (d 137 a2) < 9) ∧ ((0 ≤ (d 138 a2) ∧ (d 138 a2) < 9) ∧ ((-2147483648 ≤ (d 18 (d 137 a2)) ∧ (d 18 (d 137 a2)) < 2147483648) ∧ ((-2147483648 ≤ (d 18 (d 138 a2)) ∧ (d 18 (d 138 a2)) < 2147483648) ∧ (((¬ (d 18 (d 137 a2)) = (d 18 (d 138 a2))) → ((-2147483648 ≤ (d 139 a2) ∧ (d 139 a2) < 2147483648) ∧ (((¬ (d 139 a2) = (1 : Int)) → P1 d e) ∧ (((d 139 a2) = (1 : Int)) → P0 d e)))) ∧ (((d 18 (d 137 a2)) = (d 18 (d 138 a2))) → ((-2147483648 ≤ (d 139 a2) ∧ (d 139 a2) < 2147483648) ∧ (((¬ (d 139 a2) = (1 : Int)) → P0 d e) ∧ (((d 139 a2) = (1 : Int)) → P1 d e))))))))))) : yB D xm_c91 (yQz L P1 P0) L 0 [.ref 136, .ref 18, .int (xJ a2)] [] d e := by
  refine yb_aload rfl rfl ?_
  refine yb_aload rfl rfl ?_
  refine yb_get (v := .ref 137) rfl (by decide) (by decide) (rfl) rfl ?_
  refine yb_iload (x := a2) rfl rfl ?_
  have r1 := h.1
  replace h := h.2
  refine yb_iald (j := a2) rfl xd_A137 (by decide) r1 (v := (d 137 a2)) rfl ?_
  have r2 := h.1
  replace h := h.2
  refine yb_iald (j := (d 137 a2)) rfl xd_A18 (by decide) r2 (v := (d 18 (d 137 a2))) rfl ?_
  refine yb_aload rfl rfl ?_
  refine yb_aload rfl rfl ?_
  refine yb_get (v := .ref 138) rfl (by decide) (by decide) (rfl) rfl ?_
  refine yb_iload (x := a2) rfl rfl ?_
  refine yb_iald (j := a2) rfl xd_A138 (by decide) r1 (v := (d 138 a2)) rfl ?_
  have r3 := h.1
  replace h := h.2
  refine yb_iald (j := (d 138 a2)) rfl xd_A18 (by decide) r3 (v := (d 18 (d 138 a2))) rfl ?_
  have r4 := h.1
  replace h := h.2
  have r5 := h.1
  replace h := h.2
  refine yb_icmp_ne (x := (d 18 (d 137 a2))) (y := (d 18 (d 138 a2))) rfl rfl r4 r5 (fun c => ?_) (fun c => ?_)
  · replace h := h.1 c
    refine yb_push (v := 0) rfl ?_
    refine yb_aload rfl rfl ?_
    refine yb_get (v := .ref 139) rfl (by decide) (by decide) (rfl) rfl ?_
    refine yb_iload (x := a2) rfl rfl ?_
    refine yb_iald (j := a2) rfl xd_A139 (by decide) r1 (v := (d 139 a2)) rfl ?_
    refine yb_push (v := 1) rfl ?_
    have r6 := h.1
    replace h := h.2
    refine yb_icmp_ne (x := (d 139 a2)) (y := (1 : Int)) rfl rfl r6 (by decide) (fun c => ?_) (fun c => ?_)
    · replace h := h.1 c
      refine yb_push (v := 0) rfl ?_
      refine yb_icmp_ne (x := (0 : Int)) (y := (0 : Int)) rfl rfl (by decide) (by decide) (fun c => absurd (by decide) c) (fun _ => ?_)
      refine yb_push (v := 1) rfl ?_
      refine yb_goto rfl rfl ?_
      exact yb_ret1 rfl h
    · replace h := h.2 c
      refine yb_push (v := 1) rfl ?_
      refine yb_goto rfl rfl ?_
      refine yb_icmp_ne (x := (0 : Int)) (y := (1 : Int)) rfl rfl (by decide) (by decide) (fun _ => ?_) (fun c => absurd c (by decide))
      refine yb_push (v := 0) rfl ?_
      exact yb_ret0 rfl h
  · replace h := h.2 c
    refine yb_push (v := 1) rfl ?_
    refine yb_goto rfl rfl ?_
    refine yb_aload rfl rfl ?_
    refine yb_get (v := .ref 139) rfl (by decide) (by decide) (rfl) rfl ?_
    refine yb_iload (x := a2) rfl rfl ?_
    refine yb_iald (j := a2) rfl xd_A139 (by decide) r1 (v := (d 139 a2)) rfl ?_
    refine yb_push (v := 1) rfl ?_
    have r7 := h.1
    replace h := h.2
    refine yb_icmp_ne (x := (d 139 a2)) (y := (1 : Int)) rfl rfl r7 (by decide) (fun c => ?_) (fun c => ?_)
    · replace h := h.1 c
      refine yb_push (v := 0) rfl ?_
      refine yb_icmp_ne (x := (1 : Int)) (y := (0 : Int)) rfl rfl (by decide) (by decide) (fun _ => ?_) (fun c => absurd c (by decide))
      refine yb_push (v := 0) rfl ?_
      exact yb_ret0 rfl h
    · replace h := h.2 c
      refine yb_push (v := 1) rfl ?_
      refine yb_goto rfl rfl ?_
      refine yb_icmp_ne (x := (1 : Int)) (y := (1 : Int)) rfl rfl (by decide) (by decide) (fun c => absurd (by decide) c) (fun _ => ?_)
      refine yb_push (v := 1) rfl ?_
      refine yb_goto rfl rfl ?_
      exact yb_ret1 rfl h
theorem sp_91_18 {D L : Nat} {P1 P0 : xh_D → xd_E → Prop} {d : xh_D} {e : xd_E} {a1 : Int} (hD : 1 ≤ D) (o : (0 ≤ a1 ∧ a1 < 12) ∧ (0 ≤ (d 137 a1) ∧ (d 137 a1) < 9) ∧ (0 ≤ (d 138 a1) ∧ (d 138 a1) < 9) ∧ (-2147483648 ≤ (d 18 (d 137 a1)) ∧ (d 18 (d 137 a1)) < 2147483648) ∧ (-2147483648 ≤ (d 18 (d 138 a1)) ∧ (d 18 (d 138 a1)) < 2147483648) ∧ (-2147483648 ≤ (d 139 a1) ∧ (d 139 a1) < 2147483648)) (h1 : (((d 18 (d 137 a1)) = (d 18 (d 138 a1)) ↔ (d 139 a1) = 1)) → P1 d e) (h0 : ¬ (((d 18 (d 137 a1)) = (d 18 (d 138 a1)) ↔ (d 139 a1) = 1)) → P0 d e) : yZ D 91 L [.ref 136, .ref 18, .int (xJ a1)] d e P1 P0 := by
  refine yZ_of rfl rfl rfl (by omega) (yk_91_18_0 ?_)
  repeat' (first | apply And.intro | intro _)
  all_goals first
    | omega
    | exact h1 (by omega)
    | exact h0 (by omega)
theorem yk_91_140_0 {D L : Nat} {P1 P0 : xh_D → xd_E → Prop} {d : xh_D} {e : xd_E} {a2 : Int}   (h : ((0 ≤ a2 ∧ a2 < 12) ∧ ((0 ≤ (d 137 a2) ∧ (d 137 a2) < 9) ∧ ((0 ≤ (d 138 a2) ∧ (d 138 a2) < 9) ∧ ((-2147483648 ≤ (d 140 (d 137 a2)) ∧ (d 140 (d 137 a2)) < 2147483648) ∧ ((-2147483648 ≤ (d 140 (d 138 a2)) ∧ (d 140 (d 138 a2)) < 2147483648) ∧ (((¬ (d 140 (d 137 a2)) = (d 140 (d 138 a2))) → ((-2147483648 ≤ (d 139 a2) ∧ (d 139 a2) < 2147483648) ∧ (((¬ (d 139 a2) = (1 : Int)) → P1 d e) ∧ (((d 139 a2) = (1 : Int)) → P0 d e)))) ∧ (((d 140 (d 137 a2)) = (d 140 (d 138 a2))) → ((-2147483648 ≤ (d 139 a2) ∧ (d 139 a2) < 2147483648) ∧ (((¬ (d 139 a2) = (1 : Int)) → P0 d e) ∧ (((d 139 a2) = (1 : Int)) → P1 d e))))))))))) : yB D xm_c91 (yQz L P1 P0) L 0 [.ref 136, .ref 140, .int (xJ a2)] [] d e := by
  refine yb_aload rfl rfl ?_
  refine yb_aload rfl rfl ?_
  refine yb_get (v := .ref 137) rfl (by decide) (by decide) (rfl) rfl ?_
  refine yb_iload (x := a2) rfl rfl ?_
  have r1 := h.1
  replace h := h.2
  refine yb_iald (j := a2) rfl xd_A137 (by decide) r1 (v := (d 137 a2)) rfl ?_
  have r2 := h.1
  replace h := h.2
  refine yb_iald (j := (d 137 a2)) rfl xd_A140 (by decide) r2 (v := (d 140 (d 137 a2))) rfl ?_
  refine yb_aload rfl rfl ?_
  refine yb_aload rfl rfl ?_
  refine yb_get (v := .ref 138) rfl (by decide) (by decide) (rfl) rfl ?_
  refine yb_iload (x := a2) rfl rfl ?_
  refine yb_iald (j := a2) rfl xd_A138 (by decide) r1 (v := (d 138 a2)) rfl ?_
  have r3 := h.1
  replace h := h.2
  refine yb_iald (j := (d 138 a2)) rfl xd_A140 (by decide) r3 (v := (d 140 (d 138 a2))) rfl ?_
  have r4 := h.1
  replace h := h.2
  have r5 := h.1
  replace h := h.2
  refine yb_icmp_ne (x := (d 140 (d 137 a2))) (y := (d 140 (d 138 a2))) rfl rfl r4 r5 (fun c => ?_) (fun c => ?_)
  · replace h := h.1 c
    refine yb_push (v := 0) rfl ?_
    refine yb_aload rfl rfl ?_
    refine yb_get (v := .ref 139) rfl (by decide) (by decide) (rfl) rfl ?_
    refine yb_iload (x := a2) rfl rfl ?_
    refine yb_iald (j := a2) rfl xd_A139 (by decide) r1 (v := (d 139 a2)) rfl ?_
    refine yb_push (v := 1) rfl ?_
    have r6 := h.1
    replace h := h.2
    refine yb_icmp_ne (x := (d 139 a2)) (y := (1 : Int)) rfl rfl r6 (by decide) (fun c => ?_) (fun c => ?_)
    · replace h := h.1 c
      refine yb_push (v := 0) rfl ?_
      refine yb_icmp_ne (x := (0 : Int)) (y := (0 : Int)) rfl rfl (by decide) (by decide) (fun c => absurd (by decide) c) (fun _ => ?_)
      refine yb_push (v := 1) rfl ?_
      refine yb_goto rfl rfl ?_
      exact yb_ret1 rfl h
    · replace h := h.2 c
      refine yb_push (v := 1) rfl ?_
      refine yb_goto rfl rfl ?_
      refine yb_icmp_ne (x := (0 : Int)) (y := (1 : Int)) rfl rfl (by decide) (by decide) (fun _ => ?_) (fun c => absurd c (by decide))
      refine yb_push (v := 0) rfl ?_
      exact yb_ret0 rfl h
  · replace h := h.2 c
    refine yb_push (v := 1) rfl ?_
    refine yb_goto rfl rfl ?_
    refine yb_aload rfl rfl ?_
    refine yb_get (v := .ref 139) rfl (by decide) (by decide) (rfl) rfl ?_
    refine yb_iload (x := a2) rfl rfl ?_
    refine yb_iald (j := a2) rfl xd_A139 (by decide) r1 (v := (d 139 a2)) rfl ?_
    refine yb_push (v := 1) rfl ?_
    have r7 := h.1
    replace h := h.2
    refine yb_icmp_ne (x := (d 139 a2)) (y := (1 : Int)) rfl rfl r7 (by decide) (fun c => ?_) (fun c => ?_)
    · replace h := h.1 c
      refine yb_push (v := 0) rfl ?_
      refine yb_icmp_ne (x := (1 : Int)) (y := (0 : Int)) rfl rfl (by decide) (by decide) (fun _ => ?_) (fun c => absurd c (by decide))
      refine yb_push (v := 0) rfl ?_
      exact yb_ret0 rfl h
    · replace h := h.2 c
      refine yb_push (v := 1) rfl ?_
      refine yb_goto rfl rfl ?_
      refine yb_icmp_ne (x := (1 : Int)) (y := (1 : Int)) rfl rfl (by decide) (by decide) (fun c => absurd (by decide) c) (fun _ => ?_)
      refine yb_push (v := 1) rfl ?_
      refine yb_goto rfl rfl ?_
      exact yb_ret1 rfl h
theorem sp_91_140 {D L : Nat} {P1 P0 : xh_D → xd_E → Prop} {d : xh_D} {e : xd_E} {a1 : Int} (hD : 1 ≤ D) (o : (0 ≤ a1 ∧ a1 < 12) ∧ (0 ≤ (d 137 a1) ∧ (d 137 a1) < 9) ∧ (0 ≤ (d 138 a1) ∧ (d 138 a1) < 9) ∧ (-2147483648 ≤ (d 140 (d 137 a1)) ∧ (d 140 (d 137 a1)) < 2147483648) ∧ (-2147483648 ≤ (d 140 (d 138 a1)) ∧ (d 140 (d 138 a1)) < 2147483648) ∧ (-2147483648 ≤ (d 139 a1) ∧ (d 139 a1) < 2147483648)) (h1 : (((d 140 (d 137 a1)) = (d 140 (d 138 a1)) ↔ (d 139 a1) = 1)) → P1 d e) (h0 : ¬ (((d 140 (d 137 a1)) = (d 140 (d 138 a1)) ↔ (d 139 a1) = 1)) → P0 d e) : yZ D 91 L [.ref 136, .ref 140, .int (xJ a1)] d e P1 P0 := by
  refine yZ_of rfl rfl rfl (by omega) (yk_91_140_0 ?_)
  repeat' (first | apply And.intro | intro _)
  all_goals first
    | omega
    | exact h1 (by omega)
    | exact h0 (by omega)
theorem yk_91_141_0 {D L : Nat} {P1 P0 : xh_D → xd_E → Prop} {d : xh_D} {e : xd_E} {a2 : Int}   (h : ((0 ≤ a2 ∧ a2 < 12) ∧ ((0 ≤ (d 137 a2) ∧ (d 137 a2) < 9) ∧ ((0 ≤ (d 138 a2) ∧ (d 138 a2) < 9) ∧ ((-2147483648 ≤ (d 141 (d 137 a2)) ∧ (d 141 (d 137 a2)) < 2147483648) ∧ ((-2147483648 ≤ (d 141 (d 138 a2)) ∧ (d 141 (d 138 a2)) < 2147483648) ∧ (((¬ (d 141 (d 137 a2)) = (d 141 (d 138 a2))) → ((-2147483648 ≤ (d 139 a2) ∧ (d 139 a2) < 2147483648) ∧ (((¬ (d 139 a2) = (1 : Int)) → P1 d e) ∧ (((d 139 a2) = (1 : Int)) → P0 d e)))) ∧ (((d 141 (d 137 a2)) = (d 141 (d 138 a2))) → ((-2147483648 ≤ (d 139 a2) ∧ (d 139 a2) < 2147483648) ∧ (((¬ (d 139 a2) = (1 : Int)) → P0 d e) ∧ (((d 139 a2) = (1 : Int)) → P1 d e))))))))))) : yB D xm_c91 (yQz L P1 P0) L 0 [.ref 136, .ref 141, .int (xJ a2)] [] d e := by
  refine yb_aload rfl rfl ?_
  refine yb_aload rfl rfl ?_
  refine yb_get (v := .ref 137) rfl (by decide) (by decide) (rfl) rfl ?_
  refine yb_iload (x := a2) rfl rfl ?_
  have r1 := h.1
  replace h := h.2
  refine yb_iald (j := a2) rfl xd_A137 (by decide) r1 (v := (d 137 a2)) rfl ?_
  have r2 := h.1
  replace h := h.2
  refine yb_iald (j := (d 137 a2)) rfl xd_A141 (by decide) r2 (v := (d 141 (d 137 a2))) rfl ?_
  refine yb_aload rfl rfl ?_
  refine yb_aload rfl rfl ?_
  refine yb_get (v := .ref 138) rfl (by decide) (by decide) (rfl) rfl ?_
  refine yb_iload (x := a2) rfl rfl ?_
  refine yb_iald (j := a2) rfl xd_A138 (by decide) r1 (v := (d 138 a2)) rfl ?_
  have r3 := h.1
  replace h := h.2
  refine yb_iald (j := (d 138 a2)) rfl xd_A141 (by decide) r3 (v := (d 141 (d 138 a2))) rfl ?_
  have r4 := h.1
  replace h := h.2
  have r5 := h.1
  replace h := h.2
  refine yb_icmp_ne (x := (d 141 (d 137 a2))) (y := (d 141 (d 138 a2))) rfl rfl r4 r5 (fun c => ?_) (fun c => ?_)
  · replace h := h.1 c
    refine yb_push (v := 0) rfl ?_
    refine yb_aload rfl rfl ?_
    refine yb_get (v := .ref 139) rfl (by decide) (by decide) (rfl) rfl ?_
    refine yb_iload (x := a2) rfl rfl ?_
    refine yb_iald (j := a2) rfl xd_A139 (by decide) r1 (v := (d 139 a2)) rfl ?_
    refine yb_push (v := 1) rfl ?_
    have r6 := h.1
    replace h := h.2
    refine yb_icmp_ne (x := (d 139 a2)) (y := (1 : Int)) rfl rfl r6 (by decide) (fun c => ?_) (fun c => ?_)
    · replace h := h.1 c
      refine yb_push (v := 0) rfl ?_
      refine yb_icmp_ne (x := (0 : Int)) (y := (0 : Int)) rfl rfl (by decide) (by decide) (fun c => absurd (by decide) c) (fun _ => ?_)
      refine yb_push (v := 1) rfl ?_
      refine yb_goto rfl rfl ?_
      exact yb_ret1 rfl h
    · replace h := h.2 c
      refine yb_push (v := 1) rfl ?_
      refine yb_goto rfl rfl ?_
      refine yb_icmp_ne (x := (0 : Int)) (y := (1 : Int)) rfl rfl (by decide) (by decide) (fun _ => ?_) (fun c => absurd c (by decide))
      refine yb_push (v := 0) rfl ?_
      exact yb_ret0 rfl h
  · replace h := h.2 c
    refine yb_push (v := 1) rfl ?_
    refine yb_goto rfl rfl ?_
    refine yb_aload rfl rfl ?_
    refine yb_get (v := .ref 139) rfl (by decide) (by decide) (rfl) rfl ?_
    refine yb_iload (x := a2) rfl rfl ?_
    refine yb_iald (j := a2) rfl xd_A139 (by decide) r1 (v := (d 139 a2)) rfl ?_
    refine yb_push (v := 1) rfl ?_
    have r7 := h.1
    replace h := h.2
    refine yb_icmp_ne (x := (d 139 a2)) (y := (1 : Int)) rfl rfl r7 (by decide) (fun c => ?_) (fun c => ?_)
    · replace h := h.1 c
      refine yb_push (v := 0) rfl ?_
      refine yb_icmp_ne (x := (1 : Int)) (y := (0 : Int)) rfl rfl (by decide) (by decide) (fun _ => ?_) (fun c => absurd c (by decide))
      refine yb_push (v := 0) rfl ?_
      exact yb_ret0 rfl h
    · replace h := h.2 c
      refine yb_push (v := 1) rfl ?_
      refine yb_goto rfl rfl ?_
      refine yb_icmp_ne (x := (1 : Int)) (y := (1 : Int)) rfl rfl (by decide) (by decide) (fun c => absurd (by decide) c) (fun _ => ?_)
      refine yb_push (v := 1) rfl ?_
      refine yb_goto rfl rfl ?_
      exact yb_ret1 rfl h
theorem sp_91_141 {D L : Nat} {P1 P0 : xh_D → xd_E → Prop} {d : xh_D} {e : xd_E} {a1 : Int} (hD : 1 ≤ D) (o : (0 ≤ a1 ∧ a1 < 12) ∧ (0 ≤ (d 137 a1) ∧ (d 137 a1) < 9) ∧ (0 ≤ (d 138 a1) ∧ (d 138 a1) < 9) ∧ (-2147483648 ≤ (d 141 (d 137 a1)) ∧ (d 141 (d 137 a1)) < 2147483648) ∧ (-2147483648 ≤ (d 141 (d 138 a1)) ∧ (d 141 (d 138 a1)) < 2147483648) ∧ (-2147483648 ≤ (d 139 a1) ∧ (d 139 a1) < 2147483648)) (h1 : (((d 141 (d 137 a1)) = (d 141 (d 138 a1)) ↔ (d 139 a1) = 1)) → P1 d e) (h0 : ¬ (((d 141 (d 137 a1)) = (d 141 (d 138 a1)) ↔ (d 139 a1) = 1)) → P0 d e) : yZ D 91 L [.ref 136, .ref 141, .int (xJ a1)] d e P1 P0 := by
  refine yZ_of rfl rfl rfl (by omega) (yk_91_141_0 ?_)
  repeat' (first | apply And.intro | intro _)
  all_goals first
    | omega
    | exact h1 (by omega)
    | exact h0 (by omega)
end
