section
-- ===== PART A: goes FIRST, ahead of the names: the tables' words, and 'selects' of the private methods out of them =====
/-- a private method of a class that the tables say can be made, by its rows of tables_1 -/
def lw_okq (q : MethodName × Nat) : Prop := (q.1.cls ≠ "java/lang/invoke/MethodHandle" ∧ q.1.cls ≠ "java/lang/invoke/VarHandle") ∧ Cond.instantiable q.1.cls q.2 ∈ tables_1 ∧ Cond.privateMethod q.1 ∈ tables_1 ∧ Cond.instanceMethod q.1 ∈ tables_1
theorem lw_p0 : lw_okq (⟨"NinthDayHooded$Text", "hasRoomFor", "(I)Z"⟩, 2) := ⟨⟨by decide +kernel, by decide +kernel⟩, List.mem_of_getElem? (i := 31) (by decide +kernel), List.mem_of_getElem? (i := 399) (by decide +kernel), List.mem_of_getElem? (i := 400) (by decide +kernel)⟩
theorem lw_p1 : lw_okq (⟨"NinthDayHooded$Text", "add", "(I)V"⟩, 2) := ⟨⟨by decide +kernel, by decide +kernel⟩, List.mem_of_getElem? (i := 31) (by decide +kernel), List.mem_of_getElem? (i := 403) (by decide +kernel), List.mem_of_getElem? (i := 404) (by decide +kernel)⟩
theorem lw_p2 : lw_okq (⟨"NinthDayHooded", "townFault", "()I"⟩, 11) := ⟨⟨by decide +kernel, by decide +kernel⟩, List.mem_of_getElem? (i := 23) (by decide +kernel), List.mem_of_getElem? (i := 415) (by decide +kernel), List.mem_of_getElem? (i := 416) (by decide +kernel)⟩
theorem lw_p3 : lw_okq (⟨"NinthDayHooded$Text", "at", "(I)I"⟩, 2) := ⟨⟨by decide +kernel, by decide +kernel⟩, List.mem_of_getElem? (i := 31) (by decide +kernel), List.mem_of_getElem? (i := 422) (by decide +kernel), List.mem_of_getElem? (i := 423) (by decide +kernel)⟩
theorem lw_p4 : lw_okq (⟨"NinthDayHooded", "addLines", "()I"⟩, 11) := ⟨⟨by decide +kernel, by decide +kernel⟩, List.mem_of_getElem? (i := 23) (by decide +kernel), List.mem_of_getElem? (i := 429) (by decide +kernel), List.mem_of_getElem? (i := 430) (by decide +kernel)⟩
theorem lw_p5 : lw_okq (⟨"NinthDayHooded$Text", "startsPart", "(I)Z"⟩, 2) := ⟨⟨by decide +kernel, by decide +kernel⟩, List.mem_of_getElem? (i := 31) (by decide +kernel), List.mem_of_getElem? (i := 433) (by decide +kernel), List.mem_of_getElem? (i := 434) (by decide +kernel)⟩
theorem lw_p6 : lw_okq (⟨"NinthDayHooded$Text", "digitAt", "(I)I"⟩, 2) := ⟨⟨by decide +kernel, by decide +kernel⟩, List.mem_of_getElem? (i := 31) (by decide +kernel), List.mem_of_getElem? (i := 438) (by decide +kernel), List.mem_of_getElem? (i := 439) (by decide +kernel)⟩
theorem lw_p7 : lw_okq (⟨"NinthDayHooded", "tradesFrom", "(I)I"⟩, 11) := ⟨⟨by decide +kernel, by decide +kernel⟩, List.mem_of_getElem? (i := 23) (by decide +kernel), List.mem_of_getElem? (i := 442) (by decide +kernel), List.mem_of_getElem? (i := 443) (by decide +kernel)⟩
theorem lw_p8 : lw_okq (⟨"NinthDayHooded", "addPerson", "(III)V"⟩, 11) := ⟨⟨by decide +kernel, by decide +kernel⟩, List.mem_of_getElem? (i := 23) (by decide +kernel), List.mem_of_getElem? (i := 446) (by decide +kernel), List.mem_of_getElem? (i := 447) (by decide +kernel)⟩
theorem lw_p9 : lw_okq (⟨"NinthDayHooded$Past", "forgetUndos", "()V"⟩, 5) := ⟨⟨by decide +kernel, by decide +kernel⟩, List.mem_of_getElem? (i := 131) (by decide +kernel), List.mem_of_getElem? (i := 450) (by decide +kernel), List.mem_of_getElem? (i := 451) (by decide +kernel)⟩
theorem lw_p10 : lw_okq (⟨"NinthDayHooded$People", "has", "(I)Z"⟩, 5) := ⟨⟨by decide +kernel, by decide +kernel⟩, List.mem_of_getElem? (i := 62) (by decide +kernel), List.mem_of_getElem? (i := 458) (by decide +kernel), List.mem_of_getElem? (i := 459) (by decide +kernel)⟩
theorem lw_p11 : lw_okq (⟨"NinthDayHooded$Text", "digitsFault", "(I)I"⟩, 2) := ⟨⟨by decide +kernel, by decide +kernel⟩, List.mem_of_getElem? (i := 31) (by decide +kernel), List.mem_of_getElem? (i := 462) (by decide +kernel), List.mem_of_getElem? (i := 463) (by decide +kernel)⟩
theorem lw_p12 : lw_okq (⟨"NinthDayHooded$Rule", "read", "(LNinthDayHooded$Text;)I"⟩, 12) := ⟨⟨by decide +kernel, by decide +kernel⟩, List.mem_of_getElem? (i := 159) (by decide +kernel), List.mem_of_getElem? (i := 475) (by decide +kernel), List.mem_of_getElem? (i := 476) (by decide +kernel)⟩
theorem lw_p13 : lw_okq (⟨"NinthDayHooded$Rule", "begin", "()V"⟩, 12) := ⟨⟨by decide +kernel, by decide +kernel⟩, List.mem_of_getElem? (i := 159) (by decide +kernel), List.mem_of_getElem? (i := 479) (by decide +kernel), List.mem_of_getElem? (i := 480) (by decide +kernel)⟩
theorem lw_p14 : lw_okq (⟨"NinthDayHooded$Rule", "takesAhead", "(I)Z"⟩, 12) := ⟨⟨by decide +kernel, by decide +kernel⟩, List.mem_of_getElem? (i := 159) (by decide +kernel), List.mem_of_getElem? (i := 485) (by decide +kernel), List.mem_of_getElem? (i := 486) (by decide +kernel)⟩
theorem lw_p15 : lw_okq (⟨"NinthDayHooded$Rule", "hold", "(I)V"⟩, 12) := ⟨⟨by decide +kernel, by decide +kernel⟩, List.mem_of_getElem? (i := 159) (by decide +kernel), List.mem_of_getElem? (i := 489) (by decide +kernel), List.mem_of_getElem? (i := 490) (by decide +kernel)⟩
def lw_privs_1 : List (MethodName × Nat) := [(⟨"NinthDayHooded$Text", "hasRoomFor", "(I)Z"⟩, 2), (⟨"NinthDayHooded$Text", "add", "(I)V"⟩, 2), (⟨"NinthDayHooded", "townFault", "()I"⟩, 11), (⟨"NinthDayHooded$Text", "at", "(I)I"⟩, 2), (⟨"NinthDayHooded", "addLines", "()I"⟩, 11), (⟨"NinthDayHooded$Text", "startsPart", "(I)Z"⟩, 2), (⟨"NinthDayHooded$Text", "digitAt", "(I)I"⟩, 2), (⟨"NinthDayHooded", "tradesFrom", "(I)I"⟩, 11), (⟨"NinthDayHooded", "addPerson", "(III)V"⟩, 11), (⟨"NinthDayHooded$Past", "forgetUndos", "()V"⟩, 5), (⟨"NinthDayHooded$People", "has", "(I)Z"⟩, 5), (⟨"NinthDayHooded$Text", "digitsFault", "(I)I"⟩, 2), (⟨"NinthDayHooded$Rule", "read", "(LNinthDayHooded$Text;)I"⟩, 12), (⟨"NinthDayHooded$Rule", "begin", "()V"⟩, 12), (⟨"NinthDayHooded$Rule", "takesAhead", "(I)Z"⟩, 12), (⟨"NinthDayHooded$Rule", "hold", "(I)V"⟩, 12)]
theorem lw_r1 : ∀ q ∈ lw_privs_1, lw_okq q := List.forall_mem_cons.mpr ⟨lw_p0, List.forall_mem_cons.mpr ⟨lw_p1, List.forall_mem_cons.mpr ⟨lw_p2, List.forall_mem_cons.mpr ⟨lw_p3, List.forall_mem_cons.mpr ⟨lw_p4, List.forall_mem_cons.mpr ⟨lw_p5, List.forall_mem_cons.mpr ⟨lw_p6, List.forall_mem_cons.mpr ⟨lw_p7, List.forall_mem_cons.mpr ⟨lw_p8, List.forall_mem_cons.mpr ⟨lw_p9, List.forall_mem_cons.mpr ⟨lw_p10, List.forall_mem_cons.mpr ⟨lw_p11, List.forall_mem_cons.mpr ⟨lw_p12, List.forall_mem_cons.mpr ⟨lw_p13, List.forall_mem_cons.mpr ⟨lw_p14, List.forall_mem_cons.mpr ⟨lw_p15, fun _ h => absurd h List.not_mem_nil⟩⟩⟩⟩⟩⟩⟩⟩⟩⟩⟩⟩⟩⟩⟩⟩
theorem lw_p16 : lw_okq (⟨"NinthDayHooded$Rule", "opens", "()Z"⟩, 12) := ⟨⟨by decide +kernel, by decide +kernel⟩, List.mem_of_getElem? (i := 159) (by decide +kernel), List.mem_of_getElem? (i := 493) (by decide +kernel), List.mem_of_getElem? (i := 494) (by decide +kernel)⟩
theorem lw_p17 : lw_okq (⟨"NinthDayHooded$Rule", "put", "(I)V"⟩, 12) := ⟨⟨by decide +kernel, by decide +kernel⟩, List.mem_of_getElem? (i := 159) (by decide +kernel), List.mem_of_getElem? (i := 497) (by decide +kernel), List.mem_of_getElem? (i := 498) (by decide +kernel)⟩
theorem lw_p18 : lw_okq (⟨"NinthDayHooded$Rule", "takesBehind", "(I)Z"⟩, 12) := ⟨⟨by decide +kernel, by decide +kernel⟩, List.mem_of_getElem? (i := 159) (by decide +kernel), List.mem_of_getElem? (i := 504) (by decide +kernel), List.mem_of_getElem? (i := 505) (by decide +kernel)⟩
theorem lw_p19 : lw_okq (⟨"NinthDayHooded$Rule", "lengthens", "(I)Z"⟩, 12) := ⟨⟨by decide +kernel, by decide +kernel⟩, List.mem_of_getElem? (i := 159) (by decide +kernel), List.mem_of_getElem? (i := 508) (by decide +kernel), List.mem_of_getElem? (i := 509) (by decide +kernel)⟩
theorem lw_p20 : lw_okq (⟨"NinthDayHooded$Rule", "closes", "()Z"⟩, 12) := ⟨⟨by decide +kernel, by decide +kernel⟩, List.mem_of_getElem? (i := 159) (by decide +kernel), List.mem_of_getElem? (i := 512) (by decide +kernel), List.mem_of_getElem? (i := 513) (by decide +kernel)⟩
theorem lw_p21 : lw_okq (⟨"NinthDayHooded$Rule", "putWaiting", "(I)V"⟩, 12) := ⟨⟨by decide +kernel, by decide +kernel⟩, List.mem_of_getElem? (i := 159) (by decide +kernel), List.mem_of_getElem? (i := 516) (by decide +kernel), List.mem_of_getElem? (i := 517) (by decide +kernel)⟩
theorem lw_p22 : lw_okq (⟨"NinthDayHooded$People", "hasTwo", "(II)Z"⟩, 5) := ⟨⟨by decide +kernel, by decide +kernel⟩, List.mem_of_getElem? (i := 62) (by decide +kernel), List.mem_of_getElem? (i := 533) (by decide +kernel), List.mem_of_getElem? (i := 534) (by decide +kernel)⟩
theorem lw_p23 : lw_okq (⟨"NinthDayHooded$Guides", "find", "(LNinthDayHooded$People;LNinthDayHooded$Rule;LNinthDayHooded$State;I)V"⟩, 9) := ⟨⟨by decide +kernel, by decide +kernel⟩, List.mem_of_getElem? (i := 209) (by decide +kernel), List.mem_of_getElem? (i := 567) (by decide +kernel), List.mem_of_getElem? (i := 568) (by decide +kernel)⟩
theorem lw_p24 : lw_okq (⟨"NinthDayHooded$Guides", "setPrices", "(LNinthDayHooded$People;LNinthDayHooded$Rule;LNinthDayHooded$State;II)V"⟩, 9) := ⟨⟨by decide +kernel, by decide +kernel⟩, List.mem_of_getElem? (i := 209) (by decide +kernel), List.mem_of_getElem? (i := 571) (by decide +kernel), List.mem_of_getElem? (i := 572) (by decide +kernel)⟩
theorem lw_p25 : lw_okq (⟨"NinthDayHooded$Rule", "bringThings", "(LNinthDayHooded$People;LNinthDayHooded$State;III)V"⟩, 12) := ⟨⟨by decide +kernel, by decide +kernel⟩, List.mem_of_getElem? (i := 159) (by decide +kernel), List.mem_of_getElem? (i := 575) (by decide +kernel), List.mem_of_getElem? (i := 576) (by decide +kernel)⟩
theorem lw_p26 : lw_okq (⟨"NinthDayHooded$Rule", "price", "()I"⟩, 12) := ⟨⟨by decide +kernel, by decide +kernel⟩, List.mem_of_getElem? (i := 159) (by decide +kernel), List.mem_of_getElem? (i := 591) (by decide +kernel), List.mem_of_getElem? (i := 592) (by decide +kernel)⟩
theorem lw_p27 : lw_okq (⟨"NinthDayHooded$Guides", "cheapest", "(I)I"⟩, 9) := ⟨⟨by decide +kernel, by decide +kernel⟩, List.mem_of_getElem? (i := 209) (by decide +kernel), List.mem_of_getElem? (i := 599) (by decide +kernel), List.mem_of_getElem? (i := 600) (by decide +kernel)⟩
theorem lw_p28 : lw_okq (⟨"NinthDayHooded$Guides", "choose", "(II)V"⟩, 9) := ⟨⟨by decide +kernel, by decide +kernel⟩, List.mem_of_getElem? (i := 209) (by decide +kernel), List.mem_of_getElem? (i := 603) (by decide +kernel), List.mem_of_getElem? (i := 604) (by decide +kernel)⟩
theorem lw_p29 : lw_okq (⟨"NinthDayHooded$Row", "clear", "()V"⟩, 2) := ⟨⟨by decide +kernel, by decide +kernel⟩, List.mem_of_getElem? (i := 47) (by decide +kernel), List.mem_of_getElem? (i := 608) (by decide +kernel), List.mem_of_getElem? (i := 609) (by decide +kernel)⟩
theorem lw_p30 : lw_okq (⟨"NinthDayHooded$Guides", "price", "()I"⟩, 9) := ⟨⟨by decide +kernel, by decide +kernel⟩, List.mem_of_getElem? (i := 209) (by decide +kernel), List.mem_of_getElem? (i := 612) (by decide +kernel), List.mem_of_getElem? (i := 613) (by decide +kernel)⟩
theorem lw_p31 : lw_okq (⟨"NinthDayHooded$Row", "put", "(I)V"⟩, 2) := ⟨⟨by decide +kernel, by decide +kernel⟩, List.mem_of_getElem? (i := 47) (by decide +kernel), List.mem_of_getElem? (i := 616) (by decide +kernel), List.mem_of_getElem? (i := 617) (by decide +kernel)⟩
def lw_privs_2 : List (MethodName × Nat) := [(⟨"NinthDayHooded$Rule", "opens", "()Z"⟩, 12), (⟨"NinthDayHooded$Rule", "put", "(I)V"⟩, 12), (⟨"NinthDayHooded$Rule", "takesBehind", "(I)Z"⟩, 12), (⟨"NinthDayHooded$Rule", "lengthens", "(I)Z"⟩, 12), (⟨"NinthDayHooded$Rule", "closes", "()Z"⟩, 12), (⟨"NinthDayHooded$Rule", "putWaiting", "(I)V"⟩, 12), (⟨"NinthDayHooded$People", "hasTwo", "(II)Z"⟩, 5), (⟨"NinthDayHooded$Guides", "find", "(LNinthDayHooded$People;LNinthDayHooded$Rule;LNinthDayHooded$State;I)V"⟩, 9), (⟨"NinthDayHooded$Guides", "setPrices", "(LNinthDayHooded$People;LNinthDayHooded$Rule;LNinthDayHooded$State;II)V"⟩, 9), (⟨"NinthDayHooded$Rule", "bringThings", "(LNinthDayHooded$People;LNinthDayHooded$State;III)V"⟩, 12), (⟨"NinthDayHooded$Rule", "price", "()I"⟩, 12), (⟨"NinthDayHooded$Guides", "cheapest", "(I)I"⟩, 9), (⟨"NinthDayHooded$Guides", "choose", "(II)V"⟩, 9), (⟨"NinthDayHooded$Row", "clear", "()V"⟩, 2), (⟨"NinthDayHooded$Guides", "price", "()I"⟩, 9), (⟨"NinthDayHooded$Row", "put", "(I)V"⟩, 2)]
theorem lw_r2 : ∀ q ∈ lw_privs_2, lw_okq q := List.forall_mem_cons.mpr ⟨lw_p16, List.forall_mem_cons.mpr ⟨lw_p17, List.forall_mem_cons.mpr ⟨lw_p18, List.forall_mem_cons.mpr ⟨lw_p19, List.forall_mem_cons.mpr ⟨lw_p20, List.forall_mem_cons.mpr ⟨lw_p21, List.forall_mem_cons.mpr ⟨lw_p22, List.forall_mem_cons.mpr ⟨lw_p23, List.forall_mem_cons.mpr ⟨lw_p24, List.forall_mem_cons.mpr ⟨lw_p25, List.forall_mem_cons.mpr ⟨lw_p26, List.forall_mem_cons.mpr ⟨lw_p27, List.forall_mem_cons.mpr ⟨lw_p28, List.forall_mem_cons.mpr ⟨lw_p29, List.forall_mem_cons.mpr ⟨lw_p30, List.forall_mem_cons.mpr ⟨lw_p31, fun _ h => absurd h List.not_mem_nil⟩⟩⟩⟩⟩⟩⟩⟩⟩⟩⟩⟩⟩⟩⟩⟩
theorem lw_p32 : lw_okq (⟨"NinthDayHooded$State", "hoodedOn", "(II)I"⟩, 6) := ⟨⟨by decide +kernel, by decide +kernel⟩, List.mem_of_getElem? (i := 94) (by decide +kernel), List.mem_of_getElem? (i := 620) (by decide +kernel), List.mem_of_getElem? (i := 621) (by decide +kernel)⟩
theorem lw_p33 : lw_okq (⟨"NinthDayHooded$Guides", "nobody", "()I"⟩, 9) := ⟨⟨by decide +kernel, by decide +kernel⟩, List.mem_of_getElem? (i := 209) (by decide +kernel), List.mem_of_getElem? (i := 624) (by decide +kernel), List.mem_of_getElem? (i := 625) (by decide +kernel)⟩
theorem lw_p34 : lw_okq (⟨"NinthDayHooded$Guides", "withoutAny", "()I"⟩, 9) := ⟨⟨by decide +kernel, by decide +kernel⟩, List.mem_of_getElem? (i := 209) (by decide +kernel), List.mem_of_getElem? (i := 632) (by decide +kernel), List.mem_of_getElem? (i := 633) (by decide +kernel)⟩
theorem lw_p35 : lw_okq (⟨"NinthDayHooded$Guides", "unled", "()I"⟩, 9) := ⟨⟨by decide +kernel, by decide +kernel⟩, List.mem_of_getElem? (i := 209) (by decide +kernel), List.mem_of_getElem? (i := 636) (by decide +kernel), List.mem_of_getElem? (i := 637) (by decide +kernel)⟩
theorem lw_p36 : lw_okq (⟨"NinthDayHooded", "goDays", "(I)I"⟩, 11) := ⟨⟨by decide +kernel, by decide +kernel⟩, List.mem_of_getElem? (i := 23) (by decide +kernel), List.mem_of_getElem? (i := 648) (by decide +kernel), List.mem_of_getElem? (i := 649) (by decide +kernel)⟩
theorem lw_p37 : lw_okq (⟨"NinthDayHooded$Past", "remember", "(LNinthDayHooded$State;)V"⟩, 5) := ⟨⟨by decide +kernel, by decide +kernel⟩, List.mem_of_getElem? (i := 131) (by decide +kernel), List.mem_of_getElem? (i := 652) (by decide +kernel), List.mem_of_getElem? (i := 653) (by decide +kernel)⟩
theorem lw_p38 : lw_okq (⟨"NinthDayHooded$State", "copyFrom", "(LNinthDayHooded$State;)V"⟩, 6) := ⟨⟨by decide +kernel, by decide +kernel⟩, List.mem_of_getElem? (i := 94) (by decide +kernel), List.mem_of_getElem? (i := 656) (by decide +kernel), List.mem_of_getElem? (i := 657) (by decide +kernel)⟩
theorem lw_p39 : lw_okq (⟨"NinthDayHooded$Walk", "begin", "()V"⟩, 5) := ⟨⟨by decide +kernel, by decide +kernel⟩, List.mem_of_getElem? (i := 203) (by decide +kernel), List.mem_of_getElem? (i := 662) (by decide +kernel), List.mem_of_getElem? (i := 663) (by decide +kernel)⟩
theorem lw_p40 : lw_okq (⟨"NinthDayHooded$Walk", "passAll", "(LNinthDayHooded$People;LNinthDayHooded$Rule;LNinthDayHooded$State;I)V"⟩, 5) := ⟨⟨by decide +kernel, by decide +kernel⟩, List.mem_of_getElem? (i := 203) (by decide +kernel), List.mem_of_getElem? (i := 669) (by decide +kernel), List.mem_of_getElem? (i := 670) (by decide +kernel)⟩
theorem lw_p41 : lw_okq (⟨"NinthDayHooded$State", "openPage", "(I)V"⟩, 6) := ⟨⟨by decide +kernel, by decide +kernel⟩, List.mem_of_getElem? (i := 94) (by decide +kernel), List.mem_of_getElem? (i := 674) (by decide +kernel), List.mem_of_getElem? (i := 675) (by decide +kernel)⟩
theorem lw_p42 : lw_okq (⟨"NinthDayHooded$Walk", "followGuides", "(LNinthDayHooded$State;)V"⟩, 5) := ⟨⟨by decide +kernel, by decide +kernel⟩, List.mem_of_getElem? (i := 203) (by decide +kernel), List.mem_of_getElem? (i := 678) (by decide +kernel), List.mem_of_getElem? (i := 679) (by decide +kernel)⟩
theorem lw_p43 : lw_okq (⟨"NinthDayHooded$State", "write", "(II)V"⟩, 6) := ⟨⟨by decide +kernel, by decide +kernel⟩, List.mem_of_getElem? (i := 94) (by decide +kernel), List.mem_of_getElem? (i := 682) (by decide +kernel), List.mem_of_getElem? (i := 683) (by decide +kernel)⟩
theorem lw_p44 : lw_okq (⟨"NinthDayHooded$State", "learn", "(II)I"⟩, 6) := ⟨⟨by decide +kernel, by decide +kernel⟩, List.mem_of_getElem? (i := 94) (by decide +kernel), List.mem_of_getElem? (i := 686) (by decide +kernel), List.mem_of_getElem? (i := 687) (by decide +kernel)⟩
theorem lw_p45 : lw_okq (⟨"NinthDayHooded", "seasonFault", "()I"⟩, 11) := ⟨⟨by decide +kernel, by decide +kernel⟩, List.mem_of_getElem? (i := 23) (by decide +kernel), List.mem_of_getElem? (i := 699) (by decide +kernel), List.mem_of_getElem? (i := 700) (by decide +kernel)⟩
theorem lw_p46 : lw_okq (⟨"NinthDayHooded", "canAct", "(I)Z"⟩, 11) := ⟨⟨by decide +kernel, by decide +kernel⟩, List.mem_of_getElem? (i := 23) (by decide +kernel), List.mem_of_getElem? (i := 712) (by decide +kernel), List.mem_of_getElem? (i := 713) (by decide +kernel)⟩
theorem lw_p47 : lw_okq (⟨"NinthDayHooded", "act", "(I)V"⟩, 11) := ⟨⟨by decide +kernel, by decide +kernel⟩, List.mem_of_getElem? (i := 23) (by decide +kernel), List.mem_of_getElem? (i := 716) (by decide +kernel), List.mem_of_getElem? (i := 717) (by decide +kernel)⟩
def lw_privs_3 : List (MethodName × Nat) := [(⟨"NinthDayHooded$State", "hoodedOn", "(II)I"⟩, 6), (⟨"NinthDayHooded$Guides", "nobody", "()I"⟩, 9), (⟨"NinthDayHooded$Guides", "withoutAny", "()I"⟩, 9), (⟨"NinthDayHooded$Guides", "unled", "()I"⟩, 9), (⟨"NinthDayHooded", "goDays", "(I)I"⟩, 11), (⟨"NinthDayHooded$Past", "remember", "(LNinthDayHooded$State;)V"⟩, 5), (⟨"NinthDayHooded$State", "copyFrom", "(LNinthDayHooded$State;)V"⟩, 6), (⟨"NinthDayHooded$Walk", "begin", "()V"⟩, 5), (⟨"NinthDayHooded$Walk", "passAll", "(LNinthDayHooded$People;LNinthDayHooded$Rule;LNinthDayHooded$State;I)V"⟩, 5), (⟨"NinthDayHooded$State", "openPage", "(I)V"⟩, 6), (⟨"NinthDayHooded$Walk", "followGuides", "(LNinthDayHooded$State;)V"⟩, 5), (⟨"NinthDayHooded$State", "write", "(II)V"⟩, 6), (⟨"NinthDayHooded$State", "learn", "(II)I"⟩, 6), (⟨"NinthDayHooded", "seasonFault", "()I"⟩, 11), (⟨"NinthDayHooded", "canAct", "(I)Z"⟩, 11), (⟨"NinthDayHooded", "act", "(I)V"⟩, 11)]
theorem lw_r3 : ∀ q ∈ lw_privs_3, lw_okq q := List.forall_mem_cons.mpr ⟨lw_p32, List.forall_mem_cons.mpr ⟨lw_p33, List.forall_mem_cons.mpr ⟨lw_p34, List.forall_mem_cons.mpr ⟨lw_p35, List.forall_mem_cons.mpr ⟨lw_p36, List.forall_mem_cons.mpr ⟨lw_p37, List.forall_mem_cons.mpr ⟨lw_p38, List.forall_mem_cons.mpr ⟨lw_p39, List.forall_mem_cons.mpr ⟨lw_p40, List.forall_mem_cons.mpr ⟨lw_p41, List.forall_mem_cons.mpr ⟨lw_p42, List.forall_mem_cons.mpr ⟨lw_p43, List.forall_mem_cons.mpr ⟨lw_p44, List.forall_mem_cons.mpr ⟨lw_p45, List.forall_mem_cons.mpr ⟨lw_p46, List.forall_mem_cons.mpr ⟨lw_p47, fun _ h => absurd h List.not_mem_nil⟩⟩⟩⟩⟩⟩⟩⟩⟩⟩⟩⟩⟩⟩⟩⟩
theorem lw_p48 : lw_okq (⟨"NinthDayHooded$State", "swapHoods", "(II)V"⟩, 6) := ⟨⟨by decide +kernel, by decide +kernel⟩, List.mem_of_getElem? (i := 94) (by decide +kernel), List.mem_of_getElem? (i := 720) (by decide +kernel), List.mem_of_getElem? (i := 721) (by decide +kernel)⟩
theorem lw_p49 : lw_okq (⟨"NinthDayHooded$Past", "takeBack", "(LNinthDayHooded$State;)Z"⟩, 5) := ⟨⟨by decide +kernel, by decide +kernel⟩, List.mem_of_getElem? (i := 131) (by decide +kernel), List.mem_of_getElem? (i := 728) (by decide +kernel), List.mem_of_getElem? (i := 729) (by decide +kernel)⟩
theorem lw_p50 : lw_okq (⟨"NinthDayHooded$State", "entry", "(II)I"⟩, 6) := ⟨⟨by decide +kernel, by decide +kernel⟩, List.mem_of_getElem? (i := 94) (by decide +kernel), List.mem_of_getElem? (i := 736) (by decide +kernel), List.mem_of_getElem? (i := 737) (by decide +kernel)⟩
theorem lw_p51 : lw_okq (⟨"NinthDayHooded$State", "bookDays", "()I"⟩, 6) := ⟨⟨by decide +kernel, by decide +kernel⟩, List.mem_of_getElem? (i := 94) (by decide +kernel), List.mem_of_getElem? (i := 747) (by decide +kernel), List.mem_of_getElem? (i := 748) (by decide +kernel)⟩
theorem lw_p52 : lw_okq (⟨"NinthDayHooded$State", "hasTrade", "(II)Z"⟩, 6) := ⟨⟨by decide +kernel, by decide +kernel⟩, List.mem_of_getElem? (i := 94) (by decide +kernel), List.mem_of_getElem? (i := 761) (by decide +kernel), List.mem_of_getElem? (i := 762) (by decide +kernel)⟩
theorem lw_p53 : lw_okq (⟨"NinthDayHooded$Tasks", "add", "(II)V"⟩, 11) := ⟨⟨by decide +kernel, by decide +kernel⟩, List.mem_of_getElem? (i := 270) (by decide +kernel), List.mem_of_getElem? (i := 769) (by decide +kernel), List.mem_of_getElem? (i := 770) (by decide +kernel)⟩
theorem lw_p54 : lw_okq (⟨"NinthDayHooded$Tasks", "look", "(LNinthDayHooded$State;I)V"⟩, 11) := ⟨⟨by decide +kernel, by decide +kernel⟩, List.mem_of_getElem? (i := 270) (by decide +kernel), List.mem_of_getElem? (i := 784) (by decide +kernel), List.mem_of_getElem? (i := 785) (by decide +kernel)⟩
theorem lw_p55 : lw_okq (⟨"NinthDayHooded$Tasks", "seeing", "(I)I"⟩, 11) := ⟨⟨by decide +kernel, by decide +kernel⟩, List.mem_of_getElem? (i := 270) (by decide +kernel), List.mem_of_getElem? (i := 791) (by decide +kernel), List.mem_of_getElem? (i := 792) (by decide +kernel)⟩
theorem lw_p56 : lw_okq (⟨"NinthDayHooded$Tasks", "wanting", "(I)I"⟩, 11) := ⟨⟨by decide +kernel, by decide +kernel⟩, List.mem_of_getElem? (i := 270) (by decide +kernel), List.mem_of_getElem? (i := 796) (by decide +kernel), List.mem_of_getElem? (i := 797) (by decide +kernel)⟩
theorem lw_p57 : lw_okq (⟨"NinthDayHooded$Tasks", "wantingWith", "(II)I"⟩, 11) := ⟨⟨by decide +kernel, by decide +kernel⟩, List.mem_of_getElem? (i := 270) (by decide +kernel), List.mem_of_getElem? (i := 800) (by decide +kernel), List.mem_of_getElem? (i := 801) (by decide +kernel)⟩
theorem lw_p58 : lw_okq (⟨"NinthDayHooded$Tasks", "wantingInAll", "()I"⟩, 11) := ⟨⟨by decide +kernel, by decide +kernel⟩, List.mem_of_getElem? (i := 270) (by decide +kernel), List.mem_of_getElem? (i := 810) (by decide +kernel), List.mem_of_getElem? (i := 811) (by decide +kernel)⟩
theorem lw_p59 : lw_okq (⟨"NinthDayHooded$Tasks", "fewestMoves", "(LNinthDayHooded$State;I)I"⟩, 11) := ⟨⟨by decide +kernel, by decide +kernel⟩, List.mem_of_getElem? (i := 270) (by decide +kernel), List.mem_of_getElem? (i := 824) (by decide +kernel), List.mem_of_getElem? (i := 825) (by decide +kernel)⟩
theorem lw_p60 : lw_okq (⟨"NinthDayHooded$Tasks", "mannedBy", "(LNinthDayHooded$State;IIII)Z"⟩, 11) := ⟨⟨by decide +kernel, by decide +kernel⟩, List.mem_of_getElem? (i := 270) (by decide +kernel), List.mem_of_getElem? (i := 829) (by decide +kernel), List.mem_of_getElem? (i := 830) (by decide +kernel)⟩
theorem lw_p61 : lw_okq (⟨"NinthDayHooded$Tasks", "allManned", "()Z"⟩, 11) := ⟨⟨by decide +kernel, by decide +kernel⟩, List.mem_of_getElem? (i := 270) (by decide +kernel), List.mem_of_getElem? (i := 833) (by decide +kernel), List.mem_of_getElem? (i := 834) (by decide +kernel)⟩
theorem lw_p62 : lw_okq (⟨"NinthDayHooded$Tasks", "move", "(III)V"⟩, 11) := ⟨⟨by decide +kernel, by decide +kernel⟩, List.mem_of_getElem? (i := 270) (by decide +kernel), List.mem_of_getElem? (i := 837) (by decide +kernel), List.mem_of_getElem? (i := 838) (by decide +kernel)⟩
theorem lw_p63 : lw_okq (⟨"NinthDayHooded", "tellMoves", "(I)V"⟩, 11) := ⟨⟨by decide +kernel, by decide +kernel⟩, List.mem_of_getElem? (i := 23) (by decide +kernel), List.mem_of_getElem? (i := 841) (by decide +kernel), List.mem_of_getElem? (i := 842) (by decide +kernel)⟩
def lw_privs_4 : List (MethodName × Nat) := [(⟨"NinthDayHooded$State", "swapHoods", "(II)V"⟩, 6), (⟨"NinthDayHooded$Past", "takeBack", "(LNinthDayHooded$State;)Z"⟩, 5), (⟨"NinthDayHooded$State", "entry", "(II)I"⟩, 6), (⟨"NinthDayHooded$State", "bookDays", "()I"⟩, 6), (⟨"NinthDayHooded$State", "hasTrade", "(II)Z"⟩, 6), (⟨"NinthDayHooded$Tasks", "add", "(II)V"⟩, 11), (⟨"NinthDayHooded$Tasks", "look", "(LNinthDayHooded$State;I)V"⟩, 11), (⟨"NinthDayHooded$Tasks", "seeing", "(I)I"⟩, 11), (⟨"NinthDayHooded$Tasks", "wanting", "(I)I"⟩, 11), (⟨"NinthDayHooded$Tasks", "wantingWith", "(II)I"⟩, 11), (⟨"NinthDayHooded$Tasks", "wantingInAll", "()I"⟩, 11), (⟨"NinthDayHooded$Tasks", "fewestMoves", "(LNinthDayHooded$State;I)I"⟩, 11), (⟨"NinthDayHooded$Tasks", "mannedBy", "(LNinthDayHooded$State;IIII)Z"⟩, 11), (⟨"NinthDayHooded$Tasks", "allManned", "()Z"⟩, 11), (⟨"NinthDayHooded$Tasks", "move", "(III)V"⟩, 11), (⟨"NinthDayHooded", "tellMoves", "(I)V"⟩, 11)]
theorem lw_r4 : ∀ q ∈ lw_privs_4, lw_okq q := List.forall_mem_cons.mpr ⟨lw_p48, List.forall_mem_cons.mpr ⟨lw_p49, List.forall_mem_cons.mpr ⟨lw_p50, List.forall_mem_cons.mpr ⟨lw_p51, List.forall_mem_cons.mpr ⟨lw_p52, List.forall_mem_cons.mpr ⟨lw_p53, List.forall_mem_cons.mpr ⟨lw_p54, List.forall_mem_cons.mpr ⟨lw_p55, List.forall_mem_cons.mpr ⟨lw_p56, List.forall_mem_cons.mpr ⟨lw_p57, List.forall_mem_cons.mpr ⟨lw_p58, List.forall_mem_cons.mpr ⟨lw_p59, List.forall_mem_cons.mpr ⟨lw_p60, List.forall_mem_cons.mpr ⟨lw_p61, List.forall_mem_cons.mpr ⟨lw_p62, List.forall_mem_cons.mpr ⟨lw_p63, fun _ h => absurd h List.not_mem_nil⟩⟩⟩⟩⟩⟩⟩⟩⟩⟩⟩⟩⟩⟩⟩⟩
theorem lw_p64 : lw_okq (⟨"NinthDayHooded$State", "living", "(III)I"⟩, 6) := ⟨⟨by decide +kernel, by decide +kernel⟩, List.mem_of_getElem? (i := 94) (by decide +kernel), List.mem_of_getElem? (i := 865) (by decide +kernel), List.mem_of_getElem? (i := 866) (by decide +kernel)⟩
theorem lw_p65 : lw_okq (⟨"NinthDayHooded$Wishes", "add", "(III)V"⟩, 6) := ⟨⟨by decide +kernel, by decide +kernel⟩, List.mem_of_getElem? (i := 314) (by decide +kernel), List.mem_of_getElem? (i := 874) (by decide +kernel), List.mem_of_getElem? (i := 875) (by decide +kernel)⟩
theorem lw_p66 : lw_okq (⟨"NinthDayHooded$Wishes", "metBy", "([I)I"⟩, 6) := ⟨⟨by decide +kernel, by decide +kernel⟩, List.mem_of_getElem? (i := 314) (by decide +kernel), List.mem_of_getElem? (i := 886) (by decide +kernel), List.mem_of_getElem? (i := 887) (by decide +kernel)⟩
theorem lw_p67 : lw_okq (⟨"NinthDayHooded$Wishes", "isMet", "([II)Z"⟩, 6) := ⟨⟨by decide +kernel, by decide +kernel⟩, List.mem_of_getElem? (i := 314) (by decide +kernel), List.mem_of_getElem? (i := 890) (by decide +kernel), List.mem_of_getElem? (i := 891) (by decide +kernel)⟩
theorem lw_p68 : lw_okq (⟨"NinthDayHooded$Wishes", "canAllBeMet", "(I)Z"⟩, 6) := ⟨⟨by decide +kernel, by decide +kernel⟩, List.mem_of_getElem? (i := 314) (by decide +kernel), List.mem_of_getElem? (i := 903) (by decide +kernel), List.mem_of_getElem? (i := 904) (by decide +kernel)⟩
theorem lw_p69 : lw_okq (⟨"NinthDayHooded$Wishes", "join", "(III)V"⟩, 6) := ⟨⟨by decide +kernel, by decide +kernel⟩, List.mem_of_getElem? (i := 314) (by decide +kernel), List.mem_of_getElem? (i := 907) (by decide +kernel), List.mem_of_getElem? (i := 908) (by decide +kernel)⟩
theorem lw_p70 : lw_okq (⟨"NinthDayHooded$Wishes", "fewestColours", "(I)I"⟩, 6) := ⟨⟨by decide +kernel, by decide +kernel⟩, List.mem_of_getElem? (i := 314) (by decide +kernel), List.mem_of_getElem? (i := 911) (by decide +kernel), List.mem_of_getElem? (i := 912) (by decide +kernel)⟩
theorem lw_p71 : lw_okq (⟨"NinthDayHooded$Wishes", "coloursFrom", "(IIII)Z"⟩, 6) := ⟨⟨by decide +kernel, by decide +kernel⟩, List.mem_of_getElem? (i := 314) (by decide +kernel), List.mem_of_getElem? (i := 915) (by decide +kernel), List.mem_of_getElem? (i := 916) (by decide +kernel)⟩
theorem lw_p72 : lw_okq (⟨"NinthDayHooded$Wishes", "fits", "(I)Z"⟩, 6) := ⟨⟨by decide +kernel, by decide +kernel⟩, List.mem_of_getElem? (i := 314) (by decide +kernel), List.mem_of_getElem? (i := 920) (by decide +kernel), List.mem_of_getElem? (i := 921) (by decide +kernel)⟩
theorem lw_p73 : lw_okq (⟨"NinthDayHooded", "worthOfNine", "()I"⟩, 11) := ⟨⟨by decide +kernel, by decide +kernel⟩, List.mem_of_getElem? (i := 23) (by decide +kernel), List.mem_of_getElem? (i := 929) (by decide +kernel), List.mem_of_getElem? (i := 930) (by decide +kernel)⟩
theorem lw_p74 : lw_okq (⟨"NinthDayHooded$People", "findRing", "([I)I"⟩, 5) := ⟨⟨by decide +kernel, by decide +kernel⟩, List.mem_of_getElem? (i := 62) (by decide +kernel), List.mem_of_getElem? (i := 941) (by decide +kernel), List.mem_of_getElem? (i := 942) (by decide +kernel)⟩
theorem lw_p75 : lw_okq (⟨"NinthDayHooded$People", "goesRound", "([III)Z"⟩, 5) := ⟨⟨by decide +kernel, by decide +kernel⟩, List.mem_of_getElem? (i := 62) (by decide +kernel), List.mem_of_getElem? (i := 945) (by decide +kernel), List.mem_of_getElem? (i := 946) (by decide +kernel)⟩
theorem lw_p76 : lw_okq (⟨"NinthDayHooded$People", "wants", "([III)Z"⟩, 5) := ⟨⟨by decide +kernel, by decide +kernel⟩, List.mem_of_getElem? (i := 62) (by decide +kernel), List.mem_of_getElem? (i := 949) (by decide +kernel), List.mem_of_getElem? (i := 950) (by decide +kernel)⟩
theorem lw_p77 : lw_okq (⟨"NinthDayHooded$People", "isInRing", "(II)Z"⟩, 5) := ⟨⟨by decide +kernel, by decide +kernel⟩, List.mem_of_getElem? (i := 62) (by decide +kernel), List.mem_of_getElem? (i := 953) (by decide +kernel), List.mem_of_getElem? (i := 954) (by decide +kernel)⟩
theorem lw_p78 : lw_okq (⟨"NinthDayHooded", "tellRing", "(I)V"⟩, 11) := ⟨⟨by decide +kernel, by decide +kernel⟩, List.mem_of_getElem? (i := 23) (by decide +kernel), List.mem_of_getElem? (i := 957) (by decide +kernel), List.mem_of_getElem? (i := 958) (by decide +kernel)⟩
theorem lw_p79 : lw_okq (⟨"NinthDayHooded$People", "turnRing", "([II)V"⟩, 5) := ⟨⟨by decide +kernel, by decide +kernel⟩, List.mem_of_getElem? (i := 62) (by decide +kernel), List.mem_of_getElem? (i := 965) (by decide +kernel), List.mem_of_getElem? (i := 966) (by decide +kernel)⟩
def lw_privs_5 : List (MethodName × Nat) := [(⟨"NinthDayHooded$State", "living", "(III)I"⟩, 6), (⟨"NinthDayHooded$Wishes", "add", "(III)V"⟩, 6), (⟨"NinthDayHooded$Wishes", "metBy", "([I)I"⟩, 6), (⟨"NinthDayHooded$Wishes", "isMet", "([II)Z"⟩, 6), (⟨"NinthDayHooded$Wishes", "canAllBeMet", "(I)Z"⟩, 6), (⟨"NinthDayHooded$Wishes", "join", "(III)V"⟩, 6), (⟨"NinthDayHooded$Wishes", "fewestColours", "(I)I"⟩, 6), (⟨"NinthDayHooded$Wishes", "coloursFrom", "(IIII)Z"⟩, 6), (⟨"NinthDayHooded$Wishes", "fits", "(I)Z"⟩, 6), (⟨"NinthDayHooded", "worthOfNine", "()I"⟩, 11), (⟨"NinthDayHooded$People", "findRing", "([I)I"⟩, 5), (⟨"NinthDayHooded$People", "goesRound", "([III)Z"⟩, 5), (⟨"NinthDayHooded$People", "wants", "([III)Z"⟩, 5), (⟨"NinthDayHooded$People", "isInRing", "(II)Z"⟩, 5), (⟨"NinthDayHooded", "tellRing", "(I)V"⟩, 11), (⟨"NinthDayHooded$People", "turnRing", "([II)V"⟩, 5)]
theorem lw_r5 : ∀ q ∈ lw_privs_5, lw_okq q := List.forall_mem_cons.mpr ⟨lw_p64, List.forall_mem_cons.mpr ⟨lw_p65, List.forall_mem_cons.mpr ⟨lw_p66, List.forall_mem_cons.mpr ⟨lw_p67, List.forall_mem_cons.mpr ⟨lw_p68, List.forall_mem_cons.mpr ⟨lw_p69, List.forall_mem_cons.mpr ⟨lw_p70, List.forall_mem_cons.mpr ⟨lw_p71, List.forall_mem_cons.mpr ⟨lw_p72, List.forall_mem_cons.mpr ⟨lw_p73, List.forall_mem_cons.mpr ⟨lw_p74, List.forall_mem_cons.mpr ⟨lw_p75, List.forall_mem_cons.mpr ⟨lw_p76, List.forall_mem_cons.mpr ⟨lw_p77, List.forall_mem_cons.mpr ⟨lw_p78, List.forall_mem_cons.mpr ⟨lw_p79, fun _ h => absurd h List.not_mem_nil⟩⟩⟩⟩⟩⟩⟩⟩⟩⟩⟩⟩⟩⟩⟩⟩
theorem lw_p80 : lw_okq (⟨"NinthDayHooded$People", "mostLiked", "([I)I"⟩, 5) := ⟨⟨by decide +kernel, by decide +kernel⟩, List.mem_of_getElem? (i := 62) (by decide +kernel), List.mem_of_getElem? (i := 977) (by decide +kernel), List.mem_of_getElem? (i := 978) (by decide +kernel)⟩
theorem lw_p81 : lw_okq (⟨"NinthDayHooded$People", "everyone", "()I"⟩, 5) := ⟨⟨by decide +kernel, by decide +kernel⟩, List.mem_of_getElem? (i := 62) (by decide +kernel), List.mem_of_getElem? (i := 981) (by decide +kernel), List.mem_of_getElem? (i := 982) (by decide +kernel)⟩
theorem lw_p82 : lw_okq (⟨"NinthDayHooded$Thefts", "add", "(II)V"⟩, 4) := ⟨⟨by decide +kernel, by decide +kernel⟩, List.mem_of_getElem? (i := 341) (by decide +kernel), List.mem_of_getElem? (i := 991) (by decide +kernel), List.mem_of_getElem? (i := 992) (by decide +kernel)⟩
theorem lw_p83 : lw_okq (⟨"NinthDayHooded$Thefts", "suspected", "(ILNinthDayHooded$People;LNinthDayHooded$State;)I"⟩, 4) := ⟨⟨by decide +kernel, by decide +kernel⟩, List.mem_of_getElem? (i := 341) (by decide +kernel), List.mem_of_getElem? (i := 1003) (by decide +kernel), List.mem_of_getElem? (i := 1004) (by decide +kernel)⟩
theorem lw_p84 : lw_okq (⟨"NinthDayHooded$Thefts", "leastGang", "(LNinthDayHooded$People;LNinthDayHooded$State;)I"⟩, 4) := ⟨⟨by decide +kernel, by decide +kernel⟩, List.mem_of_getElem? (i := 341) (by decide +kernel), List.mem_of_getElem? (i := 1014) (by decide +kernel), List.mem_of_getElem? (i := 1015) (by decide +kernel)⟩
theorem lw_p85 : lw_okq (⟨"NinthDayHooded$Thefts", "explainsAll", "(I)Z"⟩, 4) := ⟨⟨by decide +kernel, by decide +kernel⟩, List.mem_of_getElem? (i := 341) (by decide +kernel), List.mem_of_getElem? (i := 1021) (by decide +kernel), List.mem_of_getElem? (i := 1022) (by decide +kernel)⟩
theorem lw_p86 : lw_okq (⟨"java/lang/Throwable", "fillInStackTrace", "(I)Ljava/lang/Throwable;"⟩, 6) := ⟨⟨by decide +kernel, by decide +kernel⟩, List.mem_of_getElem? (i := 1100) (by decide +kernel), List.mem_of_getElem? (i := 1098) (by decide +kernel), List.mem_of_getElem? (i := 1099) (by decide +kernel)⟩
theorem lw_p87 : lw_okq (⟨"NinthDayHooded$State", "openLessons", "(I)I"⟩, 6) := ⟨⟨by decide +kernel, by decide +kernel⟩, List.mem_of_getElem? (i := 94) (by decide +kernel), List.mem_of_getElem? (i := 1125) (by decide +kernel), List.mem_of_getElem? (i := 1126) (by decide +kernel)⟩
theorem lw_p88 : lw_okq (⟨"NinthDayHoodedModel", "begin", "([BII)V"⟩, 61) := ⟨⟨by decide +kernel, by decide +kernel⟩, List.mem_of_getElem? (i := 1153) (by decide +kernel), List.mem_of_getElem? (i := 1363) (by decide +kernel), List.mem_of_getElem? (i := 1364) (by decide +kernel)⟩
theorem lw_p89 : lw_okq (⟨"NinthDayHoodedModel", "fine", "()Z"⟩, 61) := ⟨⟨by decide +kernel, by decide +kernel⟩, List.mem_of_getElem? (i := 1153) (by decide +kernel), List.mem_of_getElem? (i := 1367) (by decide +kernel), List.mem_of_getElem? (i := 1368) (by decide +kernel)⟩
theorem lw_p90 : lw_okq (⟨"NinthDayHoodedModel", "fault", "(I)V"⟩, 61) := ⟨⟨by decide +kernel, by decide +kernel⟩, List.mem_of_getElem? (i := 1153) (by decide +kernel), List.mem_of_getElem? (i := 1371) (by decide +kernel), List.mem_of_getElem? (i := 1372) (by decide +kernel)⟩
theorem lw_p91 : lw_okq (⟨"NinthDayHoodedModel", "readOne", "(I)V"⟩, 61) := ⟨⟨by decide +kernel, by decide +kernel⟩, List.mem_of_getElem? (i := 1153) (by decide +kernel), List.mem_of_getElem? (i := 1375) (by decide +kernel), List.mem_of_getElem? (i := 1376) (by decide +kernel)⟩
theorem lw_p92 : lw_okq (⟨"NinthDayHoodedModel", "digit", "(I)I"⟩, 61) := ⟨⟨by decide +kernel, by decide +kernel⟩, List.mem_of_getElem? (i := 1153) (by decide +kernel), List.mem_of_getElem? (i := 1379) (by decide +kernel), List.mem_of_getElem? (i := 1380) (by decide +kernel)⟩
theorem lw_p93 : lw_okq (⟨"NinthDayHoodedModel", "here", "()I"⟩, 61) := ⟨⟨by decide +kernel, by decide +kernel⟩, List.mem_of_getElem? (i := 1153) (by decide +kernel), List.mem_of_getElem? (i := 1383) (by decide +kernel), List.mem_of_getElem? (i := 1384) (by decide +kernel)⟩
theorem lw_p94 : lw_okq (⟨"NinthDayHoodedModel", "passes", "(C)Z"⟩, 61) := ⟨⟨by decide +kernel, by decide +kernel⟩, List.mem_of_getElem? (i := 1153) (by decide +kernel), List.mem_of_getElem? (i := 1387) (by decide +kernel), List.mem_of_getElem? (i := 1388) (by decide +kernel)⟩
theorem lw_p95 : lw_okq (⟨"NinthDayHoodedModel", "come", "(III)V"⟩, 61) := ⟨⟨by decide +kernel, by decide +kernel⟩, List.mem_of_getElem? (i := 1153) (by decide +kernel), List.mem_of_getElem? (i := 1391) (by decide +kernel), List.mem_of_getElem? (i := 1392) (by decide +kernel)⟩
def lw_privs_6 : List (MethodName × Nat) := [(⟨"NinthDayHooded$People", "mostLiked", "([I)I"⟩, 5), (⟨"NinthDayHooded$People", "everyone", "()I"⟩, 5), (⟨"NinthDayHooded$Thefts", "add", "(II)V"⟩, 4), (⟨"NinthDayHooded$Thefts", "suspected", "(ILNinthDayHooded$People;LNinthDayHooded$State;)I"⟩, 4), (⟨"NinthDayHooded$Thefts", "leastGang", "(LNinthDayHooded$People;LNinthDayHooded$State;)I"⟩, 4), (⟨"NinthDayHooded$Thefts", "explainsAll", "(I)Z"⟩, 4), (⟨"java/lang/Throwable", "fillInStackTrace", "(I)Ljava/lang/Throwable;"⟩, 6), (⟨"NinthDayHooded$State", "openLessons", "(I)I"⟩, 6), (⟨"NinthDayHoodedModel", "begin", "([BII)V"⟩, 61), (⟨"NinthDayHoodedModel", "fine", "()Z"⟩, 61), (⟨"NinthDayHoodedModel", "fault", "(I)V"⟩, 61), (⟨"NinthDayHoodedModel", "readOne", "(I)V"⟩, 61), (⟨"NinthDayHoodedModel", "digit", "(I)I"⟩, 61), (⟨"NinthDayHoodedModel", "here", "()I"⟩, 61), (⟨"NinthDayHoodedModel", "passes", "(C)Z"⟩, 61), (⟨"NinthDayHoodedModel", "come", "(III)V"⟩, 61)]
theorem lw_r6 : ∀ q ∈ lw_privs_6, lw_okq q := List.forall_mem_cons.mpr ⟨lw_p80, List.forall_mem_cons.mpr ⟨lw_p81, List.forall_mem_cons.mpr ⟨lw_p82, List.forall_mem_cons.mpr ⟨lw_p83, List.forall_mem_cons.mpr ⟨lw_p84, List.forall_mem_cons.mpr ⟨lw_p85, List.forall_mem_cons.mpr ⟨lw_p86, List.forall_mem_cons.mpr ⟨lw_p87, List.forall_mem_cons.mpr ⟨lw_p88, List.forall_mem_cons.mpr ⟨lw_p89, List.forall_mem_cons.mpr ⟨lw_p90, List.forall_mem_cons.mpr ⟨lw_p91, List.forall_mem_cons.mpr ⟨lw_p92, List.forall_mem_cons.mpr ⟨lw_p93, List.forall_mem_cons.mpr ⟨lw_p94, List.forall_mem_cons.mpr ⟨lw_p95, fun _ h => absurd h List.not_mem_nil⟩⟩⟩⟩⟩⟩⟩⟩⟩⟩⟩⟩⟩⟩⟩⟩
theorem lw_p96 : lw_okq (⟨"NinthDayHoodedModel", "isOne", "(I)Z"⟩, 61) := ⟨⟨by decide +kernel, by decide +kernel⟩, List.mem_of_getElem? (i := 1153) (by decide +kernel), List.mem_of_getElem? (i := 1399) (by decide +kernel), List.mem_of_getElem? (i := 1400) (by decide +kernel)⟩
theorem lw_p97 : lw_okq (⟨"NinthDayHoodedModel", "areDigits", "(I)Z"⟩, 61) := ⟨⟨by decide +kernel, by decide +kernel⟩, List.mem_of_getElem? (i := 1153) (by decide +kernel), List.mem_of_getElem? (i := 1403) (by decide +kernel), List.mem_of_getElem? (i := 1404) (by decide +kernel)⟩
theorem lw_p98 : lw_okq (⟨"NinthDayHoodedModel", "held", "(I)I"⟩, 61) := ⟨⟨by decide +kernel, by decide +kernel⟩, List.mem_of_getElem? (i := 1153) (by decide +kernel), List.mem_of_getElem? (i := 1415) (by decide +kernel), List.mem_of_getElem? (i := 1416) (by decide +kernel)⟩
theorem lw_p99 : lw_okq (⟨"NinthDayHoodedModel", "sum", "(I)I"⟩, 61) := ⟨⟨by decide +kernel, by decide +kernel⟩, List.mem_of_getElem? (i := 1153) (by decide +kernel), List.mem_of_getElem? (i := 1419) (by decide +kernel), List.mem_of_getElem? (i := 1420) (by decide +kernel)⟩
theorem lw_p100 : lw_okq (⟨"NinthDayHoodedModel", "product", "(I)I"⟩, 61) := ⟨⟨by decide +kernel, by decide +kernel⟩, List.mem_of_getElem? (i := 1153) (by decide +kernel), List.mem_of_getElem? (i := 1423) (by decide +kernel), List.mem_of_getElem? (i := 1424) (by decide +kernel)⟩
theorem lw_p101 : lw_okq (⟨"NinthDayHoodedModel", "thing", "(I)I"⟩, 61) := ⟨⟨by decide +kernel, by decide +kernel⟩, List.mem_of_getElem? (i := 1153) (by decide +kernel), List.mem_of_getElem? (i := 1427) (by decide +kernel), List.mem_of_getElem? (i := 1428) (by decide +kernel)⟩
theorem lw_p102 : lw_okq (⟨"NinthDayHoodedModel", "need", "(C)V"⟩, 61) := ⟨⟨by decide +kernel, by decide +kernel⟩, List.mem_of_getElem? (i := 1153) (by decide +kernel), List.mem_of_getElem? (i := 1431) (by decide +kernel), List.mem_of_getElem? (i := 1432) (by decide +kernel)⟩
theorem lw_p103 : lw_okq (⟨"NinthDayHoodedModel", "valueOf", "(I[I)I"⟩, 61) := ⟨⟨by decide +kernel, by decide +kernel⟩, List.mem_of_getElem? (i := 1153) (by decide +kernel), List.mem_of_getElem? (i := 1435) (by decide +kernel), List.mem_of_getElem? (i := 1436) (by decide +kernel)⟩
theorem lw_p104 : lw_okq (⟨"NinthDayHoodedModel", "lost", "()I"⟩, 61) := ⟨⟨by decide +kernel, by decide +kernel⟩, List.mem_of_getElem? (i := 1153) (by decide +kernel), List.mem_of_getElem? (i := 1449) (by decide +kernel), List.mem_of_getElem? (i := 1450) (by decide +kernel)⟩
theorem lw_p105 : lw_okq (⟨"NinthDayHoodedModel", "areTwo", "(II)Z"⟩, 61) := ⟨⟨by decide +kernel, by decide +kernel⟩, List.mem_of_getElem? (i := 1153) (by decide +kernel), List.mem_of_getElem? (i := 1460) (by decide +kernel), List.mem_of_getElem? (i := 1461) (by decide +kernel)⟩
theorem lw_p106 : lw_okq (⟨"NinthDayHoodedModel", "costOf", "([IIII)I"⟩, 61) := ⟨⟨by decide +kernel, by decide +kernel⟩, List.mem_of_getElem? (i := 1153) (by decide +kernel), List.mem_of_getElem? (i := 1481) (by decide +kernel), List.mem_of_getElem? (i := 1482) (by decide +kernel)⟩
theorem lw_p107 : lw_okq (⟨"NinthDayHoodedModel", "findGuides", "([II)V"⟩, 61) := ⟨⟨by decide +kernel, by decide +kernel⟩, List.mem_of_getElem? (i := 1153) (by decide +kernel), List.mem_of_getElem? (i := 1489) (by decide +kernel), List.mem_of_getElem? (i := 1490) (by decide +kernel)⟩
theorem lw_p108 : lw_okq (⟨"NinthDayHoodedModel", "hoodedOn", "([II)I"⟩, 61) := ⟨⟨by decide +kernel, by decide +kernel⟩, List.mem_of_getElem? (i := 1153) (by decide +kernel), List.mem_of_getElem? (i := 1493) (by decide +kernel), List.mem_of_getElem? (i := 1494) (by decide +kernel)⟩
theorem lw_p109 : lw_okq (⟨"NinthDayHoodedModel", "goGuide", "([IIII)V"⟩, 61) := ⟨⟨by decide +kernel, by decide +kernel⟩, List.mem_of_getElem? (i := 1153) (by decide +kernel), List.mem_of_getElem? (i := 1498) (by decide +kernel), List.mem_of_getElem? (i := 1499) (by decide +kernel)⟩
theorem lw_p110 : lw_okq (⟨"NinthDayHoodedModel", "tell", "(I)V"⟩, 61) := ⟨⟨by decide +kernel, by decide +kernel⟩, List.mem_of_getElem? (i := 1153) (by decide +kernel), List.mem_of_getElem? (i := 1502) (by decide +kernel), List.mem_of_getElem? (i := 1503) (by decide +kernel)⟩
theorem lw_p111 : lw_okq (⟨"NinthDayHoodedModel", "remember", "([I)V"⟩, 61) := ⟨⟨by decide +kernel, by decide +kernel⟩, List.mem_of_getElem? (i := 1153) (by decide +kernel), List.mem_of_getElem? (i := 1518) (by decide +kernel), List.mem_of_getElem? (i := 1519) (by decide +kernel)⟩
def lw_privs_7 : List (MethodName × Nat) := [(⟨"NinthDayHoodedModel", "isOne", "(I)Z"⟩, 61), (⟨"NinthDayHoodedModel", "areDigits", "(I)Z"⟩, 61), (⟨"NinthDayHoodedModel", "held", "(I)I"⟩, 61), (⟨"NinthDayHoodedModel", "sum", "(I)I"⟩, 61), (⟨"NinthDayHoodedModel", "product", "(I)I"⟩, 61), (⟨"NinthDayHoodedModel", "thing", "(I)I"⟩, 61), (⟨"NinthDayHoodedModel", "need", "(C)V"⟩, 61), (⟨"NinthDayHoodedModel", "valueOf", "(I[I)I"⟩, 61), (⟨"NinthDayHoodedModel", "lost", "()I"⟩, 61), (⟨"NinthDayHoodedModel", "areTwo", "(II)Z"⟩, 61), (⟨"NinthDayHoodedModel", "costOf", "([IIII)I"⟩, 61), (⟨"NinthDayHoodedModel", "findGuides", "([II)V"⟩, 61), (⟨"NinthDayHoodedModel", "hoodedOn", "([II)I"⟩, 61), (⟨"NinthDayHoodedModel", "goGuide", "([IIII)V"⟩, 61), (⟨"NinthDayHoodedModel", "tell", "(I)V"⟩, 61), (⟨"NinthDayHoodedModel", "remember", "([I)V"⟩, 61)]
theorem lw_r7 : ∀ q ∈ lw_privs_7, lw_okq q := List.forall_mem_cons.mpr ⟨lw_p96, List.forall_mem_cons.mpr ⟨lw_p97, List.forall_mem_cons.mpr ⟨lw_p98, List.forall_mem_cons.mpr ⟨lw_p99, List.forall_mem_cons.mpr ⟨lw_p100, List.forall_mem_cons.mpr ⟨lw_p101, List.forall_mem_cons.mpr ⟨lw_p102, List.forall_mem_cons.mpr ⟨lw_p103, List.forall_mem_cons.mpr ⟨lw_p104, List.forall_mem_cons.mpr ⟨lw_p105, List.forall_mem_cons.mpr ⟨lw_p106, List.forall_mem_cons.mpr ⟨lw_p107, List.forall_mem_cons.mpr ⟨lw_p108, List.forall_mem_cons.mpr ⟨lw_p109, List.forall_mem_cons.mpr ⟨lw_p110, List.forall_mem_cons.mpr ⟨lw_p111, fun _ h => absurd h List.not_mem_nil⟩⟩⟩⟩⟩⟩⟩⟩⟩⟩⟩⟩⟩⟩⟩⟩
theorem lw_p112 : lw_okq (⟨"NinthDayHoodedModel", "goDay", "([I)V"⟩, 61) := ⟨⟨by decide +kernel, by decide +kernel⟩, List.mem_of_getElem? (i := 1153) (by decide +kernel), List.mem_of_getElem? (i := 1525) (by decide +kernel), List.mem_of_getElem? (i := 1526) (by decide +kernel)⟩
theorem lw_p113 : lw_okq (⟨"NinthDayHoodedModel", "learn", "([III)V"⟩, 61) := ⟨⟨by decide +kernel, by decide +kernel⟩, List.mem_of_getElem? (i := 1153) (by decide +kernel), List.mem_of_getElem? (i := 1529) (by decide +kernel), List.mem_of_getElem? (i := 1530) (by decide +kernel)⟩
theorem lw_p114 : lw_okq (⟨"NinthDayHoodedModel", "readAct", "(I)V"⟩, 61) := ⟨⟨by decide +kernel, by decide +kernel⟩, List.mem_of_getElem? (i := 1153) (by decide +kernel), List.mem_of_getElem? (i := 1545) (by decide +kernel), List.mem_of_getElem? (i := 1546) (by decide +kernel)⟩
theorem lw_p115 : lw_okq (⟨"NinthDayHoodedModel", "letter", "()I"⟩, 61) := ⟨⟨by decide +kernel, by decide +kernel⟩, List.mem_of_getElem? (i := 1153) (by decide +kernel), List.mem_of_getElem? (i := 1549) (by decide +kernel), List.mem_of_getElem? (i := 1550) (by decide +kernel)⟩
theorem lw_p116 : lw_okq (⟨"NinthDayHoodedModel", "act", "(I)Z"⟩, 61) := ⟨⟨by decide +kernel, by decide +kernel⟩, List.mem_of_getElem? (i := 1153) (by decide +kernel), List.mem_of_getElem? (i := 1553) (by decide +kernel), List.mem_of_getElem? (i := 1554) (by decide +kernel)⟩
theorem lw_p117 : lw_okq (⟨"NinthDayHoodedModel", "lineOf", "(II)I"⟩, 61) := ⟨⟨by decide +kernel, by decide +kernel⟩, List.mem_of_getElem? (i := 1153) (by decide +kernel), List.mem_of_getElem? (i := 1568) (by decide +kernel), List.mem_of_getElem? (i := 1569) (by decide +kernel)⟩
theorem lw_p118 : lw_okq (⟨"NinthDayHoodedModel", "ask", "()V"⟩, 61) := ⟨⟨by decide +kernel, by decide +kernel⟩, List.mem_of_getElem? (i := 1153) (by decide +kernel), List.mem_of_getElem? (i := 1599) (by decide +kernel), List.mem_of_getElem? (i := 1600) (by decide +kernel)⟩
theorem lw_p119 : lw_okq (⟨"NinthDayHoodedModel", "wanting", "(I)I"⟩, 61) := ⟨⟨by decide +kernel, by decide +kernel⟩, List.mem_of_getElem? (i := 1153) (by decide +kernel), List.mem_of_getElem? (i := 1603) (by decide +kernel), List.mem_of_getElem? (i := 1604) (by decide +kernel)⟩
theorem lw_p120 : lw_okq (⟨"NinthDayHoodedModel", "place", "(I)Z"⟩, 61) := ⟨⟨by decide +kernel, by decide +kernel⟩, List.mem_of_getElem? (i := 1153) (by decide +kernel), List.mem_of_getElem? (i := 1607) (by decide +kernel), List.mem_of_getElem? (i := 1608) (by decide +kernel)⟩
theorem lw_p121 : lw_okq (⟨"NinthDayHoodedModel", "tellMends", "()I"⟩, 61) := ⟨⟨by decide +kernel, by decide +kernel⟩, List.mem_of_getElem? (i := 1153) (by decide +kernel), List.mem_of_getElem? (i := 1623) (by decide +kernel), List.mem_of_getElem? (i := 1624) (by decide +kernel)⟩
theorem lw_p122 : lw_okq (⟨"NinthDayHoodedModel", "findMends", "()I"⟩, 61) := ⟨⟨by decide +kernel, by decide +kernel⟩, List.mem_of_getElem? (i := 1153) (by decide +kernel), List.mem_of_getElem? (i := 1627) (by decide +kernel), List.mem_of_getElem? (i := 1628) (by decide +kernel)⟩
theorem lw_p123 : lw_okq (⟨"NinthDayHoodedModel", "allWanting", "()I"⟩, 61) := ⟨⟨by decide +kernel, by decide +kernel⟩, List.mem_of_getElem? (i := 1153) (by decide +kernel), List.mem_of_getElem? (i := 1631) (by decide +kernel), List.mem_of_getElem? (i := 1632) (by decide +kernel)⟩
theorem lw_p124 : lw_okq (⟨"NinthDayHoodedModel", "mendsWith", "(I)Z"⟩, 61) := ⟨⟨by decide +kernel, by decide +kernel⟩, List.mem_of_getElem? (i := 1153) (by decide +kernel), List.mem_of_getElem? (i := 1635) (by decide +kernel), List.mem_of_getElem? (i := 1636) (by decide +kernel)⟩
theorem lw_p125 : lw_okq (⟨"NinthDayHoodedModel", "metBy", "([I)I"⟩, 61) := ⟨⟨by decide +kernel, by decide +kernel⟩, List.mem_of_getElem? (i := 1153) (by decide +kernel), List.mem_of_getElem? (i := 1671) (by decide +kernel), List.mem_of_getElem? (i := 1672) (by decide +kernel)⟩
theorem lw_p126 : lw_okq (⟨"NinthDayHoodedModel", "goColour", "(II)V"⟩, 61) := ⟨⟨by decide +kernel, by decide +kernel⟩, List.mem_of_getElem? (i := 1153) (by decide +kernel), List.mem_of_getElem? (i := 1683) (by decide +kernel), List.mem_of_getElem? (i := 1684) (by decide +kernel)⟩
theorem lw_p127 : lw_okq (⟨"NinthDayHoodedModel", "tellRing", "()I"⟩, 61) := ⟨⟨by decide +kernel, by decide +kernel⟩, List.mem_of_getElem? (i := 1153) (by decide +kernel), List.mem_of_getElem? (i := 1699) (by decide +kernel), List.mem_of_getElem? (i := 1700) (by decide +kernel)⟩
def lw_privs_8 : List (MethodName × Nat) := [(⟨"NinthDayHoodedModel", "goDay", "([I)V"⟩, 61), (⟨"NinthDayHoodedModel", "learn", "([III)V"⟩, 61), (⟨"NinthDayHoodedModel", "readAct", "(I)V"⟩, 61), (⟨"NinthDayHoodedModel", "letter", "()I"⟩, 61), (⟨"NinthDayHoodedModel", "act", "(I)Z"⟩, 61), (⟨"NinthDayHoodedModel", "lineOf", "(II)I"⟩, 61), (⟨"NinthDayHoodedModel", "ask", "()V"⟩, 61), (⟨"NinthDayHoodedModel", "wanting", "(I)I"⟩, 61), (⟨"NinthDayHoodedModel", "place", "(I)Z"⟩, 61), (⟨"NinthDayHoodedModel", "tellMends", "()I"⟩, 61), (⟨"NinthDayHoodedModel", "findMends", "()I"⟩, 61), (⟨"NinthDayHoodedModel", "allWanting", "()I"⟩, 61), (⟨"NinthDayHoodedModel", "mendsWith", "(I)Z"⟩, 61), (⟨"NinthDayHoodedModel", "metBy", "([I)I"⟩, 61), (⟨"NinthDayHoodedModel", "goColour", "(II)V"⟩, 61), (⟨"NinthDayHoodedModel", "tellRing", "()I"⟩, 61)]
theorem lw_r8 : ∀ q ∈ lw_privs_8, lw_okq q := List.forall_mem_cons.mpr ⟨lw_p112, List.forall_mem_cons.mpr ⟨lw_p113, List.forall_mem_cons.mpr ⟨lw_p114, List.forall_mem_cons.mpr ⟨lw_p115, List.forall_mem_cons.mpr ⟨lw_p116, List.forall_mem_cons.mpr ⟨lw_p117, List.forall_mem_cons.mpr ⟨lw_p118, List.forall_mem_cons.mpr ⟨lw_p119, List.forall_mem_cons.mpr ⟨lw_p120, List.forall_mem_cons.mpr ⟨lw_p121, List.forall_mem_cons.mpr ⟨lw_p122, List.forall_mem_cons.mpr ⟨lw_p123, List.forall_mem_cons.mpr ⟨lw_p124, List.forall_mem_cons.mpr ⟨lw_p125, List.forall_mem_cons.mpr ⟨lw_p126, List.forall_mem_cons.mpr ⟨lw_p127, fun _ h => absurd h List.not_mem_nil⟩⟩⟩⟩⟩⟩⟩⟩⟩⟩⟩⟩⟩⟩⟩⟩
theorem lw_p128 : lw_okq (⟨"NinthDayHoodedModel", "findRing", "([I)Z"⟩, 61) := ⟨⟨by decide +kernel, by decide +kernel⟩, List.mem_of_getElem? (i := 1153) (by decide +kernel), List.mem_of_getElem? (i := 1703) (by decide +kernel), List.mem_of_getElem? (i := 1704) (by decide +kernel)⟩
theorem lw_p129 : lw_okq (⟨"NinthDayHoodedModel", "goRing", "([III)Z"⟩, 61) := ⟨⟨by decide +kernel, by decide +kernel⟩, List.mem_of_getElem? (i := 1153) (by decide +kernel), List.mem_of_getElem? (i := 1707) (by decide +kernel), List.mem_of_getElem? (i := 1708) (by decide +kernel)⟩
theorem lw_p130 : lw_okq (⟨"NinthDayHoodedModel", "wants", "([III)Z"⟩, 61) := ⟨⟨by decide +kernel, by decide +kernel⟩, List.mem_of_getElem? (i := 1153) (by decide +kernel), List.mem_of_getElem? (i := 1711) (by decide +kernel), List.mem_of_getElem? (i := 1712) (by decide +kernel)⟩
theorem lw_p131 : lw_okq (⟨"NinthDayHoodedModel", "turnRing", "([I)V"⟩, 61) := ⟨⟨by decide +kernel, by decide +kernel⟩, List.mem_of_getElem? (i := 1153) (by decide +kernel), List.mem_of_getElem? (i := 1719) (by decide +kernel), List.mem_of_getElem? (i := 1720) (by decide +kernel)⟩
theorem lw_p132 : lw_okq (⟨"NinthDayHoodedModel", "suspectsOf", "(I)I"⟩, 61) := ⟨⟨by decide +kernel, by decide +kernel⟩, List.mem_of_getElem? (i := 1153) (by decide +kernel), List.mem_of_getElem? (i := 1743) (by decide +kernel), List.mem_of_getElem? (i := 1744) (by decide +kernel)⟩
theorem lw_p133 : lw_okq (⟨"NinthDayHoodedModel", "witnesses", "(II)I"⟩, 61) := ⟨⟨by decide +kernel, by decide +kernel⟩, List.mem_of_getElem? (i := 1153) (by decide +kernel), List.mem_of_getElem? (i := 1755) (by decide +kernel), List.mem_of_getElem? (i := 1756) (by decide +kernel)⟩
def lw_privs_9 : List (MethodName × Nat) := [(⟨"NinthDayHoodedModel", "findRing", "([I)Z"⟩, 61), (⟨"NinthDayHoodedModel", "goRing", "([III)Z"⟩, 61), (⟨"NinthDayHoodedModel", "wants", "([III)Z"⟩, 61), (⟨"NinthDayHoodedModel", "turnRing", "([I)V"⟩, 61), (⟨"NinthDayHoodedModel", "suspectsOf", "(I)I"⟩, 61), (⟨"NinthDayHoodedModel", "witnesses", "(II)I"⟩, 61)]
theorem lw_r9 : ∀ q ∈ lw_privs_9, lw_okq q := List.forall_mem_cons.mpr ⟨lw_p128, List.forall_mem_cons.mpr ⟨lw_p129, List.forall_mem_cons.mpr ⟨lw_p130, List.forall_mem_cons.mpr ⟨lw_p131, List.forall_mem_cons.mpr ⟨lw_p132, List.forall_mem_cons.mpr ⟨lw_p133, fun _ h => absurd h List.not_mem_nil⟩⟩⟩⟩⟩⟩
def lw_privs : List (MethodName × Nat) := lw_privs_1 ++ (lw_privs_2 ++ (lw_privs_3 ++ (lw_privs_4 ++ (lw_privs_5 ++ (lw_privs_6 ++ (lw_privs_7 ++ (lw_privs_8 ++ (lw_privs_9))))))))
def lw_tbl : List Cond := k2_sels lw_privs ++ tables_1
theorem lw_privs_ok : ∀ q ∈ lw_privs, lw_okq q := by
  show ∀ q ∈ lw_privs_1 ++ (lw_privs_2 ++ (lw_privs_3 ++ (lw_privs_4 ++ (lw_privs_5 ++ (lw_privs_6 ++ (lw_privs_7 ++ (lw_privs_8 ++ (lw_privs_9)))))))), lw_okq q
  exact List.forall_mem_append.mpr ⟨lw_r1, List.forall_mem_append.mpr ⟨lw_r2, List.forall_mem_append.mpr ⟨lw_r3, List.forall_mem_append.mpr ⟨lw_r4, List.forall_mem_append.mpr ⟨lw_r5, List.forall_mem_append.mpr ⟨lw_r6, List.forall_mem_append.mpr ⟨lw_r7, List.forall_mem_append.mpr ⟨lw_r8, lw_r9⟩⟩⟩⟩⟩⟩⟩⟩
-- ===== end of PART A; then your names; then what follows =====
end
section
def RX0 : String := "NinthDayHooded$Guides"
def TX0 : u_T := fun k => match k with
  | 0 => ("NinthDayHooded$Guides", "hooded", "[I", true)
  | 1 => ("NinthDayHooded$Guides", "best", "[I", true)
  | 2 => ("NinthDayHooded$Guides", "chosen", "[I", true)
  | 3 => ("NinthDayHooded$Guides", "leading", "[I", true)
  | 4 => ("NinthDayHooded$Guides", "prices", "[I", true)
  | 5 => ("NinthDayHooded$Guides", "atLeast", "[I", true)
  | 6 => ("NinthDayHooded$Guides", "n", "I", false)
  | 7 => ("NinthDayHooded$Guides", "crowd", "I", false)
  | _ => ("NinthDayHooded$Guides", "worth", "I", false)
def tyX0 : Nat → FieldType := fun k => match k with
  | 0 => .array .int
  | 1 => .array .int
  | 2 => .array .int
  | 3 => .array .int
  | 4 => .array .int
  | 5 => .array .int
  | 6 => .int
  | 7 => .int
  | _ => .int
theorem nmX0 : ∀ a, a < 9 → ∀ b, b < 9 → a ≠ b → (TX0 a).2.1 ≠ (TX0 b).2.1 := by decide +kernel
theorem tyX0_ok : ∀ k, k < 9 → parseFieldDescriptor (TX0 k).2.2.1 = some (tyX0 k) := by decide +kernel
def RX1 : String := "NinthDayHooded$Past"
def TX1 : u_T := fun k => match k with
  | 0 => ("NinthDayHooded$Past", "before", "[LNinthDayHooded$State;", true)
  | 1 => ("NinthDayHooded$Past", "kept", "[LNinthDayHooded$State;", true)
  | 2 => ("NinthDayHooded$Past", "keptCrowd", "[I", true)
  | 3 => ("NinthDayHooded$Past", "next", "I", false)
  | _ => ("NinthDayHooded$Past", "undos", "I", false)
def tyX1 : Nat → FieldType := fun k => match k with
  | 0 => .array (.object "NinthDayHooded$State")
  | 1 => .array (.object "NinthDayHooded$State")
  | 2 => .array .int
  | 3 => .int
  | _ => .int
theorem nmX1 : ∀ a, a < 5 → ∀ b, b < 5 → a ≠ b → (TX1 a).2.1 ≠ (TX1 b).2.1 := by decide +kernel
theorem tyX1_ok : ∀ k, k < 5 → parseFieldDescriptor (TX1 k).2.2.1 = some (tyX1 k) := by decide +kernel
def RX2 : String := "NinthDayHooded$People"
def TX2 : u_T := fun k => match k with
  | 0 => ("NinthDayHooded$People", "trust", "[I", true)
  | 1 => ("NinthDayHooded$People", "likes", "[I", true)
  | 2 => ("NinthDayHooded$People", "ring", "[I", true)
  | 3 => ("NinthDayHooded$People", "most", "[I", true)
  | _ => ("NinthDayHooded$People", "n", "I", false)
def tyX2 : Nat → FieldType := fun k => match k with
  | 0 => .array .int
  | 1 => .array .int
  | 2 => .array .int
  | 3 => .array .int
  | _ => .int
theorem nmX2 : ∀ a, a < 5 → ∀ b, b < 5 → a ≠ b → (TX2 a).2.1 ≠ (TX2 b).2.1 := by decide +kernel
theorem tyX2_ok : ∀ k, k < 5 → parseFieldDescriptor (TX2 k).2.2.1 = some (tyX2 k) := by decide +kernel
def RX3 : String := "NinthDayHooded$Row"
def TX3 : u_T := fun k => match k with
  | 0 => ("NinthDayHooded$Row", "numbers", "[I", true)
  | _ => ("NinthDayHooded$Row", "size", "I", false)
def tyX3 : Nat → FieldType := fun k => match k with
  | 0 => .array .int
  | _ => .int
theorem nmX3 : ∀ a, a < 2 → ∀ b, b < 2 → a ≠ b → (TX3 a).2.1 ≠ (TX3 b).2.1 := by decide +kernel
theorem tyX3_ok : ∀ k, k < 2 → parseFieldDescriptor (TX3 k).2.2.1 = some (tyX3 k) := by decide +kernel
def RX4 : String := "NinthDayHooded$Rule"
def TX4 : u_T := fun k => match k with
  | 0 => ("NinthDayHooded$Rule", "code", "[I", true)
  | 1 => ("NinthDayHooded$Rule", "draft", "[I", true)
  | 2 => ("NinthDayHooded$Rule", "waiting", "[I", true)
  | 3 => ("NinthDayHooded$Rule", "stack", "[I", true)
  | 4 => ("NinthDayHooded$Rule", "things", "[I", true)
  | 5 => ("NinthDayHooded$Rule", "compared", "[Z", true)
  | 6 => ("NinthDayHooded$Rule", "size", "I", false)
  | 7 => ("NinthDayHooded$Rule", "drafted", "I", false)
  | 8 => ("NinthDayHooded$Rule", "waits", "I", false)
  | 9 => ("NinthDayHooded$Rule", "depth", "I", false)
  | 10 => ("NinthDayHooded$Rule", "digits", "I", false)
  | _ => ("NinthDayHooded$Rule", "wantsThing", "Z", false)
def tyX4 : Nat → FieldType := fun k => match k with
  | 0 => .array .int
  | 1 => .array .int
  | 2 => .array .int
  | 3 => .array .int
  | 4 => .array .int
  | 5 => .array .boolean
  | 6 => .int
  | 7 => .int
  | 8 => .int
  | 9 => .int
  | 10 => .int
  | _ => .boolean
theorem nmX4 : ∀ a, a < 12 → ∀ b, b < 12 → a ≠ b → (TX4 a).2.1 ≠ (TX4 b).2.1 := by decide +kernel
theorem tyX4_ok : ∀ k, k < 12 → parseFieldDescriptor (TX4 k).2.2.1 = some (tyX4 k) := by decide +kernel
def RX5 : String := "NinthDayHooded$State"
def TX5 : u_T := fun k => match k with
  | 0 => ("NinthDayHooded$State", "hood", "[I", true)
  | 1 => ("NinthDayHooded$State", "street", "[I", true)
  | 2 => ("NinthDayHooded$State", "trades", "[I", true)
  | 3 => ("NinthDayHooded$State", "lessons", "[I", true)
  | 4 => ("NinthDayHooded$State", "book", "[J", true)
  | _ => ("NinthDayHooded$State", "now", "I", false)
def tyX5 : Nat → FieldType := fun k => match k with
  | 0 => .array .int
  | 1 => .array .int
  | 2 => .array .int
  | 3 => .array .int
  | 4 => .array .long
  | _ => .int
theorem nmX5 : ∀ a, a < 6 → ∀ b, b < 6 → a ≠ b → (TX5 a).2.1 ≠ (TX5 b).2.1 := by decide +kernel
theorem tyX5_ok : ∀ k, k < 6 → parseFieldDescriptor (TX5 k).2.2.1 = some (tyX5 k) := by decide +kernel
def RX6 : String := "NinthDayHooded$Tasks"
def TX6 : u_T := fun k => match k with
  | 0 => ("NinthDayHooded$Tasks", "trade", "[I", true)
  | 1 => ("NinthDayHooded$Tasks", "need", "[I", true)
  | 2 => ("NinthDayHooded$Tasks", "needOf", "[I", true)
  | 3 => ("NinthDayHooded$Tasks", "able", "[I", true)
  | 4 => ("NinthDayHooded$Tasks", "known", "[I", true)
  | 5 => ("NinthDayHooded$Tasks", "hooded", "[I", true)
  | 6 => ("NinthDayHooded$Tasks", "moved", "[I", true)
  | 7 => ("NinthDayHooded$Tasks", "movedTo", "[I", true)
  | 8 => ("NinthDayHooded$Tasks", "n", "I", false)
  | 9 => ("NinthDayHooded$Tasks", "crowd", "I", false)
  | _ => ("NinthDayHooded$Tasks", "wanted", "I", false)
def tyX6 : Nat → FieldType := fun k => match k with
  | 0 => .array .int
  | 1 => .array .int
  | 2 => .array .int
  | 3 => .array .int
  | 4 => .array .int
  | 5 => .array .int
  | 6 => .array .int
  | 7 => .array .int
  | 8 => .int
  | 9 => .int
  | _ => .int
theorem nmX6 : ∀ a, a < 11 → ∀ b, b < 11 → a ≠ b → (TX6 a).2.1 ≠ (TX6 b).2.1 := by decide +kernel
theorem tyX6_ok : ∀ k, k < 11 → parseFieldDescriptor (TX6 k).2.2.1 = some (tyX6 k) := by decide +kernel
def RX7 : String := "NinthDayHooded$Text"
def TX7 : u_T := fun k => match k with
  | 0 => ("NinthDayHooded$Text", "signs", "[I", true)
  | _ => ("NinthDayHooded$Text", "length", "I", false)
def tyX7 : Nat → FieldType := fun k => match k with
  | 0 => .array .int
  | _ => .int
theorem nmX7 : ∀ a, a < 2 → ∀ b, b < 2 → a ≠ b → (TX7 a).2.1 ≠ (TX7 b).2.1 := by decide +kernel
theorem tyX7_ok : ∀ k, k < 2 → parseFieldDescriptor (TX7 k).2.2.1 = some (tyX7 k) := by decide +kernel
def RX8 : String := "NinthDayHooded$Thefts"
def TX8 : u_T := fun k => match k with
  | 0 => ("NinthDayHooded$Thefts", "robbed", "[I", true)
  | 1 => ("NinthDayHooded$Thefts", "when", "[I", true)
  | 2 => ("NinthDayHooded$Thefts", "who", "[I", true)
  | _ => ("NinthDayHooded$Thefts", "n", "I", false)
def tyX8 : Nat → FieldType := fun k => match k with
  | 0 => .array .int
  | 1 => .array .int
  | 2 => .array .int
  | _ => .int
theorem nmX8 : ∀ a, a < 4 → ∀ b, b < 4 → a ≠ b → (TX8 a).2.1 ≠ (TX8 b).2.1 := by decide +kernel
theorem tyX8_ok : ∀ k, k < 4 → parseFieldDescriptor (TX8 k).2.2.1 = some (tyX8 k) := by decide +kernel
def RX9 : String := "NinthDayHooded$Walk"
def TX9 : u_T := fun k => match k with
  | 0 => ("NinthDayHooded$Walk", "guides", "LNinthDayHooded$Guides;", true)
  | 1 => ("NinthDayHooded$Walk", "leadings", "[I", true)
  | 2 => ("NinthDayHooded$Walk", "led", "I", false)
  | 3 => ("NinthDayHooded$Walk", "price", "I", false)
  | _ => ("NinthDayHooded$Walk", "learnt", "I", false)
def tyX9 : Nat → FieldType := fun k => match k with
  | 0 => .object "NinthDayHooded$Guides"
  | 1 => .array .int
  | 2 => .int
  | 3 => .int
  | _ => .int
theorem nmX9 : ∀ a, a < 5 → ∀ b, b < 5 → a ≠ b → (TX9 a).2.1 ≠ (TX9 b).2.1 := by decide +kernel
theorem tyX9_ok : ∀ k, k < 5 → parseFieldDescriptor (TX9 k).2.2.1 = some (tyX9 k) := by decide +kernel
def RX10 : String := "NinthDayHooded$Wishes"
def TX10 : u_T := fun k => match k with
  | 0 => ("NinthDayHooded$Wishes", "one", "[I", true)
  | 1 => ("NinthDayHooded$Wishes", "other", "[I", true)
  | 2 => ("NinthDayHooded$Wishes", "same", "[I", true)
  | 3 => ("NinthDayHooded$Wishes", "colour", "[I", true)
  | 4 => ("NinthDayHooded$Wishes", "kin", "[I", true)
  | _ => ("NinthDayHooded$Wishes", "n", "I", false)
def tyX10 : Nat → FieldType := fun k => match k with
  | 0 => .array .int
  | 1 => .array .int
  | 2 => .array .int
  | 3 => .array .int
  | 4 => .array .int
  | _ => .int
theorem nmX10 : ∀ a, a < 6 → ∀ b, b < 6 → a ≠ b → (TX10 a).2.1 ≠ (TX10 b).2.1 := by decide +kernel
theorem tyX10_ok : ∀ k, k < 6 → parseFieldDescriptor (TX10 k).2.2.1 = some (tyX10 k) := by decide +kernel
def RX11 : String := "NinthDayHooded"
def TX11 : u_T := fun k => match k with
  | 0 => ("NinthDayHooded", "text", "LNinthDayHooded$Text;", true)
  | 1 => ("NinthDayHooded", "row", "LNinthDayHooded$Row;", true)
  | 2 => ("NinthDayHooded", "people", "LNinthDayHooded$People;", true)
  | 3 => ("NinthDayHooded", "state", "LNinthDayHooded$State;", true)
  | 4 => ("NinthDayHooded", "sketch", "LNinthDayHooded$State;", true)
  | 5 => ("NinthDayHooded", "past", "LNinthDayHooded$Past;", true)
  | 6 => ("NinthDayHooded", "rule", "LNinthDayHooded$Rule;", true)
  | 7 => ("NinthDayHooded", "walk", "LNinthDayHooded$Walk;", true)
  | 8 => ("NinthDayHooded", "tasks", "LNinthDayHooded$Tasks;", true)
  | 9 => ("NinthDayHooded", "wishes", "LNinthDayHooded$Wishes;", true)
  | _ => ("NinthDayHooded", "thefts", "LNinthDayHooded$Thefts;", true)
def tyX11 : Nat → FieldType := fun k => match k with
  | 0 => .object "NinthDayHooded$Text"
  | 1 => .object "NinthDayHooded$Row"
  | 2 => .object "NinthDayHooded$People"
  | 3 => .object "NinthDayHooded$State"
  | 4 => .object "NinthDayHooded$State"
  | 5 => .object "NinthDayHooded$Past"
  | 6 => .object "NinthDayHooded$Rule"
  | 7 => .object "NinthDayHooded$Walk"
  | 8 => .object "NinthDayHooded$Tasks"
  | 9 => .object "NinthDayHooded$Wishes"
  | _ => .object "NinthDayHooded$Thefts"
theorem nmX11 : ∀ a, a < 11 → ∀ b, b < 11 → a ≠ b → (TX11 a).2.1 ≠ (TX11 b).2.1 := by decide +kernel
theorem tyX11_ok : ∀ k, k < 11 → parseFieldDescriptor (TX11 k).2.2.1 = some (tyX11 k) := by decide +kernel
def RX12 : String := "NinthDayHoodedModel"
def TX12 : u_T := fun k => match k with
  | 0 => ("NinthDayHoodedModel", "now", "[I", true)
  | 1 => ("NinthDayHoodedModel", "people", "I", false)
  | 2 => ("NinthDayHoodedModel", "trust", "[I", true)
  | 3 => ("NinthDayHoodedModel", "likes", "[I", true)
  | 4 => ("NinthDayHoodedModel", "text", "[B", true)
  | 5 => ("NinthDayHoodedModel", "typed", "I", false)
  | 6 => ("NinthDayHoodedModel", "row", "[I", true)
  | 7 => ("NinthDayHoodedModel", "rowMany", "I", false)
  | 8 => ("NinthDayHoodedModel", "thrown", "I", false)
  | 9 => ("NinthDayHoodedModel", "read", "[B", false)
  | 10 => ("NinthDayHoodedModel", "length", "I", false)
  | 11 => ("NinthDayHoodedModel", "top", "I", false)
  | 12 => ("NinthDayHoodedModel", "at", "I", false)
  | 13 => ("NinthDayHoodedModel", "wrong", "I", false)
  | 14 => ("NinthDayHoodedModel", "comes", "[I", true)
  | 15 => ("NinthDayHoodedModel", "rule", "[B", true)
  | 16 => ("NinthDayHoodedModel", "ruleSize", "I", false)
  | 17 => ("NinthDayHoodedModel", "askedState", "[I", false)
  | 18 => ("NinthDayHoodedModel", "askedOne", "I", false)
  | 19 => ("NinthDayHoodedModel", "askedGuide", "I", false)
  | 20 => ("NinthDayHoodedModel", "askedDay", "I", false)
  | 21 => ("NinthDayHoodedModel", "guide", "[I", true)
  | 22 => ("NinthDayHoodedModel", "bestGuide", "[I", true)
  | 23 => ("NinthDayHoodedModel", "leadsNow", "[I", true)
  | 24 => ("NinthDayHoodedModel", "costs", "[I", true)
  | 25 => ("NinthDayHoodedModel", "hooded", "I", false)
  | 26 => ("NinthDayHoodedModel", "leastAlone", "I", false)
  | 27 => ("NinthDayHoodedModel", "leastCost", "I", false)
  | 28 => ("NinthDayHoodedModel", "ledNow", "I", false)
  | 29 => ("NinthDayHoodedModel", "learnt", "I", false)
  | 30 => ("NinthDayHoodedModel", "undos", "[I", true)
  | 31 => ("NinthDayHoodedModel", "undoMany", "I", false)
  | 32 => ("NinthDayHoodedModel", "aside", "[I", true)
  | 33 => ("NinthDayHoodedModel", "acts", "[I", true)
  | 34 => ("NinthDayHoodedModel", "seasonLed", "I", false)
  | 35 => ("NinthDayHoodedModel", "counts", "[I", true)
  | 36 => ("NinthDayHoodedModel", "then", "[I", true)
  | 37 => ("NinthDayHoodedModel", "tasks", "[I", true)
  | 38 => ("NinthDayHoodedModel", "taskMany", "I", false)
  | 39 => ("NinthDayHoodedModel", "hoods", "[I", true)
  | 40 => ("NinthDayHoodedModel", "skills", "[I", true)
  | 41 => ("NinthDayHoodedModel", "askedMany", "I", false)
  | 42 => ("NinthDayHoodedModel", "placed", "[I", true)
  | 43 => ("NinthDayHoodedModel", "tried", "I", false)
  | 44 => ("NinthDayHoodedModel", "changed", "[I", true)
  | 45 => ("NinthDayHoodedModel", "wishes", "[I", true)
  | 46 => ("NinthDayHoodedModel", "wishMany", "I", false)
  | 47 => ("NinthDayHoodedModel", "colour", "[I", true)
  | 48 => ("NinthDayHoodedModel", "bestColour", "[I", true)
  | 49 => ("NinthDayHoodedModel", "fewestColours", "I", false)
  | 50 => ("NinthDayHoodedModel", "ring", "[I", true)
  | 51 => ("NinthDayHoodedModel", "ringMany", "I", false)
  | 52 => ("NinthDayHoodedModel", "given", "[I", true)
  | 53 => ("NinthDayHoodedModel", "thefts", "[I", true)
  | 54 => ("NinthDayHoodedModel", "theftMany", "I", false)
  | 55 => ("NinthDayHoodedModel", "seeing", "I", false)
  | 56 => ("NinthDayHoodedModel", "blind", "I", false)
  | 57 => ("NinthDayHoodedModel", "came", "I", false)
  | 58 => ("NinthDayHoodedModel", "kept", "[I", true)
  | 59 => ("NinthDayHoodedModel", "isKept", "[Z", true)
  | _ => ("NinthDayHoodedModel", "keptCame", "[I", true)
def tyX12 : Nat → FieldType := fun k => match k with
  | 0 => .array .int
  | 1 => .int
  | 2 => .array .int
  | 3 => .array .int
  | 4 => .array .byte
  | 5 => .int
  | 6 => .array .int
  | 7 => .int
  | 8 => .int
  | 9 => .array .byte
  | 10 => .int
  | 11 => .int
  | 12 => .int
  | 13 => .int
  | 14 => .array .int
  | 15 => .array .byte
  | 16 => .int
  | 17 => .array .int
  | 18 => .int
  | 19 => .int
  | 20 => .int
  | 21 => .array .int
  | 22 => .array .int
  | 23 => .array .int
  | 24 => .array .int
  | 25 => .int
  | 26 => .int
  | 27 => .int
  | 28 => .int
  | 29 => .int
  | 30 => .array .int
  | 31 => .int
  | 32 => .array .int
  | 33 => .array .int
  | 34 => .int
  | 35 => .array .int
  | 36 => .array .int
  | 37 => .array .int
  | 38 => .int
  | 39 => .array .int
  | 40 => .array .int
  | 41 => .int
  | 42 => .array .int
  | 43 => .int
  | 44 => .array .int
  | 45 => .array .int
  | 46 => .int
  | 47 => .array .int
  | 48 => .array .int
  | 49 => .int
  | 50 => .array .int
  | 51 => .int
  | 52 => .array .int
  | 53 => .array .int
  | 54 => .int
  | 55 => .int
  | 56 => .int
  | 57 => .int
  | 58 => .array .int
  | 59 => .array .boolean
  | _ => .array .int
theorem nmX12 : ∀ a, a < 61 → ∀ b, b < 61 → a ≠ b → (TX12 a).2.1 ≠ (TX12 b).2.1 := by decide +kernel
theorem tyX12_ok : ∀ k, k < 61 → parseFieldDescriptor (TX12 k).2.2.1 = some (tyX12 k) := by decide +kernel
-- own words
abbrev xe_cl : List vw_C := [(RX0, TX0, 9), (RX1, TX1, 5), (RX2, TX2, 5), (RX3, TX3, 2), (RX4, TX4, 12), (RX5, TX5, 6), (RX6, TX6, 11), (RX7, TX7, 2), (RX8, TX8, 4), (RX9, TX9, 5), (RX10, TX10, 6), (RX11, TX11, 11), (RX12, TX12, 61)]
def xe_ty (ci : Nat) : Nat → FieldType := match ci with
  | 0 => tyX0
  | 1 => tyX1
  | 2 => tyX2
  | 3 => tyX3
  | 4 => tyX4
  | 5 => tyX5
  | 6 => tyX6
  | 7 => tyX7
  | 8 => tyX8
  | 9 => tyX9
  | 10 => tyX10
  | 11 => tyX11
  | _ => tyX12
/-- the blank object of a class -/
def xe_dflt (ci : Nat) : List Value := match ci with
  | 0 => [.null, .null, .null, .null, .null, .null, .int 0, .int 0, .int 0]
  | 1 => [.null, .null, .null, .int 0, .int 0]
  | 2 => [.null, .null, .null, .null, .int 0]
  | 3 => [.null, .int 0]
  | 4 => [.null, .null, .null, .null, .null, .null, .int 0, .int 0, .int 0, .int 0, .int 0, .int 0]
  | 5 => [.null, .null, .null, .null, .null, .int 0]
  | 6 => [.null, .null, .null, .null, .null, .null, .null, .null, .int 0, .int 0, .int 0]
  | 7 => [.null, .int 0]
  | 8 => [.null, .null, .null, .int 0]
  | 9 => [.null, .null, .int 0, .int 0, .int 0]
  | 10 => [.null, .null, .null, .null, .null, .int 0]
  | 11 => [.null, .null, .null, .null, .null, .null, .null, .null, .null, .null, .null]
  | _ => [.null, .int 0, .null, .null, .null, .int 0, .null, .int 0, .int 0, .null, .int 0, .int 0, .int 0, .int 0, .null, .null, .int 0, .null, .int 0, .int 0, .int 0, .null, .null, .null, .null, .int 0, .int 0, .int 0, .int 0, .int 0, .null, .int 0, .null, .null, .int 0, .null, .null, .null, .int 0, .null, .null, .int 0, .null, .int 0, .null, .null, .int 0, .null, .null, .int 0, .null, .int 0, .null, .null, .int 0, .int 0, .int 0, .int 0, .null, .null, .null]
/-- how many places the law's own making fills, the script's among them -/
def xe_Z : Nat := 200
end
section
/-! THE PROGRAM LOGIC: an interpreter of resolved instructions over a memory of places, as a least fixed point. -/
abbrev xe_M : Type := Nat → va_E
abbrev xe_K : Type := Nat → List Value → List Value → Nat → Nat → Nat → xe_M → Prop
abbrev xe_Q : Type := Option Value → Nat → xe_M → Prop
abbrev xe_C : Type := Nat → List Value → Nat → xe_M → xe_Q → Prop
/-- a method: name, bytes, locals, answer, its class's number, kind (0 static, 1 instance, 2 constructor, 3 instance that may throw, 4 static with a table), arguments, cells, slots, resolved code, the places of its instructions -/
abbrev xe_I : Type := MethodName × ByteArray × Nat × Option FieldType × Nat × Nat × Nat × Nat × Nat × List Instr × List Nat
def xe_iy (f : xe_I) : MethodName := f.1
def xe_ib (f : xe_I) : ByteArray := f.2.1
def xe_iL (f : xe_I) : Nat := f.2.2.1
def xe_ir (f : xe_I) : Option FieldType := f.2.2.2.1
def xe_ic (f : xe_I) : Nat := f.2.2.2.2.1
def xe_ik (f : xe_I) : Nat := f.2.2.2.2.2.1
def xe_in (f : xe_I) : Nat := f.2.2.2.2.2.2.1
def xe_im (f : xe_I) : Nat := f.2.2.2.2.2.2.2.1
def xe_is (f : xe_I) : Nat := f.2.2.2.2.2.2.2.2.1
def xe_code (f : xe_I) : List Instr := f.2.2.2.2.2.2.2.2.2.1
def xe_pcs (f : xe_I) : List Nat := f.2.2.2.2.2.2.2.2.2.2
def xe_lg (v : Value) : Bool := match v with
  | .long _ => true
  | _ => false
/-- a value of one slot may be put at k -/
def xe_s1 (dl : List Value) (k : Nat) : Bool := decide (k < dl.length) && (k == 0 || !(xe_lg (dl.getD (k - 1) .null)))
def xe_s2 (dl : List Value) (k : Nat) : Bool := decide (k + 1 < dl.length) && (k == 0 || !(xe_lg (dl.getD (k - 1) .null)))
/-- an argument: an int or a reference -/
def xe_c1 (v : Value) : Bool := match v with
  | .int _ => true
  | .ref _ => true
  | _ => false
def xe_cat (r : List Value) : Nat := (r.map fun v => v.category).sum
def xe_b (c : ClassFile.Cond) (x y : Int32) : Prop := match c with
  | .eq => x = y
  | .ne => ¬ x = y
  | .lt => x < y
  | .ge => y ≤ x
  | .gt => y < x
  | .le => x ≤ y
/-- one resolved instruction: what must hold, and where it goes on -/
def xe_ins (T : List xe_I) (C : xe_C) (Q : xe_Q) (K : xe_K) (i : Nat) (dl st : List Value) (kc ks z : Nat) (M : xe_M) (ins : Instr) : Prop := match ins with
  | .sipush v => K (i + 1) dl (.int (Int32.ofInt v) :: st) kc ks z M
  | .lconst n => n = 0 ∧ K (i + 1) dl (.long 0 :: st) kc ks z M
  | .aconst_null => K (i + 1) dl (.null :: st) kc ks z M
  | .iload k => ∃ x, dl[k]? = some (.int x) ∧ K (i + 1) dl (.int x :: st) kc ks z M
  | .lload k => ∃ x, dl[k]? = some (.long x) ∧ K (i + 1) dl (.long x :: st) kc ks z M
  | .aload k => ∃ x, dl[k]? = some (.ref x) ∧ K (i + 1) dl (.ref x :: st) kc ks z M
  | .istore k => ∃ x r, st = .int x :: r ∧ xe_s1 dl k = true ∧ K (i + 1) (dl.set k (.int x)) r kc ks z M
  | .astore k => ∃ x r, st = .ref x :: r ∧ xe_s1 dl k = true ∧ K (i + 1) (dl.set k (.ref x)) r kc ks z M
  | .lstore k => ∃ x r, st = .long x :: r ∧ xe_s2 dl k = true ∧ K (i + 1) ((dl.set k (.long x)).set (k + 1) (.double 0)) r kc ks z M
  | .iinc k n => ∃ x, dl[k]? = some (.int x) ∧ xe_s1 dl k = true ∧ K (i + 1) (dl.set k (.int (x + Int32.ofInt n))) st kc ks z M
  | .iadd => ∃ x y r, st = .int y :: .int x :: r ∧ K (i + 1) dl (.int (x + y) :: r) kc ks z M
  | .isub => ∃ x y r, st = .int y :: .int x :: r ∧ K (i + 1) dl (.int (x - y) :: r) kc ks z M
  | .imul => ∃ x y r, st = .int y :: .int x :: r ∧ K (i + 1) dl (.int (x * y) :: r) kc ks z M
  | .iand => ∃ x y r, st = .int y :: .int x :: r ∧ K (i + 1) dl (.int (x &&& y) :: r) kc ks z M
  | .ior => ∃ x y r, st = .int y :: .int x :: r ∧ K (i + 1) dl (.int (x ||| y) :: r) kc ks z M
  | .ixor => ∃ x y r, st = .int y :: .int x :: r ∧ K (i + 1) dl (.int (x ^^^ y) :: r) kc ks z M
  | .idiv => ∃ x y r, st = .int y :: .int x :: r ∧ ¬ y = 0 ∧ K (i + 1) dl (.int (x / y) :: r) kc ks z M
  | .irem => ∃ x y r, st = .int y :: .int x :: r ∧ ¬ y = 0 ∧ K (i + 1) dl (.int (x - x / y * y) :: r) kc ks z M
  | .ishl => ∃ x y r, st = .int y :: .int x :: r ∧ K (i + 1) dl (.int (x <<< (y &&& 31)) :: r) kc ks z M
  | .ishr => ∃ x y r, st = .int y :: .int x :: r ∧ K (i + 1) dl (.int (x >>> (y &&& 31)) :: r) kc ks z M
  | .iushr => ∃ x y r, st = .int y :: .int x :: r ∧ K (i + 1) dl (.int (x.toUInt32 >>> (y.toUInt32 &&& Int32.toUInt32 31)).toInt32 :: r) kc ks z M
  | .ineg => ∃ x r, st = .int x :: r ∧ K (i + 1) dl (.int (-x) :: r) kc ks z M
  | .i2b => ∃ x r, st = .int x :: r ∧ K (i + 1) dl (.int x.toInt8.toInt32 :: r) kc ks z M
  | .i2s => ∃ x r, st = .int x :: r ∧ K (i + 1) dl (.int x.toInt16.toInt32 :: r) kc ks z M
  | .i2l => ∃ x r, st = .int x :: r ∧ K (i + 1) dl (.long x.toInt64 :: r) kc ks z M
  | .l2i => ∃ x r, st = .long x :: r ∧ K (i + 1) dl (.int x.toInt32 :: r) kc ks z M
  | .lor => ∃ x y r, st = .long y :: .long x :: r ∧ K (i + 1) dl (.long (x ||| y) :: r) kc ks z M
  | .lxor => ∃ x y r, st = .long y :: .long x :: r ∧ K (i + 1) dl (.long (x ^^^ y) :: r) kc ks z M
  | .lcmp => ∃ x y r, st = .long y :: .long x :: r ∧ K (i + 1) dl (.int (lg_cmp x y) :: r) kc ks z M
  | .lshl => ∃ x y r, st = .int y :: .long x :: r ∧ K (i + 1) dl (.long (x <<< (y.toInt64 &&& 63)) :: r) kc ks z M
  | .lushr => ∃ x y r, st = .int y :: .long x :: r ∧ K (i + 1) dl (.long (x.toUInt64 >>> (y.toInt64.toUInt64 &&& Int64.toUInt64 63)).toInt64 :: r) kc ks z M
  | .dup => ∃ v r, st = v :: r ∧ v.category = 1 ∧ K (i + 1) dl (v :: v :: r) kc ks z M
  | .pop => ∃ v r, st = v :: r ∧ v.category = 1 ∧ K (i + 1) dl r kc ks z M
  | .dup_x1 => ∃ v w r, st = v :: w :: r ∧ v.category = 1 ∧ w.category = 1 ∧ K (i + 1) dl (v :: w :: v :: r) kc ks z M
  | .dup2 => ∃ v w r, st = v :: w :: r ∧ v.category = 1 ∧ w.category = 1 ∧ K (i + 1) dl (v :: w :: v :: w :: r) kc ks z M
  | .goto t => K t.toNat dl st kc ks z M
  | .ifCond c t => ∃ x r, st = .int x :: r ∧ (xe_b c x 0 → K t.toNat dl r kc ks z M) ∧ (¬ xe_b c x 0 → K (i + 1) dl r kc ks z M)
  | .if_icmp c t => ∃ x y r, st = .int y :: .int x :: r ∧ (xe_b c x y → K t.toNat dl r kc ks z M) ∧ (¬ xe_b c x y → K (i + 1) dl r kc ks z M)
  | .ifnonnull t => (∃ a r, st = .ref a :: r ∧ K t.toNat dl r kc ks z M) ∨ ∃ r, st = .null :: r ∧ K (i + 1) dl r kc ks z M
  | .tableswitch d lo hi os => ∃ x r, st = .int x :: r ∧ ((x.toInt < lo ∨ hi < x.toInt) → K d.toNat dl r kc ks z M) ∧ (¬ x.toInt < lo → ¬ hi < x.toInt → ∃ t, os[(x.toInt - lo).toNat]? = some t ∧ K t.toNat dl r kc ks z M)
  | .lookupswitch d ps => ∃ x r, st = .int x :: r ∧ K (Op.lookupswitch.offset ps.toList d x.toInt).toNat dl r kc ks z M
  | .getfield n => ∃ a fs v r, st = .ref a :: r ∧ 0 < a ∧ a < z ∧ M a = .inr (n / 64, fs) ∧ fs[n % 64]? = some v ∧ K (i + 1) dl (v :: r) kc ks z M
  | .putfield n => ∃ a fs v r, st = v :: .ref a :: r ∧ 0 < a ∧ a < z ∧ M a = .inr (n / 64, fs) ∧ n % 64 < fs.length ∧ fits (xe_ty (n / 64) (n % 64)) v = true ∧ K (i + 1) dl r kc ks z (va_up M a (.inr (n / 64, fs.set (n % 64) v)))
  | .iaload => ∃ a j n f r, st = .int j :: .ref a :: r ∧ a < z ∧ M a = .inl (1, n, .inl f) ∧ vp_in j n ∧ K (i + 1) dl (.int (f j.toNatClampNeg) :: r) kc ks z M
  | .baload => ∃ a j t n f r, st = .int j :: .ref a :: r ∧ 0 < a ∧ a < z ∧ (t = 0 ∨ t = 3) ∧ M a = .inl (t, n, .inl f) ∧ vp_in j n ∧ K (i + 1) dl (.int (f j.toNatClampNeg) :: r) kc ks z M
  | .laload => ∃ a j n f r, st = .int j :: .ref a :: r ∧ 0 < a ∧ a < z ∧ M a = .inl (2, n, .inr (.inl f)) ∧ vp_in j n ∧ K (i + 1) dl (.long (f j.toNatClampNeg) :: r) kc ks z M
  | .aaload => ∃ a j n f r, st = .int j :: .ref a :: r ∧ 0 < a ∧ a < z ∧ M a = .inl (4, n, .inr (.inr (.inr (.inr f)))) ∧ vp_in j n ∧ K (i + 1) dl (va_rf (f j.toNatClampNeg) :: r) kc ks z M
  | .iastore => ∃ a j x n f r, st = .int x :: .int j :: .ref a :: r ∧ 0 < a ∧ a < z ∧ M a = .inl (1, n, .inl f) ∧ vp_in j n ∧ K (i + 1) dl r kc ks z (va_up M a (.inl (1, n, .inl (upd f j.toNatClampNeg x))))
  | .bastore => ∃ a j x t n f r, st = .int x :: .int j :: .ref a :: r ∧ 0 < a ∧ a < z ∧ ((t = 0 ∧ x.toInt8.toInt32 = x) ∨ (t = 3 ∧ (x = 0 ∨ x = 1))) ∧ M a = .inl (t, n, .inl f) ∧ vp_in j n ∧ K (i + 1) dl r kc ks z (va_up M a (.inl (t, n, .inl (upd f j.toNatClampNeg x))))
  | .lastore => ∃ a j x n f r, st = .long x :: .int j :: .ref a :: r ∧ 0 < a ∧ a < z ∧ M a = .inl (2, n, .inr (.inl f)) ∧ vp_in j n ∧ K (i + 1) dl r kc ks z (va_up M a (.inl (2, n, .inr (.inl (vp_updL f j.toNatClampNeg x)))))
  | .aastore => ∃ a j q n f fs r, st = .ref q :: .int j :: .ref a :: r ∧ 0 < a ∧ a < z ∧ 0 < q ∧ q < z ∧ M q = .inr (5, fs) ∧ M a = .inl (4, n, .inr (.inr (.inr (.inr f)))) ∧ vp_in j n ∧ K (i + 1) dl r kc ks z (va_up M a (.inl (4, n, .inr (.inr (.inr (.inr (va_up f j.toNatClampNeg (some q))))))))
  | .arraylength => ∃ a t n x r, st = .ref a :: r ∧ a < z ∧ t < 5 ∧ M a = .inl (t, n, x) ∧ (a = 0 → t = 1) ∧ K (i + 1) dl (.int (Int32.ofNat n) :: r) kc ks z M
  | .monitorenter => ∃ a0 a sp dp n n0 n1 f g r, st = .int n :: .int dp :: .ref a :: .int sp :: .ref a0 :: r ∧ 0 < a0 ∧ a0 < z ∧ 0 < a ∧ a < z ∧ xe_cat r ≤ 8 ∧ M a0 = .inl (1, n0, .inl f) ∧ M a = .inl (1, n1, .inl g) ∧ ¬ sp < 0 ∧ ¬ dp < 0 ∧ ¬ n < 0 ∧ sp.toNatClampNeg + n.toNatClampNeg ≤ n0 ∧ dp.toNatClampNeg + n.toNatClampNeg ≤ n1 ∧ xe_Z ≤ z ∧ K (i + 1) dl r kc ks z (va_up M a (.inl (1, n1, .inl (va_cpy f g sp.toNatClampNeg dp.toNatClampNeg n.toNatClampNeg))))
  | .monitorexit => ∃ a0 a sp dp n n0 n1 f g r, st = .int n :: .int dp :: .ref a :: .int sp :: .ref a0 :: r ∧ 0 < a0 ∧ a0 < z ∧ 0 < a ∧ a < z ∧ xe_cat r ≤ 8 ∧ M a0 = .inl (2, n0, .inr (.inl f)) ∧ M a = .inl (2, n1, .inr (.inl g)) ∧ ¬ sp < 0 ∧ ¬ dp < 0 ∧ ¬ n < 0 ∧ sp.toNatClampNeg + n.toNatClampNeg ≤ n0 ∧ dp.toNatClampNeg + n.toNatClampNeg ≤ n1 ∧ xe_Z ≤ z ∧ K (i + 1) dl r kc ks z (va_up M a (.inl (2, n1, .inr (.inl (va_cpy f g sp.toNatClampNeg dp.toNatClampNeg n.toNatClampNeg)))))
  | .nop => ∃ a r, st = .ref a :: r ∧ xe_cat r ≤ 8 ∧ K (i + 1) dl r kc ks z M
  | .invokevirtual g => ∃ inf As a fs r, T[g]? = some inf ∧ xe_ik inf = 1 ∧ st = As.reverse ++ .ref a :: r ∧ As.length = xe_in inf ∧ As.all xe_c1 = true ∧ 0 < a ∧ a < z ∧ M a = .inr (xe_ic inf, fs) ∧ xe_cat r ≤ 8 ∧ xe_im inf ≤ kc ∧ xe_is inf ≤ ks ∧ C g (.ref a :: As) z M (fun v z' M' => K (i + 1) dl (v.toList ++ r) (kc - xe_im inf) (ks - xe_is inf) z' M')
  | .invokespecial g => ∃ inf As a fs r, T[g]? = some inf ∧ xe_ik inf = 2 ∧ st = As.reverse ++ .ref a :: r ∧ As.length = xe_in inf ∧ As.all xe_c1 = true ∧ 0 < a ∧ a < z ∧ M a = .inr (xe_ic inf, fs) ∧ xe_cat r ≤ 8 ∧ xe_im inf ≤ kc ∧ xe_is inf ≤ ks ∧ C g (.ref a :: As) z M (fun v z' M' => K (i + 1) dl (v.toList ++ r) (kc - xe_im inf) (ks - xe_is inf) z' M')
  | .invokestatic g => ∃ inf As r, T[g]? = some inf ∧ (xe_ik inf = 0 ∨ xe_ik inf = 4) ∧ st = As.reverse ++ r ∧ As.length = xe_in inf ∧ As.all xe_c1 = true ∧ xe_cat r ≤ 8 ∧ xe_im inf ≤ kc ∧ xe_is inf ≤ ks ∧ C g As z M (fun v z' M' => K (i + 1) dl (v.toList ++ r) (kc - xe_im inf) (ks - xe_is inf) z' M')
  | .new c => ∃ r, xe_cl[c]? = some r ∧ z < xe_Z ∧ 1 ≤ kc ∧ r.2.2 ≤ ks ∧ K (i + 1) dl (.ref z :: st) (kc - 1) (ks - r.2.2) (z + 1) (va_up M z (.inr (c, xe_dflt c)))
  | .newarray t => ∃ n r, st = .int n :: r ∧ ¬ n < 0 ∧ n.toNatClampNeg ≤ 10000 ∧ z < xe_Z ∧ 1 ≤ kc ∧ n.toNatClampNeg ≤ ks ∧ K (i + 1) dl (.ref z :: r) (kc - 1) (ks - n.toNatClampNeg) (z + 1) (va_up M z (match t with | .byte => .inl (0, n.toNatClampNeg, .inl (fun _ => 0)) | .boolean => .inl (3, n.toNatClampNeg, .inl (fun _ => 0)) | .long => .inl (2, n.toNatClampNeg, .inr (.inl (fun _ => 0))) | _ => .inl (1, n.toNatClampNeg, .inl (fun _ => 0))))
  | .anewarray _ => ∃ n r, st = .int n :: r ∧ ¬ n < 0 ∧ n.toNatClampNeg ≤ 10000 ∧ z < xe_Z ∧ 1 ≤ kc ∧ n.toNatClampNeg ≤ ks ∧ K (i + 1) dl (.ref z :: r) (kc - 1) (ks - n.toNatClampNeg) (z + 1) (va_up M z (.inl (4, n.toNatClampNeg, .inr (.inr (.inr (.inr (fun _ => none)))))))
  | .invokedynamic g => ∃ inf As a fs r, T[g]? = some inf ∧ xe_ik inf = 3 ∧ st = As.reverse ++ .ref a :: r ∧ As.length = xe_in inf ∧ As.all xe_c1 = true ∧ 0 < a ∧ a < z ∧ M a = .inr (xe_ic inf, fs) ∧ xe_cat r ≤ 8 ∧ xe_im inf ≤ kc ∧ xe_is inf ≤ ks ∧ C g (.ref a :: As) z M (fun v z' M' => (v = some (.double 0) → K (i + 5) dl [] (kc - xe_im inf) (ks - xe_is inf) z' M') ∧ (v ≠ some (.double 0) → K (i + 1) dl (v.toList ++ r) (kc - xe_im inf) (ks - xe_is inf) z' M'))
  | .athrow => xe_cat st ≤ 8 ∧ 1 ≤ kc ∧ 6 ≤ ks ∧ Q (some (.double 0)) z M
  | .ireturn => ∃ x, st = [.int x] ∧ Q (some (.int x)) z M
  | .freturn => ∃ x, st = [.int x] ∧ (x = 0 ∨ x = 1) ∧ Q (some (.int x)) z M
  | .return_ => st = [] ∧ Q none z M
  | _ => False
def xe_step (T : List xe_I) (C : xe_C) (code : List Instr) (Q : xe_Q) (K : xe_K) : xe_K := fun i dl st kc ks z M => ∃ ins, code[i]? = some ins ∧ xe_ins T C Q K i dl st kc ks z M ins
/-- from here the body comes to an end with Q -/
def xe_Ev (T : List xe_I) (C : xe_C) (code : List Instr) (Q : xe_Q) : xe_K := fun i dl st kc ks z M => ∀ X : xe_K, (∀ i dl st kc ks z M, xe_step T C code Q X i dl st kc ks z M → X i dl st kc ks z M) → X i dl st kc ks z M
def xe_entry (n : Nat) (args : List Value) : List Value := args ++ List.replicate (n - args.length) (.double 0)
/-- a call, at most d deep -/
def xe_Call (T : List xe_I) : Nat → xe_C
  | 0 => fun _ _ _ _ _ => False
  | d + 1 => fun g args z M Q => ∃ inf, T[g]? = some inf ∧ xe_Ev T (xe_Call T d) (xe_code inf) Q 0 (xe_entry (xe_iL inf) args) [] (xe_im inf) (xe_is inf) z M
/-- the places in the heap -/
def xe_ad (b base k : Nat) : Nat := match k with
  | 0 => b
  | j + 1 => base + j
def xe_v (b base : Nat) (v : Value) : Value := match v with
  | .ref k => .ref (xe_ad b base k)
  | w => w
def xe_x (b base : Nat) (x : (Nat → Int32) ⊕ (Nat → Int64) ⊕ (Nat → UInt32) ⊕ (Nat → UInt64) ⊕ (Nat → Option Nat)) : (Nat → Int32) ⊕ (Nat → Int64) ⊕ (Nat → UInt32) ⊕ (Nat → UInt64) ⊕ (Nat → Option Nat) := match x with
  | .inr (.inr (.inr (.inr f))) => .inr (.inr (.inr (.inr (fun i => (f i).map (xe_ad b base)))))
  | y => y
def xe_c (ty : Nat → ClassId) (b base : Nat) (e : va_E) : va_E := match e with
  | .inl (t, n, x) => .inl (ty t, n, xe_x b base x)
  | .inr (ci, fs) => .inr (ci, fs.map (xe_v b base))
def xe_W (ty : Nat → ClassId) (b base z : Nat) (M : xe_M) : va_W := (List.range (z - 1)).map (fun k => (base + k, xe_c ty b base (M (k + 1))))
theorem xe_W_get {ty : Nat → ClassId} {b base z : Nat} {M : xe_M} {k : Nat} (h : k + 1 < z) : (xe_W ty b base z M)[k]? = some (base + k, xe_c ty b base (M (k + 1))) := by
  unfold xe_W
  rw [List.getElem?_map, List.getElem?_range (by omega)]
  rfl
theorem xe_W_len {ty : Nat → ClassId} {b base z : Nat} {M : xe_M} : (xe_W ty b base z M).length = z - 1 := by simp [xe_W]
theorem xe_W_set {ty : Nat → ClassId} {b base z : Nat} {M : xe_M} {k : Nat} (e : va_E) : (xe_W ty b base z M).set k (base + k, xe_c ty b base e) = xe_W ty b base z (va_up M (k + 1) e) := by
  apply List.ext_getElem?
  intro j
  by_cases hj : j + 1 < z
  · rw [xe_W_get hj]
    by_cases hk : j = k
    · subst hk
      rw [List.getElem?_set_self (by rw [xe_W_len]; omega)]
      simp [va_up]
    · rw [List.getElem?_set_ne (Ne.symm hk), xe_W_get hj, va_up_ne _ _ (by omega)]
  · rw [List.getElem?_eq_none (by rw [List.length_set, xe_W_len]; omega), List.getElem?_eq_none (by rw [xe_W_len]; omega)]
theorem xe_W_push {ty : Nat → ClassId} {b base z : Nat} {M : xe_M} (hz : 1 ≤ z) (e : va_E) : xe_W ty b base z M ++ [(base + (z - 1), xe_c ty b base e)] = xe_W ty b base (z + 1) (va_up M z e) := by
  apply List.ext_getElem?
  intro j
  by_cases hj : j + 1 < z
  · rw [List.getElem?_append_left (by rw [xe_W_len]; omega), xe_W_get hj, xe_W_get (by omega), va_up_ne _ _ (by omega)]
  · by_cases hj2 : j + 1 = z
    · subst hj2
      rw [List.getElem?_append_right (by rw [xe_W_len]; omega), xe_W_get (by omega), xe_W_len]
      simp [va_up]
    · rw [List.getElem?_eq_none (by rw [List.length_append, xe_W_len]; simp; omega), List.getElem?_eq_none (by rw [xe_W_len]; omega)]
theorem xe_W_D {ty : Nat → ClassId} {b base z : Nat} {M : xe_M} : va_D (fun q => base ≤ q) (xe_W ty b base z M) := by
  have key : ∀ (k : Nat) (q : Nat × va_E), (xe_W ty b base z M)[k]? = some q → q.1 = base + k := by
    intro k q hq
    have hl := (List.getElem?_eq_some_iff.mp hq).1
    rw [xe_W_len] at hl
    rw [xe_W_get (by omega)] at hq
    cases hq
    rfl
  refine ⟨fun i j x y hx hy hxy => ?_, fun k q hq => ?_⟩
  · have h1 := key i x hx
    have h2 := key j y hy
    omega
  · show base ≤ q.1
    rw [key k q hq]
    omega
/-- rules of the least fixed point -/
theorem xe_mono {T : List xe_I} {C : xe_C} (hC : ∀ g a z M (P P' : xe_Q), (∀ v z M, P v z M → P' v z M) → C g a z M P → C g a z M P') {Q : xe_Q} {K K' : xe_K} (hK : ∀ i dl st kc ks z M, K i dl st kc ks z M → K' i dl st kc ks z M) {i : Nat} {dl st : List Value} {kc ks z : Nat} {M : xe_M} {ins : Instr} (h : xe_ins T C Q K i dl st kc ks z M ins) : xe_ins T C Q K' i dl st kc ks z M ins := by
  unfold xe_ins at h ⊢
  split at h
  all_goals first
    | exact hK _ _ _ _ _ _ _ h
    | exact h.elim
    | exact h
    | exact ⟨h.1, hK _ _ _ _ _ _ _ h.2⟩
    | (obtain ⟨x, h1, h⟩ := h; exact ⟨x, h1, hK _ _ _ _ _ _ _ h⟩)
    | (obtain ⟨x, r, h1, h⟩ := h; exact ⟨x, r, h1, hK _ _ _ _ _ _ _ h⟩)
    | (obtain ⟨x, r, h1, h2, h⟩ := h; exact ⟨x, r, h1, h2, hK _ _ _ _ _ _ _ h⟩)
    | (obtain ⟨x, h1, h2, h⟩ := h; exact ⟨x, h1, h2, hK _ _ _ _ _ _ _ h⟩)
    | (obtain ⟨x, y, r, h1, h⟩ := h; exact ⟨x, y, r, h1, hK _ _ _ _ _ _ _ h⟩)
    | (obtain ⟨x, y, r, h1, h2, h⟩ := h; exact ⟨x, y, r, h1, h2, hK _ _ _ _ _ _ _ h⟩)
    | (obtain ⟨x, y, r, h1, h2, h3, h⟩ := h; exact ⟨x, y, r, h1, h2, h3, hK _ _ _ _ _ _ _ h⟩)
    | (obtain ⟨x, r, h1, h2, h⟩ := h; exact ⟨x, r, h1, fun q => hK _ _ _ _ _ _ _ (h2 q), fun q => hK _ _ _ _ _ _ _ (h q)⟩)
    | (obtain ⟨x, y, r, h1, h2, h⟩ := h; exact ⟨x, y, r, h1, fun q => hK _ _ _ _ _ _ _ (h2 q), fun q => hK _ _ _ _ _ _ _ (h q)⟩)
    | (rcases h with ⟨a, r, h1, h⟩ | ⟨r, h1, h⟩
       · exact Or.inl ⟨a, r, h1, hK _ _ _ _ _ _ _ h⟩
       · exact Or.inr ⟨r, h1, hK _ _ _ _ _ _ _ h⟩)
    | (obtain ⟨x, r, h1, h2, h⟩ := h; exact ⟨x, r, h1, fun q => hK _ _ _ _ _ _ _ (h2 q), fun q q' => (h q q').elim fun t ht => ⟨t, ht.1, hK _ _ _ _ _ _ _ ht.2⟩⟩)
    | (obtain ⟨a1, a2, a3, a4, h1, h2, h3, h4, h5, h⟩ := h; exact ⟨a1, a2, a3, a4, h1, h2, h3, h4, h5, hK _ _ _ _ _ _ _ h⟩)
    | (obtain ⟨a1, a2, a3, a4, h1, h2, h3, h4, h5, h6, h⟩ := h; exact ⟨a1, a2, a3, a4, h1, h2, h3, h4, h5, h6, hK _ _ _ _ _ _ _ h⟩)
    | (obtain ⟨a1, a2, a3, a4, a5, h1, h2, h3, h4, h⟩ := h; exact ⟨a1, a2, a3, a4, a5, h1, h2, h3, h4, hK _ _ _ _ _ _ _ h⟩)
    | (obtain ⟨a1, a2, a3, a4, a5, h1, h2, h3, h4, h5, h⟩ := h; exact ⟨a1, a2, a3, a4, a5, h1, h2, h3, h4, h5, hK _ _ _ _ _ _ _ h⟩)
    | (obtain ⟨a1, a2, a3, a4, a5, a6, h1, h2, h3, h4, h5, h⟩ := h; exact ⟨a1, a2, a3, a4, a5, a6, h1, h2, h3, h4, h5, hK _ _ _ _ _ _ _ h⟩)
    | (obtain ⟨a1, a2, a3, a4, a5, a6, h1, h2, h3, h4, h5, h6, h⟩ := h; exact ⟨a1, a2, a3, a4, a5, a6, h1, h2, h3, h4, h5, h6, hK _ _ _ _ _ _ _ h⟩)
    | (obtain ⟨a1, a2, a3, a4, a5, a6, a7, h1, h2, h3, h4, h5, h6, h⟩ := h; exact ⟨a1, a2, a3, a4, a5, a6, a7, h1, h2, h3, h4, h5, h6, hK _ _ _ _ _ _ _ h⟩)
    | (obtain ⟨a1, a2, a3, a4, a5, a6, a7, h1, h2, h3, h4, h5, h6, h7, h8, h⟩ := h; exact ⟨a1, a2, a3, a4, a5, a6, a7, h1, h2, h3, h4, h5, h6, h7, h8, hK _ _ _ _ _ _ _ h⟩)
    | (obtain ⟨a1, a2, a3, a4, a5, a6, a7, a8, a9, a10, h1, h2, h3, h4, h5, h6, h7, h8, h9, h10, h11, h12, h13, h14, h⟩ := h; exact ⟨a1, a2, a3, a4, a5, a6, a7, a8, a9, a10, h1, h2, h3, h4, h5, h6, h7, h8, h9, h10, h11, h12, h13, h14, hK _ _ _ _ _ _ _ h⟩)
    | (obtain ⟨a1, a2, a3, a4, a5, h1, h2, h3, h4, h5, h6, h7, h8, h9, h10, h11, h⟩ := h; exact ⟨a1, a2, a3, a4, a5, h1, h2, h3, h4, h5, h6, h7, h8, h9, h10, h11, hC _ _ _ _ _ _ (fun v z M q => hK _ _ _ _ _ _ _ q) h⟩)
    | (obtain ⟨a1, a2, a3, a4, a5, h1, h2, h3, h4, h5, h6, h7, h8, h9, h10, h11, h⟩ := h; exact ⟨a1, a2, a3, a4, a5, h1, h2, h3, h4, h5, h6, h7, h8, h9, h10, h11, hC _ _ _ _ _ _ (fun v z M q => ⟨fun w => hK _ _ _ _ _ _ _ (q.1 w), fun w => hK _ _ _ _ _ _ _ (q.2 w)⟩) h⟩)
    | (obtain ⟨a1, a2, a3, h1, h2, h3, h4, h5, h6, h7, h8, h⟩ := h; exact ⟨a1, a2, a3, h1, h2, h3, h4, h5, h6, h7, h8, hC _ _ _ _ _ _ (fun v z M q => hK _ _ _ _ _ _ _ q) h⟩)
    | (obtain ⟨a1, h1, h2, h3, h4, h⟩ := h; exact ⟨a1, h1, h2, h3, h4, hK _ _ _ _ _ _ _ h⟩)
    | (obtain ⟨a1, a2, h1, h2, h3, h4, h5, h6, h⟩ := h; exact ⟨a1, a2, h1, h2, h3, h4, h5, h6, hK _ _ _ _ _ _ _ h⟩)
theorem xe_Qmono {T : List xe_I} {C : xe_C} {Q Q' : xe_Q} (hQ : ∀ v z M, Q v z M → Q' v z M) {K : xe_K} {i : Nat} {dl st : List Value} {kc ks z : Nat} {M : xe_M} {ins : Instr} (h : xe_ins T C Q K i dl st kc ks z M ins) : xe_ins T C Q' K i dl st kc ks z M ins := by
  unfold xe_ins at h ⊢
  split at h
  all_goals first
    | exact h
    | (obtain ⟨x, h1, h⟩ := h; exact ⟨x, h1, hQ _ _ _ h⟩)
    | (obtain ⟨x, h1, h2, h⟩ := h; exact ⟨x, h1, h2, hQ _ _ _ h⟩)
    | exact ⟨h.1, hQ _ _ _ h.2⟩
    | exact ⟨h.1, h.2.1, h.2.2.1, hQ _ _ _ h.2.2.2⟩
theorem xe_Ev_Q {T : List xe_I} {C : xe_C} {code : List Instr} {Q Q' : xe_Q} (hQ : ∀ v z M, Q v z M → Q' v z M) {i : Nat} {dl st : List Value} {kc ks z : Nat} {M : xe_M} (h : xe_Ev T C code Q i dl st kc ks z M) : xe_Ev T C code Q' i dl st kc ks z M := fun X hX => h X (fun i dl st kc ks z M q => hX i dl st kc ks z M (q.elim fun ins hi => ⟨ins, hi.1, xe_Qmono hQ hi.2⟩))
theorem xe_Call_Q {T : List xe_I} : ∀ (d : Nat) (g : Nat) (a : List Value) (z : Nat) (M : xe_M) (P P' : xe_Q), (∀ v z M, P v z M → P' v z M) → xe_Call T d g a z M P → xe_Call T d g a z M P'
  | 0, _, _, _, _, _, _, _, h => h.elim
  | d + 1, g, a, z, M, P, P', hP, h => h.elim fun inf hi => ⟨inf, hi.1, xe_Ev_Q hP hi.2⟩
theorem xe_Ev_step {T : List xe_I} {d : Nat} {code : List Instr} {Q : xe_Q} {i : Nat} {dl st : List Value} {kc ks z : Nat} {M : xe_M} (h : xe_step T (xe_Call T d) code Q (xe_Ev T (xe_Call T d) code Q) i dl st kc ks z M) : xe_Ev T (xe_Call T d) code Q i dl st kc ks z M := by
  intro X hX
  obtain ⟨ins, h1, h2⟩ := h
  exact hX _ _ _ _ _ _ _ ⟨ins, h1, xe_mono (xe_Call_Q d) (fun i dl st kc ks z M q => q X hX) h2⟩
end
section
/-! SOUNDNESS of the program logic over the machine. -/
def xe_T (ty : Nat → ClassId) : List (ClassId × FieldType) := [(ty 0, .byte), (ty 1, .int), (ty 2, .long), (ty 3, .boolean), (ty 4, .object RX5)]
def xe_good : List Cond := lw_tbl.filter goodWord
def xe_isN (w : Cond) : Bool := match w with
  | .fieldLinkNest .. => true
  | .methodLinkNest .. => true
  | _ => false
def xe_nest : List Cond := tables_1.filter xe_isN
def xe_E (D : va_G) (ty : Nat → ClassId) (U : State) : Prop := va_K D xe_cl (xe_T ty) U ∧ (∀ w ∈ xe_nest, va_Nw w U) ∧ va_AO RX5 U
theorem xe_E.warm {D : va_G} {ty : Nat → ClassId} {s U : State} (hW : s.WarmedH U.vm) (h : xe_E D ty s) : xe_E D ty U := by
  refine ⟨va_K.moved hW.alike h.1, fun w hw => ?_, h.2.2.moved hW.alike⟩
  have h1 := h.2.1 w hw
  have h2 := (List.mem_filter.mp hw).2
  cases w <;> first | exact va_Nw.warmF hW h1 | exact va_Nw.warmM hW h1 | cases h2
theorem xe_E.same {D : va_G} {ty : Nat → ClassId} {s U : State} (hv : s.vm = U.vm) (h : xe_E D ty s) : xe_E D ty U := by
  have hA : s.vm.Alike U.vm := by rw [hv]; exact Vm.Alike.refl _
  refine ⟨va_K.moved hA h.1, fun w hw => ?_, h.2.2.moved hA⟩
  have h1 := h.2.1 w hw
  have h2 := (List.mem_filter.mp hw).2
  cases w <;> first | exact va_Nw.same rfl hv h1 | cases h2
def xe_A (base : Nat) : Nat → Prop := fun q => base ≤ q
def xe_H (D : va_G) (ty : Nat → ClassId) (b base L : Nat) (xs : Nat → Int32) (z : Nat) (M : xe_M) (H : Heap) : Prop := va_P D xe_cl (xe_W ty b base z M) H ∧ M 0 = .inl (1, L, .inl xs) ∧ 1 ≤ z ∧ (z < xe_Z → H.size + 1 = base + z)
def xe_Pc (D : va_G) (ty : Nat → ClassId) (b base L : Nat) (xs : Nat → Int32) (a : List Value) (z : Nat) (M : xe_M) : Array Value → State → Prop := va_Pc (a.map (xe_v b base)) (fun U => xe_E D ty U ∧ va_X b L xs U U.heap ∧ b < base ∧ base ≤ U.heap.size ∧ xe_H D ty b base L xs z M U.heap)
def xe_Qc (D : va_G) (ty : Nat → ClassId) (b base L : Nat) (xs : Nat → Int32) (Q : xe_Q) : Array Value → State → Outcome → State → Prop := fun _ st oc t => (∃ v z M, oc = .returned (v.map (xe_v b base)) ∧ Q v z M ∧ xe_H D ty b base L xs z M t.heap) ∧ va_F (xe_A base) st t
/-- the locals -/
def xe_l1 (b base k : Nat) (w : Option Value) : Option (Nat × Value) := match w with
  | some (.double _) => none
  | some v => some (k, xe_v b base v)
  | none => none
def xe_l (b base : Nat) (dl : List Value) : List (Nat × Value) := (List.range dl.length).filterMap (fun k => xe_l1 b base k dl[k]?)
theorem xe_l_mem {b base : Nat} {dl : List Value} {k : Nat} {v : Value} (h : dl[k]? = some v) (hd : ∀ x, v ≠ .double x) : (k, xe_v b base v) ∈ xe_l b base dl := by
  refine List.mem_filterMap.mpr ⟨k, List.mem_range.mpr (List.getElem?_eq_some_iff.mp h).1, ?_⟩
  rw [h]
  cases v <;> first | rfl | exact absurd rfl (hd _)
theorem xe_l_of {b base : Nat} {dl : List Value} {q : Nat × Value} (h : q ∈ xe_l b base dl) : ∃ v, dl[q.1]? = some v ∧ (∀ x, v ≠ .double x) ∧ q.2 = xe_v b base v := by
  obtain ⟨k, -, g⟩ := List.mem_filterMap.mp h
  clear h
  cases hv : dl[k]? with
  | none => rw [hv] at g; cases g
  | some v =>
    rw [hv] at g
    cases v <;> first | (cases g; done) | (cases g; exact ⟨_, hv, fun _ h => (by cases h), rfl⟩)
theorem xe_v_cat (b base : Nat) (v : Value) : (xe_v b base v).category = v.category := by cases v <;> rfl
theorem xe_cat_map (b base : Nat) (r : List Value) : ((r.map (xe_v b base)).map fun v => v.category).sum = xe_cat r := by
  unfold xe_cat
  rw [List.map_map]
  exact congrArg List.sum (List.map_congr_left fun v _ => xe_v_cat b base v)
theorem xe_lv_read {ls : Array Slot} {nL b base : Nat} {dl : List Value} (h : lv_has ls nL (xe_l b base dl)) {k : Nat} {v : Value} (hk : dl[k]? = some v) (hd : ∀ x, v ≠ .double x) : ls[k]? = some (.val (xe_v b base v)) := h.2.2 _ (xe_l_mem hk hd)
theorem xe_s1_lt {dl : List Value} {k : Nat} (h : xe_s1 dl k = true) : k < dl.length := by
  simp only [xe_s1, Bool.and_eq_true, decide_eq_true_eq] at h
  exact h.1
theorem xe_s2_lt {dl : List Value} {k : Nat} (h : xe_s2 dl k = true) : k + 1 < dl.length := by
  simp only [xe_s2, Bool.and_eq_true, decide_eq_true_eq] at h
  exact h.1
theorem xe_nolg {dl : List Value} {k j : Nat} {w : Value} (h : (k == 0 || !(xe_lg (dl.getD (k - 1) .null))) = true) (hj : j + 1 = k) (hw : dl[j]? = some w) (hd : ∀ x, w ≠ .double x) : ¬ w.category = 2 := by
  subst hj
  simp only [Nat.add_sub_cancel, List.getD_eq_getElem?_getD, hw, Option.getD_some] at h
  have h0 : ((j + 1 == 0) = false) := rfl
  rw [h0, Bool.false_or] at h
  cases w <;> first | (intro q; cases q; done) | (exact absurd rfl (hd _)) | (simp [xe_lg] at h)
theorem xe_lv_set1 {ls : Array Slot} {nL b base : Nat} {dl : List Value} {k : Nat} {v : Value} (hk : xe_s1 dl k = true) (h : lv_has ls nL ((k, xe_v b base v) :: (xe_l b base dl).filter (fun q => !(q.1 == k) && !(q.1 + 1 == k && q.2.category == 2)))) : lv_has ls nL (xe_l b base (dl.set k v)) := by
  refine ⟨h.1, h.2.1, fun q hq => ?_⟩
  obtain ⟨w, h1, h2, h3⟩ := xe_l_of hq
  have hlt := xe_s1_lt hk
  by_cases he : q.1 = k
  · rw [he, List.getElem?_set_self hlt] at h1
    cases h1
    have := h.2.2 (k, xe_v b base v) List.mem_cons_self
    rw [he, h3]
    exact this
  · rw [List.getElem?_set_ne (Ne.symm he)] at h1
    refine h.2.2 q (List.mem_cons_of_mem _ (List.mem_filter.mpr ⟨by rw [← Prod.eta q, h3]; exact xe_l_mem h1 h2, ?_⟩))
    simp only [xe_s1, Bool.and_eq_true] at hk
    simp only [Bool.and_eq_true, Bool.not_eq_true', beq_eq_false_iff_ne, Bool.and_eq_false_iff]
    refine ⟨he, ?_⟩
    by_cases hj : q.1 + 1 = k
    · right
      rw [h3]
      have := xe_nolg hk.2 hj h1 h2
      rw [xe_v_cat]
      exact this
    · left
      exact hj
theorem xe_lv_set2 {ls : Array Slot} {nL b base : Nat} {dl : List Value} {k : Nat} {v : Value} (hk : xe_s2 dl k = true) (h : lv_has ls nL ((k, xe_v b base v) :: (xe_l b base dl).filter (fun q => !(q.1 == k) && (!(q.1 == k + 1) && !(q.1 + 1 == k && q.2.category == 2))))) : lv_has ls nL (xe_l b base ((dl.set k v).set (k + 1) (.double 0))) := by
  refine ⟨h.1, h.2.1, fun q hq => ?_⟩
  obtain ⟨w, h1, h2, h3⟩ := xe_l_of hq
  have hlt := xe_s2_lt hk
  by_cases he2 : q.1 = k + 1
  · rw [he2, List.getElem?_set_self (by rw [List.length_set]; exact hlt)] at h1
    cases h1
    exact absurd rfl (h2 _)
  · rw [List.getElem?_set_ne (Ne.symm he2)] at h1
    by_cases he : q.1 = k
    · rw [he, List.getElem?_set_self (by omega)] at h1
      cases h1
      have := h.2.2 (k, xe_v b base v) List.mem_cons_self
      rw [he, h3]
      exact this
    · rw [List.getElem?_set_ne (Ne.symm he)] at h1
      refine h.2.2 q (List.mem_cons_of_mem _ (List.mem_filter.mpr ⟨by rw [← Prod.eta q, h3]; exact xe_l_mem h1 h2, ?_⟩))
      simp only [xe_s2, Bool.and_eq_true] at hk
      simp only [Bool.and_eq_true, Bool.not_eq_true', beq_eq_false_iff_ne, Bool.and_eq_false_iff]
      refine ⟨he, he2, ?_⟩
      by_cases hj : q.1 + 1 = k
      · right
        rw [h3]
        have := xe_nolg hk.2 hj h1 h2
        rw [xe_v_cat]
        exact this
      · left
        exact hj
/-- a class's tables -/
theorem xe_clok : ∀ (ci : Nat) (r : vw_C), xe_cl[ci]? = some r → (∀ k, k < r.2.2 → parseFieldDescriptor (r.2.1 k).2.2.1 = some (xe_ty ci k)) ∧ (∀ a, a < r.2.2 → ∀ b, b < r.2.2 → a ≠ b → (r.2.1 a).2.1 ≠ (r.2.1 b).2.1) ∧ ∀ j, j < r.2.2 → defaultValue (xe_ty ci j) = vp_V (xe_dflt ci) j := by
  intro ci r h
  match ci, h with
  | 0, h => cases h; exact ⟨tyX0_ok, nmX0, by decide +kernel⟩
  | 1, h => cases h; exact ⟨tyX1_ok, nmX1, by decide +kernel⟩
  | 2, h => cases h; exact ⟨tyX2_ok, nmX2, by decide +kernel⟩
  | 3, h => cases h; exact ⟨tyX3_ok, nmX3, by decide +kernel⟩
  | 4, h => cases h; exact ⟨tyX4_ok, nmX4, by decide +kernel⟩
  | 5, h => cases h; exact ⟨tyX5_ok, nmX5, by decide +kernel⟩
  | 6, h => cases h; exact ⟨tyX6_ok, nmX6, by decide +kernel⟩
  | 7, h => cases h; exact ⟨tyX7_ok, nmX7, by decide +kernel⟩
  | 8, h => cases h; exact ⟨tyX8_ok, nmX8, by decide +kernel⟩
  | 9, h => cases h; exact ⟨tyX9_ok, nmX9, by decide +kernel⟩
  | 10, h => cases h; exact ⟨tyX10_ok, nmX10, by decide +kernel⟩
  | 11, h => cases h; exact ⟨tyX11_ok, nmX11, by decide +kernel⟩
  | 12, h => cases h; exact ⟨tyX12_ok, nmX12, by decide +kernel⟩
  | n + 13, h => simp [xe_cl] at h
/-- constant pool: fields (entry, class, place), methods (entry, number), ints (entry, value), classes (entry, number), arraycopy, Object's constructor -/
abbrev xe_cp : Type := List (Nat × Nat × Nat) × List (Nat × Nat) × List (Nat × Int) × List (Nat × Nat) × List Nat × List Nat
def xe_okF (own : String) (idx ci k : Nat) : Prop := ∃ r, xe_cl[ci]? = some r ∧ k < r.2.2 ∧ (r.2.1 k).1 = r.1 ∧ (∀ w ∈ u_ws r.1 r.2.1 r.2.2, w ∈ xe_good) ∧ (Cond.fieldLink own idx r.1 (r.2.1 k).2.1 (r.2.1 k).2.2.1 ∈ xe_good ∨ ∃ host, Cond.fieldLinkNest own idx r.1 (r.2.1 k).2.1 (r.2.1 k).2.2.1 host ∈ xe_nest)
def xe_okM (own : String) (idx : Nat) (y : MethodName) : Prop := Cond.methodLink own idx y ∈ xe_good ∨ ∃ host, Cond.methodLinkNest own idx y host ∈ xe_nest
def xe_okC (own : String) (idx ci : Nat) : Prop := ∃ r, xe_cl[ci]? = some r ∧ (∀ w ∈ u_ws r.1 r.2.1 r.2.2, w ∈ xe_good) ∧ Cond.classLink own idx r.1 ∈ xe_good ∧ Cond.instantiable r.1 r.2.2 ∈ xe_good ∧ Cond.initialized r.1 ∈ xe_good
def xe_cpok (own : String) (T : List xe_I) (cp : xe_cp) : Prop := (∀ q ∈ cp.1, xe_okF own q.1 q.2.1 q.2.2) ∧ (∀ q ∈ cp.2.1, ∀ inf, T[q.2]? = some inf → xe_okM own q.1 (xe_iy inf)) ∧ (∀ q ∈ cp.2.2.1, Cond.constant own q.1 (Int32.ofInt q.2) ∈ xe_good) ∧ (∀ q ∈ cp.2.2.2.1, xe_okC own q.1 q.2) ∧ (∀ q ∈ cp.2.2.2.2.1, Cond.methodLink own q arraycopyName ∈ xe_good) ∧ (∀ q ∈ cp.2.2.2.2.2, Cond.methodLink own q objectInit ∈ xe_good)
/-- a resolved instruction against the bytes -/
def xe_D (bs : ByteArray) (pc : Nat) (r : Instr) (n : Nat) : Bool := decide (decode bs pc = .ok (r, n))
def xe_nx (bs : ByteArray) (pcs : List Nat) (i : Nat) (r : Instr) (n : Nat) : Bool := xe_D bs (pcs.getD i 0) r n && decide (pcs.getD (i + 1) 0 = pcs.getD i 0 + n)
def xe_jm (pcs : List Nat) (i : Nat) (t : Int) : Int := ((pcs.getD t.toNat 0 : Nat) : Int) - ((pcs.getD i 0 : Nat) : Int)
def xe_Dv (bs : ByteArray) (pc : Nat) (r : Instr) : Bool := match decode bs pc with
  | .ok (q, _) => decide (q = r)
  | _ => false
def xe_chk (cp : xe_cp) (bs : ByteArray) (kind : Nat) (own : String) (ret : Option FieldType) (pcs : List Nat) (i : Nat) (ins : Instr) : Bool := match ins with
  | .sipush v => xe_nx bs pcs i (.iconst v) 1 || (xe_nx bs pcs i (.bipush v) 2 && decide ((Int8.ofInt v).toInt32 = Int32.ofInt v)) || (xe_nx bs pcs i (.sipush v) 3 && decide ((Int16.ofInt v).toInt32 = Int32.ofInt v)) || cp.2.2.1.any (fun q => decide (q.2 = v) && (xe_nx bs pcs i (.ldc q.1) 2 || xe_nx bs pcs i (.ldc_w q.1) 3))
  | .lconst n => xe_nx bs pcs i (.lconst n) 1
  | .iload k => (decide (k < 4) && xe_nx bs pcs i (.iload_n (Fin.ofNat 4 k)) 1) || xe_nx bs pcs i (.iload k) 2
  | .lload k => (decide (k < 4) && xe_nx bs pcs i (.lload_n (Fin.ofNat 4 k)) 1) || xe_nx bs pcs i (.lload k) 2
  | .aload k => (decide (k < 4) && xe_nx bs pcs i (.aload_n (Fin.ofNat 4 k)) 1) || xe_nx bs pcs i (.aload k) 2
  | .istore k => (decide (k < 4) && xe_nx bs pcs i (.istore_n (Fin.ofNat 4 k)) 1) || xe_nx bs pcs i (.istore k) 2
  | .lstore k => (decide (k < 4) && xe_nx bs pcs i (.lstore_n (Fin.ofNat 4 k)) 1) || xe_nx bs pcs i (.lstore k) 2
  | .astore k => (decide (k < 4) && xe_nx bs pcs i (.astore_n (Fin.ofNat 4 k)) 1) || xe_nx bs pcs i (.astore k) 2
  | .iinc k n => xe_nx bs pcs i (.iinc k n) 3
  | .goto t => xe_D bs (pcs.getD i 0) (.goto (xe_jm pcs i t)) 3
  | .ifCond c t => xe_nx bs pcs i (.ifCond c (xe_jm pcs i t)) 3
  | .if_icmp c t => xe_nx bs pcs i (.if_icmp c (xe_jm pcs i t)) 3
  | .ifnonnull t => xe_nx bs pcs i (.ifnonnull (xe_jm pcs i t)) 3
  | .tableswitch d lo hi os => xe_Dv bs (pcs.getD i 0) (.tableswitch (xe_jm pcs i d) lo hi (os.map (xe_jm pcs i)))
  | .lookupswitch d ps => xe_Dv bs (pcs.getD i 0) (.lookupswitch (xe_jm pcs i d) (ps.map (fun q => (q.1, xe_jm pcs i q.2)))) && (ps.toList.zip (ps.toList.drop 1)).all (fun (a, next) => a.1 < next.1)
  | .getfield n => cp.1.any (fun q => decide (q.2.1 = n / 64 ∧ q.2.2 = n % 64) && xe_nx bs pcs i (.getfield q.1) 3)
  | .putfield n => cp.1.any (fun q => decide (q.2.1 = n / 64 ∧ q.2.2 = n % 64) && xe_nx bs pcs i (.putfield q.1) 3 && (match xe_cl[n / 64]? with | some r => !(r.2.1 (n % 64)).2.2.2 || (decide (kind = 2) && decide (r.1 = own)) | none => false))
  | .monitorenter => cp.2.2.2.2.1.any (fun q => xe_nx bs pcs i (.invokestatic q) 3)
  | .monitorexit => cp.2.2.2.2.1.any (fun q => xe_nx bs pcs i (.invokestatic q) 3)
  | .nop => cp.2.2.2.2.2.any (fun q => xe_nx bs pcs i (.invokespecial q) 3)
  | .invokevirtual g => cp.2.1.any (fun q => decide (q.2 = g) && xe_nx bs pcs i (.invokevirtual q.1) 3)
  | .invokespecial g => cp.2.1.any (fun q => decide (q.2 = g) && xe_nx bs pcs i (.invokespecial q.1) 3)
  | .invokestatic g => cp.2.1.any (fun q => decide (q.2 = g) && xe_nx bs pcs i (.invokestatic q.1) 3)
  | .new c => cp.2.2.2.1.any (fun q => decide (q.2 = c) && xe_nx bs pcs i (.new q.1) 3)
  | .anewarray _ => cp.2.2.2.1.any (fun q => decide (q.2 = 5) && xe_nx bs pcs i (.anewarray q.1) 3)
  | .newarray t => xe_nx bs pcs i (.newarray t) 2 && (decide (t = .byte) || decide (t = .int) || decide (t = .long) || decide (t = .boolean))
  | .athrow => decide (kind = 3)
  | .invokedynamic _ => decide (kind = 4)
  | .ireturn => xe_D bs (pcs.getD i 0) .ireturn 1 && decide (ret = some .int)
  | .freturn => xe_D bs (pcs.getD i 0) .ireturn 1 && decide (ret = some .boolean)
  | .return_ => xe_D bs (pcs.getD i 0) .return_ 1 && decide (ret = none)
  | r => xe_nx bs pcs i r 1
theorem xe_D_d {bs : ByteArray} {pc : Nat} {r : Instr} {n : Nat} (h : xe_D bs pc r n = true) : decode bs pc = .ok (r, n) := of_decide_eq_true h
theorem xe_nx_d {bs : ByteArray} {pcs : List Nat} {i : Nat} {r : Instr} {n : Nat} (h : xe_nx bs pcs i r n = true) : decode bs (pcs.getD i 0) = .ok (r, n) := by
  simp only [xe_nx, Bool.and_eq_true] at h
  exact xe_D_d h.1
theorem xe_nx_e {bs : ByteArray} {pcs : List Nat} {i : Nat} {r : Instr} {n : Nat} (h : xe_nx bs pcs i r n = true) : pcs.getD (i + 1) 0 = pcs.getD i 0 + n := by
  simp only [xe_nx, Bool.and_eq_true, decide_eq_true_eq] at h
  exact h.2
theorem xe_Dv_d {bs : ByteArray} {pc : Nat} {r : Instr} (h : xe_Dv bs pc r = true) : ∃ n, decode bs pc = .ok (r, n) := by
  unfold xe_Dv at h
  split at h
  · rename_i q n hq
    exact ⟨n, by rw [hq, of_decide_eq_true h]⟩
  · cases h
theorem xe_jm_e (pcs : List Nat) (i : Nat) (t : Int) : ((pcs.getD i 0 : Nat) : Int) + xe_jm pcs i t = ((pcs.getD t.toNat 0 : Nat) : Int) := by unfold xe_jm; omega
theorem xe_offs (f : Int → Int) (d x : Int) : ∀ ps : List (Int × Int), Op.lookupswitch.offset (ps.map (fun q => (q.1, f q.2))) (f d) x = f (Op.lookupswitch.offset ps d x) := by
  intro ps
  induction ps with
  | nil => rfl
  | cons a l ih =>
    simp only [List.map_cons, Op.lookupswitch.offset] at ih ⊢
    split <;> simp_all
section XES
variable {p : Program} {l : Launch} {e : Env} {R : Room} {s : State} {m : MethodId} {args : Array Value} {below : List Frame} {meth : Method} {c : Code} {WQ : State → Prop}
variable {D : va_G} {ty : Nat → ClassId} {b base L : Nat} {xs : Nat → Int32}
/-- what a place of the body owes -/
def xe_X (p : Program) (l : Launch) (e : Env) (R : Room) (s : State) (m : MethodId) (args : Array Value) (below : List Frame) (meth : Method) (c : Code) (WQ : State → Prop) (D : va_G) (ty : Nat → ClassId) (b base L : Nat) (xs : Nat → Int32) (nL : Nat) (pcs : List Nat) : xe_K := fun i dl st kc ks z M =>
  ∀ (H : Heap) (locs : List Loc) (ls : Array Slot) (cells slots : Nat), va_S (xe_A base) s.heap H locs → xe_H D ty b base L xs z M H → lv_has ls nL (xe_l b base dl) → dl.length = nL → cells + kc ≤ R.cells → slots + ks ≤ R.slots →
    W p l e R s m args below meth c H locs cells slots WQ (F0 m (pcs.getD i 0) ls (st.map (xe_v b base)))
/-- behind a call -/
theorem xe_call {H H0 : Heap} {locs : List Loc} {cells slots mc ms pc : Nat} {ls : Array Slot} {rest st0 : List Value} {a : Array Value} {P : xe_Q} (hr : va_Run p l e R s m args below meth c H locs cells slots mc ms (F0 m pc ls st0) rest (xe_Qc D ty b base L xs P a) (xe_A base)) (hS : va_S (xe_A base) H0 H locs)
    (kk : ∀ (v : Option Value) (z : Nat) (M : xe_M) (H1 : Heap) (locs1 : List Loc), P v z M → xe_H D ty b base L xs z M H1 → va_S (xe_A base) H0 H1 locs1 → W p l e R s m args below meth c H1 locs1 (cells + mc) (slots + ms) WQ (F0 m (pc + 3) ls ((v.map (xe_v b base)).toList ++ rest))) : W p l e R s m args below meth c H locs cells slots WQ (F0 m pc ls st0) := by
  intro T hT X
  obtain ⟨v, st₀, t, T', Lo, h0, X', hL, e1, e2, ⟨⟨w, z, M, hv, hp, hb⟩, hz, hk⟩, st⟩ := hr T hT X
  cases hv
  rw [h0] at hz hk
  obtain ⟨t2, a1, b1⟩ := kk w z M T'.heap (locs ++ Lo) hp (by rw [e1]; exact hb)
    ⟨Nat.le_trans hS.1 (by rw [e1]; exact hz), fun q h1 h2 => by rw [e1, hk q (Nat.lt_of_lt_of_le h1 hS.1) h2]; exact hS.2.1 q h1 h2, fun q hq => by
      rcases List.mem_append.mp hq with h | h
      · exact hS.2.2 q h
      · exact hL q h⟩ T' rfl X'
  exact ⟨t2, st t2 a1, b1⟩
theorem xe_to {H : Heap} {locs : List Loc} {cells slots pc pc' : Nat} {ls : Array Slot} {st : List Value} (e1 : pc = pc') (h : W p l e R s m args below meth c H locs cells slots WQ (F0 m pc ls st)) : W p l e R s m args below meth c H locs cells slots WQ (F0 m pc' ls st) := e1 ▸ h
theorem xe_T_at (ty : Nat → ClassId) : (xe_T ty)[0]? = some (ty 0, .byte) ∧ (xe_T ty)[1]? = some (ty 1, .int) ∧ (xe_T ty)[2]? = some (ty 2, .long) ∧ (xe_T ty)[3]? = some (ty 3, .boolean) ∧ (xe_T ty)[4]? = some (ty 4, .object RX5) := ⟨rfl, rfl, rfl, rfl, rfl⟩
theorem xe_at {z : Nat} {M : xe_M} {a : Nat} {x : va_E} (h : 0 < a) (hz : a < z) (hM : M a = x) : (xe_W ty b base z M)[a - 1]? = some (xe_ad b base a, xe_c ty b base x) := by
  obtain ⟨j, rfl⟩ : ∃ j, a = j + 1 := ⟨a - 1, by omega⟩
  rw [Nat.add_sub_cancel, xe_W_get hz, hM]
  rfl
theorem xe_put {z : Nat} {M : xe_M} {a : Nat} (x : va_E) (h : 0 < a) : (xe_W ty b base z M).set (a - 1) (xe_ad b base a, xe_c ty b base x) = xe_W ty b base z (va_up M a x) := by
  obtain ⟨j, rfl⟩ : ∃ j, a = j + 1 := ⟨a - 1, by omega⟩
  rw [Nat.add_sub_cancel]
  exact xe_W_set x
theorem xe_H.wr {z : Nat} {M : xe_M} {a : Nat} {H H1 : Heap} {x y : va_E} (h : xe_H D ty b base L xs z M H) (ha : 0 < a) (hz : a < z) (hM : M a = y) (hat : va_at D xe_cl (xe_ad b base a, xe_c ty b base x) H1) (hs : H1.size = H.size) (oq : ∀ q : Nat, q ≠ xe_ad b base a → H1[q]? = H[q]?) : xe_H D ty b base L xs z (va_up M a x) H1 := by
  refine ⟨?_, by rw [va_up_ne _ _ (by omega)]; exact h.2.1, h.2.2.1, fun q => by rw [hs]; exact h.2.2.2 q⟩
  rw [← xe_put x ha]
  exact h.1.set xe_W_D (xe_at ha hz hM) hat oq
theorem xe_Aad {a : Nat} (ha : 0 < a) : xe_A base (xe_ad b base a) := by
  obtain ⟨j, rfl⟩ : ∃ j, a = j + 1 := ⟨a - 1, by omega⟩
  exact Nat.le_add_right _ _
theorem xe_st_i (cA : ClassId) (n k : Nat) (f : Nat → Int32) (x : Int32) : (vp_cell cA (n, .inl f)).setSlot k (.int x) = vp_cell cA (n, .inl (upd f k x)) := by
  rw [vp_cell_i, vp_cell_i, arrV_store]
  congr 1
  funext q
  by_cases hq : q = k
  · subst hq; simp [updV, upd]
  · simp [updV, upd, hq]
theorem xe_st_l (cA : ClassId) (n k : Nat) (f : Nat → Int64) (x : Int64) : (vp_cell cA (n, .inr (.inl f))).setSlot k (.long x) = vp_cell cA (n, .inr (.inl (vp_updL f k x))) := by
  rw [vp_cell_l, vp_cell_l, arrV_store]
  congr 1
  funext q
  by_cases hq : q = k
  · subst hq; simp [updV, vp_updL]
  · simp [updV, vp_updL, hq]
theorem xe_st_q (cA : ClassId) (n k : Nat) (f : Nat → Option Nat) (x : Nat) : (vp_cell cA (n, .inr (.inr (.inr (.inr f))))).setSlot k (.ref x) = vp_cell cA (n, .inr (.inr (.inr (.inr (va_up f k (some x)))))) := by
  rw [vp_cell_q, vp_cell_q, arrV_store]
  congr 1
  funext q
  by_cases hq : q = k
  · subst hq; simp [updV, va_up, va_rf]
  · simp [updV, va_up, hq]
/-- a new place -/
theorem xe_H.mk {z : Nat} {M : xe_M} {H H1 : Heap} {x : va_E} (h : xe_H D ty b base L xs z M H) (hz : z < xe_Z) (hat : va_at D xe_cl (H.size, xe_c ty b base x) H1) (hs : H1.size = H.size + 1) (oq : ∀ q : Nat, q < H.size → H1[q]? = H[q]?) : xe_H D ty b base L xs (z + 1) (va_up M z x) H1 ∧ H.size = xe_ad b base z := by
  obtain ⟨hP, h0, h1, h2⟩ := h
  have h3 := h2 hz
  have h4 : H.size = base + (z - 1) := by omega
  refine ⟨⟨?_, by rw [va_up_ne _ _ (by omega)]; exact h0, by omega, fun _ => by omega⟩, ?_⟩
  · rw [← xe_W_push h1]
    refine (hP.kept fun k q hk => oq q.1 ((hP k q hk).lt)).app fun k q hk => ?_
    have hl : k < 1 := (List.getElem?_eq_some_iff.mp hk).1
    rw [show k = 0 by omega] at hk
    cases hk
    rw [← h4]
    exact hat
  · obtain ⟨j, rfl⟩ : ∃ j, z = j + 1 := ⟨z - 1, by omega⟩
    exact h4
theorem xe_S.mk {H0 H H1 : Heap} {locs : List Loc} (hS : va_S (xe_A base) H0 H locs) (hs : H1.size = H.size + 1) (oq : ∀ q : Nat, q < H.size → H1[q]? = H[q]?) : va_S (xe_A base) H0 H1 locs := ⟨by have := hS.1; omega, fun q h1 h2 => (oq q (Nat.lt_of_lt_of_le h1 hS.1)).trans (hS.2.1 q h1 h2), hS.2.2⟩
end XES
end
section
/-! SOUNDNESS, instruction by instruction. -/
section XEB
variable {p : Program} {l : Launch} {e : Env} {R : Room} {s : State} {m : MethodId} {args : Array Value} {below : List Frame} {meth : Method} {c : Code} {WQ : State → Prop}
variable {D : va_G} {ty : Nat → ClassId} {b base L : Nat} {xs : Nat → Int32}
theorem xe_len1 {dl : List Value} {k n : Nat} {v : Value} (h : dl.length = n) : (dl.set k v).length = n := by rw [List.length_set]; exact h
def xe_pt (t : FieldType) : Bool := match t with
  | .byte => false
  | .char => false
  | .short => false
  | _ => true
theorem xe_tyok (ci k : Nat) : xe_pt (xe_ty ci k) = true := by
  unfold xe_ty
  split
  all_goals first
    | (unfold tyX0; split <;> rfl) | (unfold tyX1; split <;> rfl) | (unfold tyX2; split <;> rfl) | (unfold tyX3; split <;> rfl) | (unfold tyX4; split <;> rfl) | (unfold tyX5; split <;> rfl) | (unfold tyX6; split <;> rfl) | (unfold tyX7; split <;> rfl) | (unfold tyX8; split <;> rfl) | (unfold tyX9; split <;> rfl) | (unfold tyX10; split <;> rfl) | (unfold tyX11; split <;> rfl) | (unfold tyX12; split <;> rfl)
theorem xe_narrow {t : FieldType} {v : Value} (ht : xe_pt t = true) (h : fits t v = true) : narrow t v = v := by
  cases t <;> cases v <;> first | rfl | (cases ht; done) | (cases h; done) | skip
  rename_i x
  have h2 : (x == 0 || x == 1) = true := h
  rw [Bool.or_eq_true, beq_iff_eq, beq_iff_eq] at h2
  rcases h2 with rfl | rfl <;> decide
theorem xe_fitv {t : FieldType} {v : Value} (h : fits t v = true) : fits t (xe_v b base v) = true := by
  cases v <;> first | exact h | (cases t <;> first | rfl | (simp [fits] at h))

set_option maxHeartbeats 4000000 in
/-- what a method's field store comes to -/
theorem xe_putf {own : String} {cc : ByteArray} {pc : Nat} {ls : Array Slot} {rest : List Value} {H : Heap} {locs : List Loc} {cells slots : Nat} (hx : p.tables.exec = Jvm.exec) (hb : c.code = cc) (hown : s.vm.findClass own = some m.cls) (hts : ∀ w ∈ xe_good, w.before args s = true) (hE : xe_E D ty s) (hS : va_S (xe_A base) s.heap H locs) {z : Nat} {M : xe_M} (hH : xe_H D ty b base L xs z M H) {a ci k idx : Nat} {fs : List Value} {v : Value} (ha : 0 < a) (hz : a < z) (hM : M a = .inr (ci, fs)) (hl : k < fs.length) (hfit : fits (xe_ty ci k) v = true) (hF : xe_okF own idx ci k) (hfin : ∀ r, xe_cl[ci]? = some r → (r.2.1 k).2.2.2 = false ∨ (meth.name = "<init>" ∧ r.1 = own)) (hdg : decode cc pc = .ok (.putfield idx, 3))
    (kk : ∀ (H1 : Heap) (locs1 : List Loc), va_S (xe_A base) s.heap H1 locs1 → xe_H D ty b base L xs z (va_up M a (.inr (ci, fs.set k v))) H1 → W p l e R s m args below meth c H1 locs1 cells slots WQ (F0 m (pc + 3) ls rest)) : W p l e R s m args below meth c H locs cells slots WQ (F0 m pc ls (xe_v b base v :: .ref (xe_ad b base a) :: rest)) := by
  obtain ⟨r, hc, hk, hdecl, hin, hlink⟩ := hF
  obtain ⟨hty, hnm, -⟩ := xe_clok ci r hc
  have hK := hE.1
  have hap := va_apart (own := own) hts hin (xe_ty ci) hty hnm hK hc
  have hn : narrow (xe_ty ci k) (xe_v b base v) = xe_v b base v := xe_narrow (xe_tyok ci k) (xe_fitv hfit)
  have he := xe_at (ty := ty) (b := b) (base := base) ha hz hM
  obtain ⟨r', h1, cell, q1, q2, q3, q4⟩ := hH.1 _ _ he
  have hr : r' = r := Option.some.inj (h1.symm.trans hc)
  subst hr
  obtain ⟨hSl, hfc, kC, hkC, hkind⟩ := hK.1 ci _ hc
  obtain ⟨cf, kf, fi, f, hi, hsl⟩ := hSl k hk
  have hi' : s.fieldFound? r'.1 (r'.2.1 k).2.1 (r'.2.1 k).2.2.1 = some (cf, kf, fi, f) := by rw [← hdecl]; exact hi
  have hlay := hts _ (hin _ (u_in_lay hk))
  unfold u_lay at hlay
  have hst := (u_facts hfc hkC (u_lays hts hin hk) hi).1
  have fin : ∀ (H' : Heap), H'[xe_ad b base a]? = some (cell.setSlot f.slot (xe_v b base v)) → H'.size = H.size → (∀ q : Nat, q ≠ xe_ad b base a → H'[q]? = H[q]?) → xe_H D ty b base L xs z (va_up M a (.inr (ci, fs.set k v))) H' := by
    intro H' e1 e2 e3
    rw [hsl] at e1
    refine hH.wr ha hz hM ?_ e2 e3
    refine ⟨_, hc, t_OB.to (V := updV (vp_V (fs.map (xe_v b base))) k (xe_v b base v)) ⟨_, e1, q2, q3, t_set q4 hap hk _⟩ (fun j _ => ?_)⟩
    rw [List.map_set]
    exact vp_updV_set (by rw [List.length_map]; exact hl) _ j
  by_cases hf : (r'.2.1 k).2.2.2 = true
  · rcases hfin _ hc with h | ⟨hi2, hro⟩
    · rw [hf] at h; cases h
    · rw [if_pos hf] at hlay
      have hcf : m.cls = cf := by
        obtain ⟨_, _, c', _, _, _, -, -, hf', -, -, -, hown2, -⟩ := Cond.laysFinal_spec hlay
        have e1 : c' = cf := by have := hi.symm.trans hf'; simp at this; exact this.1.symm
        rw [hdecl, hro] at hown2
        rw [← e1]; exact Option.some.inj (hown.symm.trans hown2)
      have h6 := u_fits hfc hkC hkind (Or.inr hlay) hi (hty k hk) hn (xe_fitv hfit)
      rcases hlink with hlink | ⟨host, hlink⟩
      · exact W.putFinK hx hb hown (hts _ hlink) hi' hst hcf hi2 (by rw [q2]; exact h6) q1 q3 (by rw [hsl]; exact k2_hasslot (q4 k hk)) rfl rfl hdg fun H' e1 e2 e3 => kk H' _ (hS.put e2 e3 (xe_Aad ha)) (fin H' e1 e2 e3)
      · have ha' : xe_ad b base a < H.size := (Array.getElem?_eq_some_iff.mp q1).1
        refine va_Wputf hx hb hown (va_Nw.use rfl (hE.2.1 _ hlink)) hi' hst (Or.inr ⟨hcf, hi2⟩) q1 (by rw [q3]; exact fun h => by cases h) (by rw [hsl]; exact k2_hasslot (q4 k hk)) h6.1 (by rw [q2, q3]; exact h6.2) rfl rfl hdg ?_
        refine kk _ _ (hS.put ?_ ?_ (xe_Aad ha)) (fin _ ?_ ?_ ?_)
        all_goals first | (simp; done) | (simp [Array.getElem?_setIfInBounds, ha']; done) | (intro q hq; simp [Array.getElem?_setIfInBounds, Ne.symm hq])
  · rw [if_neg hf] at hlay
    have h6 := u_store hfc hkC hkind hlay hi (hty k hk) hn (xe_fitv hfit)
    rcases hlink with hlink | ⟨host, hlink⟩
    · exact W.putK hx hb (f := f) ⟨hown, hts _ hlink, ⟨_, _, _, hi'⟩, hst⟩ (by rw [q2]; exact h6) q1 q3 (by rw [hsl]; exact k2_hasslot (q4 k hk)) rfl rfl hdg fun H' e1 e2 e3 => kk H' _ (hS.put e2 e3 (xe_Aad ha)) (fin H' e1 e2 e3)
    · exact va_WputK hx hb (f := f) hown (va_Nw.use rfl (hE.2.1 _ hlink)) hi' hst (by rw [q2]; exact h6) q1 q3 (by rw [hsl]; exact k2_hasslot (q4 k hk)) rfl rfl hdg fun H' e1 e2 e3 => kk H' _ (hS.put e2 e3 (xe_Aad ha)) (fin H' e1 e2 e3)
end XEB
end
section
theorem xe_df_map (b base ci j : Nat) : vp_V (xe_dflt ci) j = vp_V ((xe_dflt ci).map (xe_v b base)) j := by
  have h : (xe_dflt ci).map (xe_v b base) = xe_dflt ci := by
    unfold xe_dflt
    split <;> rfl
  rw [h]
section XEC
variable {p : Program} {l : Launch} {e : Env} {R : Room} {s : State} {m : MethodId} {args : Array Value} {below : List Frame} {meth : Method} {c : Code} {WQ : State → Prop}
variable {D : va_G} {ty : Nat → ClassId} {b base L : Nat} {xs : Nat → Int32}
/-- a call as the machine does it -/
def xe_Ru (p : Program) (l : Launch) (e : Env) (R : Room) (s : State) (m : MethodId) (args : Array Value) (below : List Frame) (meth : Method) (c : Code) (D : va_G) (ty : Nat → ClassId) (b base L : Nat) (xs : Nat → Int32) (nL : Nat) (cc : ByteArray) (i : Instr) (mc ms : Nat) (As : List Value) (z : Nat) (M : xe_M) (P : xe_Q) : Prop :=
  ∀ (H : Heap) (locs : List Loc) (ls : Array Slot) (cells slots pc : Nat) (rest : List Value), va_S (xe_A base) s.heap H locs → xe_H D ty b base L xs z M H → ls.size = nL → cells + mc ≤ R.cells → slots + ms ≤ R.slots → (rest.map fun v => v.category).sum ≤ 8 → decode cc pc = .ok (i, 3) →
    ∃ a, va_Run p l e R s m args below meth c H locs cells slots mc ms (F0 m pc ls ((As.map (xe_v b base)).reverse ++ rest)) rest (xe_Qc D ty b base L xs P a) (xe_A base)
set_option maxHeartbeats 16000000 in
theorem xe_sound {own : String} {T : List xe_I} {C : xe_C} {code : List Instr} {Q : xe_Q} {bs : ByteArray} {nL kind : Nat} {ret : Option FieldType} {pcs : List Nat} {cp : xe_cp}
    (hx : p.tables.exec = Jvm.exec) (hb : c.code = bs) (hml : c.maxLocals = nL) (hown : s.vm.findClass own = some m.cls) (hts : ∀ w ∈ xe_good, w.before args s = true) (hE : xe_E D ty s) (hX : va_X b L xs s s.heap) (hbb : b < base) (hbs : base ≤ s.heap.size)
    (hnm : kind = 2 → meth.name = "<init>") (hcp : xe_cpok own T cp) (hRf : 1 ≤ R.frames) (hRl : 400 ≤ R.locals) (hnat : Cond.native arraycopyName ∈ xe_good ∧ Cond.static arraycopyName ∈ xe_good ∧ Cond.initialized "java/lang/System" ∈ xe_good) (hobj : Cond.instanceMethod objectInit ∈ xe_good ∧ Cond.code objectInit ⟨#[0xb1]⟩ 1 none ∈ xe_good) (harr : ∀ t : ArrayType, (t = .byte ∨ t = .int ∨ t = .long ∨ t = .boolean) → Cond.arrayClass (newarray.typeOf t) ∈ xe_good)
    (hV : ∀ g inf a As z M P idx, T[g]? = some inf → xe_ik inf = 1 → As.length = xe_in inf → As.all xe_c1 = true → (∃ fs, M a = .inr (xe_ic inf, fs)) → 0 < a → a < z → xe_okM own idx (xe_iy inf) → C g (.ref a :: As) z M P → xe_Ru p l e R s m args below meth c D ty b base L xs nL bs (.invokevirtual idx) (xe_im inf) (xe_is inf) (.ref a :: As) z M P)
    (hN : ∀ g inf a As z M P idx, T[g]? = some inf → xe_ik inf = 2 → As.length = xe_in inf → As.all xe_c1 = true → (∃ fs, M a = .inr (xe_ic inf, fs)) → 0 < a → a < z → xe_okM own idx (xe_iy inf) → C g (.ref a :: As) z M P → xe_Ru p l e R s m args below meth c D ty b base L xs nL bs (.invokespecial idx) (xe_im inf) (xe_is inf) (.ref a :: As) z M P)
    (hSt : ∀ (i g : Nat) inf As z M P idx, code[i]? = some (.invokestatic g) → T[g]? = some inf → (xe_ik inf = 0 ∨ xe_ik inf = 4) → As.length = xe_in inf → As.all xe_c1 = true → xe_okM own idx (xe_iy inf) → C g As z M P → xe_Ru p l e R s m args below meth c D ty b base L xs nL bs (.invokestatic idx) (xe_im inf) (xe_is inf) As z M P)
    (hI : ∀ x z M H locs ls cells slots pc, ret = some .int → decode bs pc = .ok (.ireturn, 1) → Q (some (.int x)) z M → va_S (xe_A base) s.heap H locs → xe_H D ty b base L xs z M H → cells ≤ R.cells → slots ≤ R.slots → W p l e R s m args below meth c H locs cells slots WQ (F0 m pc ls [.int x]))
    (hZ : ∀ x z M H locs ls cells slots pc, ret = some .boolean → (x = 0 ∨ x = 1) → decode bs pc = .ok (.ireturn, 1) → Q (some (.int x)) z M → va_S (xe_A base) s.heap H locs → xe_H D ty b base L xs z M H → cells ≤ R.cells → slots ≤ R.slots → W p l e R s m args below meth c H locs cells slots WQ (F0 m pc ls [.int x]))
    (hR : ∀ z M H locs ls cells slots pc, ret = none → decode bs pc = .ok (.return_, 1) → Q none z M → va_S (xe_A base) s.heap H locs → xe_H D ty b base L xs z M H → cells ≤ R.cells → slots ≤ R.slots → W p l e R s m args below meth c H locs cells slots WQ (F0 m pc ls []))
    (hThr : ∀ i st z M H locs ls cells slots, kind = 3 → code[i]? = some Instr.athrow → xe_cat st ≤ 8 → Q (some (.double 0)) z M → va_S (xe_A base) s.heap H locs → xe_H D ty b base L xs z M H → ls.size = nL → cells + 1 ≤ R.cells → slots + 6 ≤ R.slots → W p l e R s m args below meth c H locs cells slots WQ (F0 m (pcs.getD i 0) ls (st.map (xe_v b base))))
    (hDyn : ∀ (i g : Nat) dl st kc ks z M, kind = 4 → code[i]? = some (.invokedynamic g) → xe_ins T C Q (xe_X p l e R s m args below meth c WQ D ty b base L xs nL pcs) i dl st kc ks z M (.invokedynamic g) → xe_X p l e R s m args below meth c WQ D ty b base L xs nL pcs i dl st kc ks z M)
    (hchk : ∀ i ins, code[i]? = some ins → xe_chk cp bs kind own ret pcs i ins = true) :
    ∀ i dl st kc ks z M, xe_step T C code Q (xe_X p l e R s m args below meth c WQ D ty b base L xs nL pcs) i dl st kc ks z M → xe_X p l e R s m args below meth c WQ D ty b base L xs nL pcs i dl st kc ks z M := by
  intro i dl st kc ks z M h
  obtain ⟨ins, hc, h⟩ := h
  have hk := hchk i ins hc
  intro H locs ls cells slots hS hH hl hd hcl hsl
  have hTy := xe_T_at ty
  have hK := hE.1
  have hbA : ¬ xe_A base b := Nat.not_le.mpr hbb
  have hA : ∀ q, s.heap.size ≤ q → xe_A base q := fun q h => Nat.le_trans hbs h
  cases ins with
  | iadd =>
    obtain ⟨x, y, r, rfl, h⟩ := h
    have hk : xe_nx bs pcs i .iadd 1 = true := hk
    exact lv_iadd hx hb (xe_nx_d hk) (xe_to (xe_nx_e hk) (h H locs ls cells slots hS hH hl hd hcl hsl))
  | isub =>
    obtain ⟨x, y, r, rfl, h⟩ := h
    have hk : xe_nx bs pcs i .isub 1 = true := hk
    exact lv_isub hx hb (xe_nx_d hk) (xe_to (xe_nx_e hk) (h H locs ls cells slots hS hH hl hd hcl hsl))
  | imul =>
    obtain ⟨x, y, r, rfl, h⟩ := h
    have hk : xe_nx bs pcs i .imul 1 = true := hk
    exact lv_imul hx hb (xe_nx_d hk) (xe_to (xe_nx_e hk) (h H locs ls cells slots hS hH hl hd hcl hsl))
  | iand =>
    obtain ⟨x, y, r, rfl, h⟩ := h
    have hk : xe_nx bs pcs i .iand 1 = true := hk
    exact lv_iand hx hb (xe_nx_d hk) (xe_to (xe_nx_e hk) (h H locs ls cells slots hS hH hl hd hcl hsl))
  | ior =>
    obtain ⟨x, y, r, rfl, h⟩ := h
    have hk : xe_nx bs pcs i .ior 1 = true := hk
    exact lv_ior hx hb (xe_nx_d hk) (xe_to (xe_nx_e hk) (h H locs ls cells slots hS hH hl hd hcl hsl))
  | ixor =>
    obtain ⟨x, y, r, rfl, h⟩ := h
    have hk : xe_nx bs pcs i .ixor 1 = true := hk
    exact lv_ixor hx hb (xe_nx_d hk) (xe_to (xe_nx_e hk) (h H locs ls cells slots hS hH hl hd hcl hsl))
  | ishl =>
    obtain ⟨x, y, r, rfl, h⟩ := h
    have hk : xe_nx bs pcs i .ishl 1 = true := hk
    exact lv_ishl hx hb (xe_nx_d hk) (xe_to (xe_nx_e hk) (h H locs ls cells slots hS hH hl hd hcl hsl))
  | ishr =>
    obtain ⟨x, y, r, rfl, h⟩ := h
    have hk : xe_nx bs pcs i .ishr 1 = true := hk
    exact lv_ishr hx hb (xe_nx_d hk) (xe_to (xe_nx_e hk) (h H locs ls cells slots hS hH hl hd hcl hsl))
  | lor =>
    obtain ⟨x, y, r, rfl, h⟩ := h
    have hk : xe_nx bs pcs i .lor 1 = true := hk
    exact lv_lor hx hb (xe_nx_d hk) (xe_to (xe_nx_e hk) (h H locs ls cells slots hS hH hl hd hcl hsl))
  | lxor =>
    obtain ⟨x, y, r, rfl, h⟩ := h
    have hk : xe_nx bs pcs i .lxor 1 = true := hk
    exact lv_lxor hx hb (xe_nx_d hk) (xe_to (xe_nx_e hk) (h H locs ls cells slots hS hH hl hd hcl hsl))
  | lcmp =>
    obtain ⟨x, y, r, rfl, h⟩ := h
    have hk : xe_nx bs pcs i .lcmp 1 = true := hk
    exact W.lcmp hx hb (xe_nx_d hk) (xe_to (xe_nx_e hk) (h H locs ls cells slots hS hH hl hd hcl hsl))
  | idiv =>
    obtain ⟨x, y, r, rfl, h0, h⟩ := h
    have hk : xe_nx bs pcs i .idiv 1 = true := hk
    exact lv_idiv hx hb (xe_nx_d hk) h0 (xe_to (xe_nx_e hk) (h H locs ls cells slots hS hH hl hd hcl hsl))
  | irem =>
    obtain ⟨x, y, r, rfl, h0, h⟩ := h
    have hk : xe_nx bs pcs i .irem 1 = true := hk
    exact lv_irem hx hb (xe_nx_d hk) h0 (xe_to (xe_nx_e hk) (h H locs ls cells slots hS hH hl hd hcl hsl))
  | iushr =>
    obtain ⟨x, y, r, rfl, h⟩ := h
    have hk : xe_nx bs pcs i .iushr 1 = true := hk
    exact lv_iushr hx hb (xe_nx_d hk) rfl (xe_to (xe_nx_e hk) (h H locs ls cells slots hS hH hl hd hcl hsl))
  | lushr =>
    obtain ⟨x, y, r, rfl, h⟩ := h
    have hk : xe_nx bs pcs i .lushr 1 = true := hk
    exact lv_lushr hx hb (xe_nx_d hk) rfl (xe_to (xe_nx_e hk) (h H locs ls cells slots hS hH hl hd hcl hsl))
  | lshl =>
    obtain ⟨x, y, r, rfl, h⟩ := h
    have hk : xe_nx bs pcs i .lshl 1 = true := hk
    exact lv_lshl hx hb (xe_nx_d hk) rfl (xe_to (xe_nx_e hk) (h H locs ls cells slots hS hH hl hd hcl hsl))
  | ineg =>
    obtain ⟨x, r, rfl, h⟩ := h
    have hk : xe_nx bs pcs i .ineg 1 = true := hk
    exact lv_ineg hx hb (xe_nx_d hk) (xe_to (xe_nx_e hk) (h H locs ls cells slots hS hH hl hd hcl hsl))
  | i2b =>
    obtain ⟨x, r, rfl, h⟩ := h
    have hk : xe_nx bs pcs i .i2b 1 = true := hk
    exact lv_i2b hx hb (xe_nx_d hk) rfl (xe_to (xe_nx_e hk) (h H locs ls cells slots hS hH hl hd hcl hsl))
  | i2s =>
    obtain ⟨x, r, rfl, h⟩ := h
    have hk : xe_nx bs pcs i .i2s 1 = true := hk
    exact lv_i2s hx hb (xe_nx_d hk) rfl (xe_to (xe_nx_e hk) (h H locs ls cells slots hS hH hl hd hcl hsl))
  | i2l =>
    obtain ⟨x, r, rfl, h⟩ := h
    have hk : xe_nx bs pcs i .i2l 1 = true := hk
    exact lv_i2l hx hb (xe_nx_d hk) rfl (xe_to (xe_nx_e hk) (h H locs ls cells slots hS hH hl hd hcl hsl))
  | l2i =>
    obtain ⟨x, r, rfl, h⟩ := h
    have hk : xe_nx bs pcs i .l2i 1 = true := hk
    exact lv_l2i hx hb (xe_nx_d hk) rfl (xe_to (xe_nx_e hk) (h H locs ls cells slots hS hH hl hd hcl hsl))
  | sipush v =>
    have h : xe_X p l e R s m args below meth c WQ D ty b base L xs nL pcs (i + 1) dl (.int (Int32.ofInt v) :: st) kc ks z M := h
    simp only [xe_chk, Bool.or_eq_true, Bool.and_eq_true, decide_eq_true_eq, List.any_eq_true] at hk
    rcases hk with ((hk | ⟨hk, hv⟩) | ⟨hk, hv⟩) | ⟨q, hq, hv, hk⟩
    · exact lv_iconst hx hb (xe_nx_d hk) rfl (xe_to (xe_nx_e hk) (h H locs ls cells slots hS hH hl hd hcl hsl))
    · exact lv_bipush hx hb (xe_nx_d hk) hv (xe_to (xe_nx_e hk) (h H locs ls cells slots hS hH hl hd hcl hsl))
    · exact lv_sipush hx hb (xe_nx_d hk) hv (xe_to (xe_nx_e hk) (h H locs ls cells slots hS hH hl hd hcl hsl))
    · have hw := hts _ (hcp.2.2.1 q hq)
      rw [hv] at hw
      rcases hk with hk | hk
      · exact W.ldc hx hb hown hw rfl (xe_nx_d hk) (xe_to (xe_nx_e hk) (h H locs ls cells slots hS hH hl hd hcl hsl))
      · exact lv_ldcw hx hb hown hw (xe_nx_d hk) (xe_to (xe_nx_e hk) (h H locs ls cells slots hS hH hl hd hcl hsl))
  | lconst n =>
    obtain ⟨rfl, h⟩ := h
    have hk : xe_nx bs pcs i (.lconst 0) 1 = true := hk
    exact lv_lconst hx hb (xe_nx_d hk) rfl (xe_to (xe_nx_e hk) (h H locs ls cells slots hS hH hl hd hcl hsl))
  | aconst_null =>
    have h : xe_X p l e R s m args below meth c WQ D ty b base L xs nL pcs (i + 1) dl (.null :: st) kc ks z M := h
    have hk : xe_nx bs pcs i .aconst_null 1 = true := hk
    exact lv_null hx hb (xe_nx_d hk) (xe_to (xe_nx_e hk) (h H locs ls cells slots hS hH hl hd hcl hsl))
  | iload k =>
    obtain ⟨x, hv, h⟩ := h
    simp only [xe_chk, Bool.or_eq_true, Bool.and_eq_true, decide_eq_true_eq] at hk
    have hr := xe_lv_read hl hv (fun _ q => by cases q)
    rcases hk with ⟨h4, hk⟩ | hk
    · exact lv_iload_n hx hb (xe_nx_d hk) (Nat.mod_eq_of_lt h4) hr (xe_to (xe_nx_e hk) (h H locs ls cells slots hS hH hl hd hcl hsl))
    · exact lv_iload hx hb (xe_nx_d hk) hr (xe_to (xe_nx_e hk) (h H locs ls cells slots hS hH hl hd hcl hsl))
  | lload k =>
    obtain ⟨x, hv, h⟩ := h
    simp only [xe_chk, Bool.or_eq_true, Bool.and_eq_true, decide_eq_true_eq] at hk
    have hr := xe_lv_read hl hv (fun _ q => by cases q)
    rcases hk with ⟨h4, hk⟩ | hk
    · exact lv_lload_n hx hb (xe_nx_d hk) (Nat.mod_eq_of_lt h4) hr (xe_to (xe_nx_e hk) (h H locs ls cells slots hS hH hl hd hcl hsl))
    · exact lv_lload hx hb (xe_nx_d hk) hr (xe_to (xe_nx_e hk) (h H locs ls cells slots hS hH hl hd hcl hsl))
  | aload k =>
    obtain ⟨x, hv, h⟩ := h
    simp only [xe_chk, Bool.or_eq_true, Bool.and_eq_true, decide_eq_true_eq] at hk
    have hr := xe_lv_read hl hv (fun _ q => by cases q)
    rcases hk with ⟨h4, hk⟩ | hk
    · exact lv_aload_n hx hb (xe_nx_d hk) (Nat.mod_eq_of_lt h4) hr (xe_to (xe_nx_e hk) (h H locs ls cells slots hS hH hl hd hcl hsl))
    · exact lv_aload hx hb (xe_nx_d hk) hr (xe_to (xe_nx_e hk) (h H locs ls cells slots hS hH hl hd hcl hsl))
  | istore k =>
    obtain ⟨x, r, rfl, h1, h⟩ := h
    simp only [xe_chk, Bool.or_eq_true, Bool.and_eq_true, decide_eq_true_eq] at hk
    have hlt := xe_s1_lt h1
    rcases hk with ⟨h4, hk⟩ | hk
    · exact lv_istore_n hx hb (xe_nx_d hk) (Nat.mod_eq_of_lt h4) hl (by omega) rfl (fun ls' hl' => xe_to (xe_nx_e hk) (h H locs ls' cells slots hS hH (xe_lv_set1 (v := .int x) h1 hl') (xe_len1 hd) hcl hsl))
    · exact lv_istore hx hb (xe_nx_d hk) hl (by omega) rfl (fun ls' hl' => xe_to (xe_nx_e hk) (h H locs ls' cells slots hS hH (xe_lv_set1 (v := .int x) h1 hl') (xe_len1 hd) hcl hsl))
  | astore k =>
    obtain ⟨x, r, rfl, h1, h⟩ := h
    simp only [xe_chk, Bool.or_eq_true, Bool.and_eq_true, decide_eq_true_eq] at hk
    have hlt := xe_s1_lt h1
    rcases hk with ⟨h4, hk⟩ | hk
    · exact lv_astore_n hx hb (xe_nx_d hk) (Nat.mod_eq_of_lt h4) hl (by omega) rfl (fun ls' hl' => xe_to (xe_nx_e hk) (h H locs ls' cells slots hS hH (xe_lv_set1 (v := .ref x) h1 hl') (xe_len1 hd) hcl hsl))
    · exact lv_astore hx hb (xe_nx_d hk) hl (by omega) rfl (fun ls' hl' => xe_to (xe_nx_e hk) (h H locs ls' cells slots hS hH (xe_lv_set1 (v := .ref x) h1 hl') (xe_len1 hd) hcl hsl))
  | lstore k =>
    obtain ⟨x, r, rfl, h1, h⟩ := h
    simp only [xe_chk, Bool.or_eq_true, Bool.and_eq_true, decide_eq_true_eq] at hk
    have hlt := xe_s2_lt h1
    rcases hk with ⟨h4, hk⟩ | hk
    · exact lv_lstore_n hx hb (xe_nx_d hk) (Nat.mod_eq_of_lt h4) hl (by omega) rfl (fun ls' hl' => xe_to (xe_nx_e hk) (h H locs ls' cells slots hS hH (xe_lv_set2 (v := .long x) h1 hl') (xe_len1 (xe_len1 hd)) hcl hsl))
    · exact lv_lstore hx hb (xe_nx_d hk) hl (by omega) rfl (fun ls' hl' => xe_to (xe_nx_e hk) (h H locs ls' cells slots hS hH (xe_lv_set2 (v := .long x) h1 hl') (xe_len1 (xe_len1 hd)) hcl hsl))
  | iinc k n =>
    obtain ⟨x, hv, h1, h⟩ := h
    have hk : xe_nx bs pcs i (.iinc k n) 3 = true := hk
    have hlt := xe_s1_lt h1
    obtain ⟨j, hj⟩ := List.getElem?_of_mem (xe_l_mem (b := b) (base := base) hv (fun _ q => by cases q))
    exact lv_iinc hx hb (xe_nx_d hk) hl hj rfl (by omega) rfl (fun ls' hl' => xe_to (xe_nx_e hk) (h H locs ls' cells slots hS hH (xe_lv_set1 (v := .int (x + Int32.ofInt n)) h1 hl') (xe_len1 hd) hcl hsl))
  | dup =>
    obtain ⟨v, r, rfl, h1, h⟩ := h
    have hk : xe_nx bs pcs i .dup 1 = true := hk
    exact lv_dup hx hb (xe_nx_d hk) (by rw [xe_v_cat]; exact h1) (xe_to (xe_nx_e hk) (h H locs ls cells slots hS hH hl hd hcl hsl))
  | pop =>
    obtain ⟨v, r, rfl, h1, h⟩ := h
    have hk : xe_nx bs pcs i .pop 1 = true := hk
    exact lv_pop hx hb (xe_nx_d hk) (by rw [xe_v_cat]; exact h1) (xe_to (xe_nx_e hk) (h H locs ls cells slots hS hH hl hd hcl hsl))
  | dup_x1 =>
    obtain ⟨v, u, r, rfl, h1, h2, h⟩ := h
    have hk : xe_nx bs pcs i .dup_x1 1 = true := hk
    exact lv_dup_x1 hx hb (xe_nx_d hk) (by rw [xe_v_cat]; exact h1) (by rw [xe_v_cat]; exact h2) (xe_to (xe_nx_e hk) (h H locs ls cells slots hS hH hl hd hcl hsl))
  | dup2 =>
    obtain ⟨v, u, r, rfl, h1, h2, h⟩ := h
    have hk : xe_nx bs pcs i .dup2 1 = true := hk
    exact lv_dup2_11 hx hb (xe_nx_d hk) (by rw [xe_v_cat]; exact h1) (by rw [xe_v_cat]; exact h2) (xe_to (xe_nx_e hk) (h H locs ls cells slots hS hH hl hd hcl hsl))
  | goto t =>
    have h : xe_X p l e R s m args below meth c WQ D ty b base L xs nL pcs t.toNat dl st kc ks z M := h
    have hk : xe_D bs (pcs.getD i 0) (.goto (xe_jm pcs i t)) 3 = true := hk
    exact lv_goto hx hb (xe_D_d hk) (xe_jm_e pcs i t) (h H locs ls cells slots hS hH hl hd hcl hsl)
  | ifCond q t =>
    obtain ⟨x, r, rfl, h1, h2⟩ := h
    have hk : xe_nx bs pcs i (.ifCond q (xe_jm pcs i t)) 3 = true := hk
    cases q
    · exact lv_if_eq hx hb (xe_nx_d hk) (xe_jm_e pcs i t) (fun q => h1 q H locs ls cells slots hS hH hl hd hcl hsl) (fun q => xe_to (xe_nx_e hk) (h2 (by first | exact q | exact fun z => z q | exact Int32.not_le.mpr q | exact Int32.not_lt.mpr q) H locs ls cells slots hS hH hl hd hcl hsl))
    · exact lv_if_ne hx hb (xe_nx_d hk) (xe_jm_e pcs i t) (fun q => h1 q H locs ls cells slots hS hH hl hd hcl hsl) (fun q => xe_to (xe_nx_e hk) (h2 (by first | exact q | exact fun z => z q | exact Int32.not_le.mpr q | exact Int32.not_lt.mpr q) H locs ls cells slots hS hH hl hd hcl hsl))
    · exact lv_if_lt hx hb (xe_nx_d hk) (xe_jm_e pcs i t) (fun q => h1 q H locs ls cells slots hS hH hl hd hcl hsl) (fun q => xe_to (xe_nx_e hk) (h2 (by first | exact q | exact fun z => z q | exact Int32.not_le.mpr q | exact Int32.not_lt.mpr q) H locs ls cells slots hS hH hl hd hcl hsl))
    · exact lv_if_ge hx hb (xe_nx_d hk) (xe_jm_e pcs i t) (fun q => h1 q H locs ls cells slots hS hH hl hd hcl hsl) (fun q => xe_to (xe_nx_e hk) (h2 (by first | exact q | exact fun z => z q | exact Int32.not_le.mpr q | exact Int32.not_lt.mpr q) H locs ls cells slots hS hH hl hd hcl hsl))
    · exact lv_if_gt hx hb (xe_nx_d hk) (xe_jm_e pcs i t) (fun q => h1 q H locs ls cells slots hS hH hl hd hcl hsl) (fun q => xe_to (xe_nx_e hk) (h2 (by first | exact q | exact fun z => z q | exact Int32.not_le.mpr q | exact Int32.not_lt.mpr q) H locs ls cells slots hS hH hl hd hcl hsl))
    · exact lv_if_le hx hb (xe_nx_d hk) (xe_jm_e pcs i t) (fun q => h1 q H locs ls cells slots hS hH hl hd hcl hsl) (fun q => xe_to (xe_nx_e hk) (h2 (by first | exact q | exact fun z => z q | exact Int32.not_le.mpr q | exact Int32.not_lt.mpr q) H locs ls cells slots hS hH hl hd hcl hsl))
  | if_icmp q t =>
    obtain ⟨x, y, r, rfl, h1, h2⟩ := h
    have hk : xe_nx bs pcs i (.if_icmp q (xe_jm pcs i t)) 3 = true := hk
    cases q
    · exact lv_icmp_eq hx hb (xe_nx_d hk) (xe_jm_e pcs i t) (fun q => h1 q H locs ls cells slots hS hH hl hd hcl hsl) (fun q => xe_to (xe_nx_e hk) (h2 (by first | exact q | exact fun z => z q | exact Int32.not_le.mpr q | exact Int32.not_lt.mpr q) H locs ls cells slots hS hH hl hd hcl hsl))
    · exact lv_icmp_ne hx hb (xe_nx_d hk) (xe_jm_e pcs i t) (fun q => h1 q H locs ls cells slots hS hH hl hd hcl hsl) (fun q => xe_to (xe_nx_e hk) (h2 (by first | exact q | exact fun z => z q | exact Int32.not_le.mpr q | exact Int32.not_lt.mpr q) H locs ls cells slots hS hH hl hd hcl hsl))
    · exact lv_icmp_lt hx hb (xe_nx_d hk) (xe_jm_e pcs i t) (fun q => h1 q H locs ls cells slots hS hH hl hd hcl hsl) (fun q => xe_to (xe_nx_e hk) (h2 (by first | exact q | exact fun z => z q | exact Int32.not_le.mpr q | exact Int32.not_lt.mpr q) H locs ls cells slots hS hH hl hd hcl hsl))
    · exact lv_icmp_ge hx hb (xe_nx_d hk) (xe_jm_e pcs i t) (fun q => h1 q H locs ls cells slots hS hH hl hd hcl hsl) (fun q => xe_to (xe_nx_e hk) (h2 (by first | exact q | exact fun z => z q | exact Int32.not_le.mpr q | exact Int32.not_lt.mpr q) H locs ls cells slots hS hH hl hd hcl hsl))
    · exact lv_icmp_gt hx hb (xe_nx_d hk) (xe_jm_e pcs i t) (fun q => h1 q H locs ls cells slots hS hH hl hd hcl hsl) (fun q => xe_to (xe_nx_e hk) (h2 (by first | exact q | exact fun z => z q | exact Int32.not_le.mpr q | exact Int32.not_lt.mpr q) H locs ls cells slots hS hH hl hd hcl hsl))
    · exact lv_icmp_le hx hb (xe_nx_d hk) (xe_jm_e pcs i t) (fun q => h1 q H locs ls cells slots hS hH hl hd hcl hsl) (fun q => xe_to (xe_nx_e hk) (h2 (by first | exact q | exact fun z => z q | exact Int32.not_le.mpr q | exact Int32.not_lt.mpr q) H locs ls cells slots hS hH hl hd hcl hsl))
  | ifnonnull t =>
    have hk : xe_nx bs pcs i (.ifnonnull (xe_jm pcs i t)) 3 = true := hk
    rcases h with ⟨a, r, rfl, h⟩ | ⟨r, rfl, h⟩
    · exact lv_ifnonnull hx hb (xe_nx_d hk) (xe_jm_e pcs i t) (h H locs ls cells slots hS hH hl hd hcl hsl)
    · exact lv_ifnonnullN hx hb (xe_nx_d hk) (xe_to (xe_nx_e hk) (h H locs ls cells slots hS hH hl hd hcl hsl))
  | tableswitch d lo hi os =>
    obtain ⟨x, r, rfl, h1, h2⟩ := h
    obtain ⟨len, hk⟩ := xe_Dv_d hk
    by_cases q : x.toInt < lo ∨ hi < x.toInt
    · exact lv_tableOut hx hb hk q (xe_jm_e pcs i d) (h1 q H locs ls cells slots hS hH hl hd hcl hsl)
    · obtain ⟨t, ht, h⟩ := h2 (fun z => q (Or.inl z)) (fun z => q (Or.inr z))
      exact lv_tableIn hx hb hk (fun z => q (Or.inl z)) (fun z => q (Or.inr z)) (by rw [Array.getElem?_map, ht]; rfl) (xe_jm_e pcs i t) (h H locs ls cells slots hS hH hl hd hcl hsl)
  | lookupswitch d ps =>
    obtain ⟨x, r, rfl, h⟩ := h
    simp only [xe_chk, Bool.and_eq_true] at hk
    obtain ⟨len, hk1⟩ := xe_Dv_d hk.1
    refine lv_lookup hx hb hk1 ?_ rfl ?_ (h H locs ls cells slots hS hH hl hd hcl hsl)
    · have := hk.2
      simp only [Array.toList_map, List.drop_one, ← List.map_tail, List.zip_map, List.all_map] at this ⊢
      exact this
    · rw [Array.toList_map, xe_offs (xe_jm pcs i)]
      exact xe_jm_e pcs i _
  | getfield n =>
    obtain ⟨a, fs, v, r, rfl, ha, hz, hM, hv, h⟩ := h
    simp only [xe_chk, List.any_eq_true, Bool.and_eq_true, decide_eq_true_eq] at hk
    obtain ⟨q, hq, ⟨e1, e2⟩, hk⟩ := hk
    obtain ⟨r0, hc0, hk0, hdecl, hin, hlink⟩ := hcp.1 q hq
    rw [e1] at hc0
    rw [e2] at hk0 hdecl hlink
    have he := xe_at (ty := ty) (b := b) (base := base) ha hz hM
    have hv2 : (fs.map (xe_v b base))[n % 64]? = some (xe_v b base v) := by rw [List.getElem?_map, hv]; rfl
    rcases hlink with hlink | ⟨host, hlink⟩
    · exact va_get hx hb hts hin hown hK hH.1 (a - 1) he hc0 (n % 64) hk0 (hts _ hlink) (fun x hx => by rw [← hdecl]; exact hx) hv2 (xe_nx_d hk) (xe_to (xe_nx_e hk) (h H locs ls cells slots hS hH hl hd hcl hsl))
    · exact va_getN hx hb hts hin hown hK hH.1 (a - 1) he hc0 (n % 64) hk0 (va_Nw.use rfl (hE.2.1 _ hlink)) (fun x hx => by rw [← hdecl]; exact hx) hv2 (xe_nx_d hk) (xe_to (xe_nx_e hk) (h H locs ls cells slots hS hH hl hd hcl hsl))
  | putfield n =>
    obtain ⟨a, fs, v, r, rfl, ha, hz, hM, hlf, hfit, h⟩ := h
    simp only [xe_chk, List.any_eq_true, Bool.and_eq_true, decide_eq_true_eq] at hk
    obtain ⟨q, hq, ⟨⟨e1, e2⟩, hk⟩, hfin⟩ := hk
    have hF := hcp.1 q hq
    rw [e1, e2] at hF
    refine xe_putf hx hb hown hts hE hS hH ha hz hM hlf hfit hF (fun r0 hr0 => ?_) (xe_nx_d hk) (fun H1 locs1 hS1 hH1 => xe_to (xe_nx_e hk) (h H1 locs1 ls cells slots hS1 hH1 hl hd hcl hsl))
    rw [hr0] at hfin
    simp only [Bool.or_eq_true, Bool.not_eq_true', Bool.and_eq_true, decide_eq_true_eq] at hfin
    rcases hfin with q | ⟨q1, q2⟩
    · exact Or.inl q
    · exact Or.inr ⟨hnm q1, q2⟩
  | iaload =>
    obtain ⟨a, j, n, f, r, rfl, hz, hM, hin, h⟩ := h
    have hk : xe_nx bs pcs i .iaload 1 = true := hk
    by_cases ha : 0 < a
    · exact va_iald hx hb hK hH.1 (a - 1) 1 (xe_at (ty := ty) (b := b) (base := base) ha hz hM) hTy.2.1 hin (xe_nx_d hk) (xe_to (xe_nx_e hk) (h H locs ls cells slots hS hH hl hd hcl hsl))
    · obtain rfl : a = 0 := Nat.eq_zero_of_not_pos ha
      have hM2 := hM.symm.trans hH.2.1
      cases hM2
      exact va_sld hx hb hX (Nat.lt_of_lt_of_le hbb hbs) hbA hS hin (xe_nx_d hk) (xe_to (xe_nx_e hk) (h H locs ls cells slots hS hH hl hd hcl hsl))
  | baload =>
    obtain ⟨a, j, t, n, f, r, rfl, ha, hz, ht, hM, hin, h⟩ := h
    have hk : xe_nx bs pcs i .baload 1 = true := hk
    rcases ht with rfl | rfl
    · exact va_bald hx hb hK hH.1 (a - 1) 0 (xe_at (ty := ty) (b := b) (base := base) ha hz hM) hTy.1 hin (xe_nx_d hk) (xe_to (xe_nx_e hk) (h H locs ls cells slots hS hH hl hd hcl hsl))
    · exact va_zald hx hb hK hH.1 (a - 1) 3 (xe_at (ty := ty) (b := b) (base := base) ha hz hM) hTy.2.2.2.1 hin (xe_nx_d hk) (xe_to (xe_nx_e hk) (h H locs ls cells slots hS hH hl hd hcl hsl))
  | laload =>
    obtain ⟨a, j, n, f, r, rfl, ha, hz, hM, hin, h⟩ := h
    have hk : xe_nx bs pcs i .laload 1 = true := hk
    exact va_lald hx hb hK hH.1 (a - 1) 2 (xe_at (ty := ty) (b := b) (base := base) ha hz hM) hTy.2.2.1 hin (xe_nx_d hk) (xe_to (xe_nx_e hk) (h H locs ls cells slots hS hH hl hd hcl hsl))
  | aaload =>
    obtain ⟨a, j, n, f, r, rfl, ha, hz, hM, hin, h⟩ := h
    have hk : xe_nx bs pcs i .aaload 1 = true := hk
    refine va_aldq hx hb hK hH.1 (a - 1) 4 (xe_at (ty := ty) (b := b) (base := base) ha hz hM) hTy.2.2.2.2 hin (xe_nx_d hk) (xe_to (xe_nx_e hk) ?_)
    have h9 := h H locs ls cells slots hS hH hl hd hcl hsl
    have e9 : va_rf ((f j.toNatClampNeg).map (xe_ad b base)) = xe_v b base (va_rf (f j.toNatClampNeg)) := by cases f j.toNatClampNeg <;> rfl
    rw [e9]
    exact h9
  | iastore =>
    obtain ⟨a, j, x, n, f, r, rfl, ha, hz, hM, hin, h⟩ := h
    have hk : xe_nx bs pcs i .iastore 1 = true := hk
    have he := hH.1 _ _ (xe_at (ty := ty) (b := b) (base := base) ha hz hM)
    refine W.iast hx hb he ((hK.2 1 _ hTy.2.1).1 n (fun j => .int (f j))) (fun q => by cases q) (by show ¬ (j < 0 ∨ (arrV _ _ _).slots.size ≤ _); rw [arrV_size]; exact hin) rfl rfl (xe_nx_d hk) (fun H1 e1 e2 e3 => ?_)
    refine xe_to (xe_nx_e hk) (h H1 _ ls cells slots (hS.put e2 e3 (xe_Aad ha)) (hH.wr ha hz hM ?_ e2 e3) hl hd hcl hsl)
    exact e1.trans (congrArg some (xe_st_i (ty 1) n _ f x))
  | bastore =>
    obtain ⟨a, j, x, t, n, f, r, rfl, ha, hz, ht, hM, hin, h⟩ := h
    have hk : xe_nx bs pcs i .bastore 1 = true := hk
    have he := hH.1 _ _ (xe_at (ty := ty) (b := b) (base := base) ha hz hM)
    rcases ht with ⟨rfl, hx8⟩ | ⟨rfl, hx1⟩
    · refine W.bast hx hb he ((hK.2 0 _ hTy.1).1 n (fun j => .int (f j))) (fun q => by cases q) (by show ¬ (j < 0 ∨ (arrV _ _ _).slots.size ≤ _); rw [arrV_size]; exact hin) rfl rfl (xe_nx_d hk) (fun H1 e1 e2 e3 => ?_)
      refine xe_to (xe_nx_e hk) (h H1 _ ls cells slots (hS.put e2 e3 (xe_Aad ha)) (hH.wr ha hz hM ?_ e2 e3) hl hd hcl hsl)
      have e8 : narrow .byte (.int x) = .int x := by
        have := pk_nb x
        rw [hx8] at this
        exact this
      rw [e8] at e1
      exact e1.trans (congrArg some (xe_st_i (ty 0) n _ f x))
    · refine W.zast hx hb he ((hK.2 3 _ hTy.2.2.2.1).1 n (fun j => .int (f j))) (fun q => by cases q) (by show ¬ (j < 0 ∨ (arrV _ _ _).slots.size ≤ _); rw [arrV_size]; exact hin) rfl rfl (xe_nx_d hk) (fun H1 e1 e2 e3 => ?_)
      refine xe_to (xe_nx_e hk) (h H1 _ ls cells slots (hS.put e2 e3 (xe_Aad ha)) (hH.wr ha hz hM ?_ e2 e3) hl hd hcl hsl)
      have e8 : narrow .boolean (.int x) = .int x := by rcases hx1 with rfl | rfl <;> decide
      rw [e8] at e1
      exact e1.trans (congrArg some (xe_st_i (ty 3) n _ f x))
  | lastore =>
    obtain ⟨a, j, x, n, f, r, rfl, ha, hz, hM, hin, h⟩ := h
    have hk : xe_nx bs pcs i .lastore 1 = true := hk
    have he := hH.1 _ _ (xe_at (ty := ty) (b := b) (base := base) ha hz hM)
    refine W.last hx hb he ((hK.2 2 _ hTy.2.2.1).1 n (fun j => .long (f j))) (fun q => by cases q) (by show ¬ (j < 0 ∨ (arrV _ _ _).slots.size ≤ _); rw [arrV_size]; exact hin) rfl rfl (xe_nx_d hk) (fun H1 e1 e2 e3 => ?_)
    refine xe_to (xe_nx_e hk) (h H1 _ ls cells slots (hS.put e2 e3 (xe_Aad ha)) (hH.wr ha hz hM ?_ e2 e3) hl hd hcl hsl)
    exact e1.trans (congrArg some (xe_st_l (ty 2) n _ f x))
  | aastore =>
    obtain ⟨a, j, q, n, f, fs, r, rfl, ha, hz, hq, hqz, hMq, hM, hin, h⟩ := h
    have hk : xe_nx bs pcs i .aastore 1 = true := hk
    have he := hH.1 _ _ (xe_at (ty := ty) (b := b) (base := base) ha hz hM)
    obtain ⟨r5, hr5, cellV, g1, g2, g3, -⟩ := hH.1 _ _ (xe_at (ty := ty) (b := b) (base := base) hq hqz hMq)
    have hcls := (hK.1 5 r5 hr5).2
    obtain rfl : r5 = (RX5, TX5, 6) := (Option.some.inj hr5).symm
    obtain ⟨kA, comp, k1, k2, k3, -⟩ := (hK.2 4 _ hTy.2.2.2.2).2
    have hcomp : comp = D.1 5 := Option.some.inj (k3.symm.trans hcls.1)
    subst hcomp
    obtain ⟨kC, hkC, -⟩ := hcls.2
    have hlt : j.toNatClampNeg < n := Nat.not_le.mp fun q => hin (Or.inr q)
    refine W.aast hx hb he (fun q h => by cases h) (fun h => by cases h) k1 k2 rfl hkC ⟨fun q => hin (Or.inl q), by show _ < (arrV _ _ _).slots.size; rw [arrV_size]; exact hlt⟩ g1 (fun q h => by rw [g3] at h; cases h) (by rw [g2]; exact hkC) (by rw [g2]; exact va_assign hcls) rfl rfl (xe_nx_d hk) (fun H1 e1 e2 e3 => ?_)
    refine xe_to (xe_nx_e hk) (h H1 _ ls cells slots (hS.put e2 e3 (xe_Aad ha)) (hH.wr ha hz hM ?_ e2 e3) hl hd hcl hsl)
    refine e1.trans (congrArg some ((xe_st_q (ty 4) n _ _ (xe_ad b base q)).trans ?_))
    show vp_cell (ty 4) (n, _) = vp_cell (ty 4) (n, _)
    congr 6
    funext y
    by_cases hy : y = j.toNatClampNeg
    · subst hy; simp [va_up]
    · simp [va_up, hy]
  | arraylength =>
    obtain ⟨a, t, n, x, r, rfl, hz, ht, hM, h0, h⟩ := h
    have hk : xe_nx bs pcs i .arraylength 1 = true := hk
    by_cases ha : 0 < a
    · have he := xe_at (ty := ty) (b := b) (base := base) ha hz hM
      have htt : ∃ q, (xe_T ty)[t]? = some (ty t, q) := by
        match t, ht with
        | 0, _ => exact ⟨_, rfl⟩
        | 1, _ => exact ⟨_, rfl⟩
        | 2, _ => exact ⟨_, rfl⟩
        | 3, _ => exact ⟨_, rfl⟩
        | 4, _ => exact ⟨_, rfl⟩
      obtain ⟨q, hq⟩ := htt
      exact va_alen hx hb hK hH.1 (a - 1) t he hq rfl (xe_nx_d hk) (xe_to (xe_nx_e hk) (h H locs ls cells slots hS hH hl hd hcl hsl))
    · obtain rfl : a = 0 := Nat.eq_zero_of_not_pos ha
      obtain rfl := h0 rfl
      have hM2 := hM.symm.trans hH.2.1
      cases hM2
      exact va_slen hx hb hX (Nat.lt_of_lt_of_le hbb hbs) hbA hS (xe_nx_d hk) (xe_to (xe_nx_e hk) (h H locs ls cells slots hS hH hl hd hcl hsl))
  | monitorenter =>
    obtain ⟨a0, a, sp, dp, n, n0, n1, f, g, r, rfl, ha0, hz0, ha, hz, hcat, hM0, hM, h1, h2, h3, h4, h5, hzz, h⟩ := h
    simp only [xe_chk, List.any_eq_true] at hk
    obtain ⟨q, hq, hk⟩ := hk
    have hw := hts _ (hcp.2.2.2.2.1 q hq)
    refine va_copyi hx hb (by rw [hml, hl.1]) hown hw (hts _ hnat.1) (hts _ hnat.2.1) (hts _ hnat.2.2) hK hH.1 xe_W_D hS (a0 - 1) (a - 1) 1 1 (xe_at (ty := ty) (b := b) (base := base) ha0 hz0 hM0) (xe_at (ty := ty) (b := b) (base := base) ha hz hM) hTy.2.1 hTy.2.1 rfl h1 h2 h3 h4 h5 (fun _ _ => rfl) hRf (by rw [xe_cat_map]; exact Nat.le_trans (Nat.add_le_add_right hcat _) (Nat.le_trans (by decide +kernel) hRl)) (xe_nx_d hk) (fun H1 locs1 hP1 hD1 hS1 => ?_)
    refine xe_to (xe_nx_e hk) (h H1 locs1 ls cells slots hS1 ⟨?_, by rw [va_up_ne _ _ (Nat.ne_of_lt ha)]; exact hH.2.1, hH.2.2.1, fun q => absurd q (Nat.not_lt.mpr hzz)⟩ hl hd hcl hsl)
    rw [← xe_put _ ha]
    exact hP1
  | monitorexit =>
    obtain ⟨a0, a, sp, dp, n, n0, n1, f, g, r, rfl, ha0, hz0, ha, hz, hcat, hM0, hM, h1, h2, h3, h4, h5, hzz, h⟩ := h
    simp only [xe_chk, List.any_eq_true] at hk
    obtain ⟨q, hq, hk⟩ := hk
    have hw := hts _ (hcp.2.2.2.2.1 q hq)
    refine va_copyl hx hb (by rw [hml, hl.1]) hown hw (hts _ hnat.1) (hts _ hnat.2.1) (hts _ hnat.2.2) hK hH.1 xe_W_D hS (a0 - 1) (a - 1) 2 2 (xe_at (ty := ty) (b := b) (base := base) ha0 hz0 hM0) (xe_at (ty := ty) (b := b) (base := base) ha hz hM) hTy.2.2.1 hTy.2.2.1 rfl h1 h2 h3 h4 h5 (fun _ _ => rfl) hRf (by rw [xe_cat_map]; exact Nat.le_trans (Nat.add_le_add_right hcat _) (Nat.le_trans (by decide +kernel) hRl)) (xe_nx_d hk) (fun H1 locs1 hP1 hD1 hS1 => ?_)
    refine xe_to (xe_nx_e hk) (h H1 locs1 ls cells slots hS1 ⟨?_, by rw [va_up_ne _ _ (Nat.ne_of_lt ha)]; exact hH.2.1, hH.2.2.1, fun q => absurd q (Nat.not_lt.mpr hzz)⟩ hl hd hcl hsl)
    rw [← xe_put _ ha]
    exact hP1
  | nop =>
    obtain ⟨a, r, rfl, hcat, h⟩ := h
    simp only [xe_chk, List.any_eq_true] at hk
    obtain ⟨q, hq, hk⟩ := hk
    have hw := hts _ (hcp.2.2.2.2.2 q hq)
    exact W.objInit hx hb hown hw (hts _ hobj.1) (hts _ hobj.2) rfl (hl.1.trans hml.symm) rfl (xe_nx_d hk) hRf (by show 2 * 0 + _ + 12 ≤ _; rw [xe_cat_map]; omega) (xe_to (xe_nx_e hk) (h H locs ls cells slots hS hH hl hd hcl hsl))
  | invokevirtual g =>
    obtain ⟨inf, As, a, fs, r, hT, hkd, rfl, hAs, hA1, ha, hz, hM, hcat, hmc, hms, h⟩ := h
    simp only [xe_chk, List.any_eq_true, Bool.and_eq_true, decide_eq_true_eq] at hk
    obtain ⟨q, hq, e1, hk⟩ := hk
    have hw := hcp.2.1 q hq inf (by rw [e1]; exact hT)
    obtain ⟨aa, hr⟩ := hV g inf a As z M _ q.1 hT hkd hAs hA1 ⟨fs, hM⟩ ha hz hw h H locs ls cells slots (pcs.getD i 0) (r.map (xe_v b base)) hS hH hl.1 (by omega) (by omega) (by rw [xe_cat_map]; exact hcat) (xe_nx_d hk)
    have est : ((As.reverse ++ .ref a :: r).map (xe_v b base)) = ((Value.ref a :: As).map (xe_v b base)).reverse ++ r.map (xe_v b base) := by simp
    rw [est]
    refine xe_call hr hS (fun v z' M' H1 locs1 h hH1 hS1 => xe_to (xe_nx_e hk) ?_)
    have h9 := h H1 locs1 ls (cells + xe_im inf) (slots + xe_is inf) hS1 hH1 hl hd (by omega) (by omega)
    rw [List.map_append] at h9
    cases v <;> exact h9
  | invokespecial g =>
    obtain ⟨inf, As, a, fs, r, hT, hkd, rfl, hAs, hA1, ha, hz, hM, hcat, hmc, hms, h⟩ := h
    simp only [xe_chk, List.any_eq_true, Bool.and_eq_true, decide_eq_true_eq] at hk
    obtain ⟨q, hq, e1, hk⟩ := hk
    have hw := hcp.2.1 q hq inf (by rw [e1]; exact hT)
    obtain ⟨aa, hr⟩ := hN g inf a As z M _ q.1 hT hkd hAs hA1 ⟨fs, hM⟩ ha hz hw h H locs ls cells slots (pcs.getD i 0) (r.map (xe_v b base)) hS hH hl.1 (by omega) (by omega) (by rw [xe_cat_map]; exact hcat) (xe_nx_d hk)
    have est : ((As.reverse ++ .ref a :: r).map (xe_v b base)) = ((Value.ref a :: As).map (xe_v b base)).reverse ++ r.map (xe_v b base) := by simp
    rw [est]
    refine xe_call hr hS (fun v z' M' H1 locs1 h hH1 hS1 => xe_to (xe_nx_e hk) ?_)
    have h9 := h H1 locs1 ls (cells + xe_im inf) (slots + xe_is inf) hS1 hH1 hl hd (by omega) (by omega)
    rw [List.map_append] at h9
    cases v <;> exact h9
  | invokestatic g =>
    obtain ⟨inf, As, r, hT, hkd, rfl, hAs, hA1, hcat, hmc, hms, h⟩ := h
    simp only [xe_chk, List.any_eq_true, Bool.and_eq_true, decide_eq_true_eq] at hk
    obtain ⟨q, hq, e1, hk⟩ := hk
    have hw := hcp.2.1 q hq inf (by rw [e1]; exact hT)
    obtain ⟨aa, hr⟩ := hSt i g inf As z M _ q.1 hc hT hkd hAs hA1 hw h H locs ls cells slots (pcs.getD i 0) (r.map (xe_v b base)) hS hH hl.1 (by omega) (by omega) (by rw [xe_cat_map]; exact hcat) (xe_nx_d hk)
    have est : ((As.reverse ++ r).map (xe_v b base)) = (As.map (xe_v b base)).reverse ++ r.map (xe_v b base) := by simp
    rw [est]
    refine xe_call hr hS (fun v z' M' H1 locs1 h hH1 hS1 => xe_to (xe_nx_e hk) ?_)
    have h9 := h H1 locs1 ls (cells + xe_im inf) (slots + xe_is inf) hS1 hH1 hl hd (by omega) (by omega)
    rw [List.map_append] at h9
    cases v <;> exact h9
  | athrow =>
    have hk : decide (kind = 3) = true := hk
    exact hThr i st z M H locs ls cells slots (of_decide_eq_true hk) hc h.1 h.2.2.2 hS hH hl.1 (by have := h.2.1; omega) (by have := h.2.2.1; omega)
  | invokedynamic g =>
    have hk : decide (kind = 4) = true := hk
    exact hDyn i g dl st kc ks z M (of_decide_eq_true hk) hc h H locs ls cells slots hS hH hl hd hcl hsl
  | new q =>
    obtain ⟨r, hr, hzz, hmc, hms, h⟩ := h
    simp only [xe_chk, List.any_eq_true, Bool.and_eq_true, decide_eq_true_eq] at hk
    obtain ⟨q0, hq, e1, hk⟩ := hk
    have hw := hcp.2.2.2.1 q0 hq
    rw [e1] at hw
    obtain ⟨r2, hr2, hin, hl1, hl2, hl3⟩ := hw
    obtain rfl : r2 = r := Option.some.inj (hr2.symm.trans hr)
    have hKn := hK.1 q _ hr
    obtain ⟨hty, -, hdf⟩ := xe_clok q r2 hr
    refine W.newcK hx hb hown (hts _ hl1) (hts _ hl2) (hts _ hl3) rfl (xe_nx_d hk) (by omega) (by omega) hKn.2.1 rfl (fun H1 kC hkC e1 e2 e3 => ?_)
    have hat : va_at D xe_cl (H.size, xe_c ty b base (.inr (q, xe_dflt q))) H1 := by
      refine ⟨_, hr, (u_born (xe_ty q) hts hin hKn hkC e1 hty).to (fun j hj => ?_)⟩
      rw [hdf j hj]
      exact xe_df_map b base q j
    obtain ⟨hH1, ez⟩ := hH.mk hzz hat e2 e3
    have h9 := h H1 locs ls (cells + 1) (slots + r2.2.2) (xe_S.mk hS e2 e3) hH1 hl hd (by omega) (by omega)
    refine xe_to (xe_nx_e hk) ?_
    rw [ez]
    exact h9
  | newarray t =>
    obtain ⟨n, r, rfl, hn, hn2, hzz, hmc, hms, h⟩ := h
    simp only [xe_chk, Bool.and_eq_true, Bool.or_eq_true, decide_eq_true_eq] at hk
    obtain ⟨hk, ht⟩ := hk
    have ht : t = .byte ∨ t = .int ∨ t = .long ∨ t = .boolean := by rcases ht with ((h | h) | h) | h <;> simp [h]
    have hw := hts _ (harr t ht)
    have hbyt : n.toNatClampNeg * componentBytes (newarray.typeOf t) ≤ 536870912 := Nat.le_trans (Nat.mul_le_mul hn2 (show componentBytes (newarray.typeOf t) ≤ 8 by rcases ht with rfl | rfl | rfl | rfl <;> decide)) (by decide)
    refine va_newaK hx hb hw rfl (xe_nx_d hk) rfl hn rfl hbyt (by omega) (by omega) rfl (fun H1 cA e1 e2 e3 hAr hNm => ?_)
    refine xe_to (xe_nx_e hk) ?_
    rcases ht with rfl | rfl | rfl | rfl
    · have hcA : cA = ty 0 := Option.some.inj (hNm.symm.trans (hK.2 0 _ hTy.1).2)
      subst hcA
      obtain ⟨hH1, ez⟩ := hH.mk (x := .inl (0, n.toNatClampNeg, .inl (fun _ => 0))) hzz e1 e2 e3
      have h9 := h H1 locs ls (cells + 1) (slots + n.toNatClampNeg) (xe_S.mk hS e2 e3) hH1 hl hd (by omega) (by omega)
      rw [ez]
      exact h9
    · have hcA : cA = ty 1 := Option.some.inj (hNm.symm.trans (hK.2 1 _ hTy.2.1).2)
      subst hcA
      obtain ⟨hH1, ez⟩ := hH.mk (x := .inl (1, n.toNatClampNeg, .inl (fun _ => 0))) hzz e1 e2 e3
      have h9 := h H1 locs ls (cells + 1) (slots + n.toNatClampNeg) (xe_S.mk hS e2 e3) hH1 hl hd (by omega) (by omega)
      rw [ez]
      exact h9
    · have hcA : cA = ty 2 := Option.some.inj (hNm.symm.trans (hK.2 2 _ hTy.2.2.1).2)
      subst hcA
      obtain ⟨hH1, ez⟩ := hH.mk (x := .inl (2, n.toNatClampNeg, .inr (.inl (fun _ => 0)))) hzz e1 e2 e3
      have h9 := h H1 locs ls (cells + 1) (slots + n.toNatClampNeg) (xe_S.mk hS e2 e3) hH1 hl hd (by omega) (by omega)
      rw [ez]
      exact h9
    · have hcA : cA = ty 3 := Option.some.inj (hNm.symm.trans (hK.2 3 _ hTy.2.2.2.1).2)
      subst hcA
      obtain ⟨hH1, ez⟩ := hH.mk (x := .inl (3, n.toNatClampNeg, .inl (fun _ => 0))) hzz e1 e2 e3
      have h9 := h H1 locs ls (cells + 1) (slots + n.toNatClampNeg) (xe_S.mk hS e2 e3) hH1 hl hd (by omega) (by omega)
      rw [ez]
      exact h9
  | anewarray q =>
    obtain ⟨n, r, rfl, hn, hn2, hzz, hmc, hms, h⟩ := h
    simp only [xe_chk, List.any_eq_true, Bool.and_eq_true, decide_eq_true_eq] at hk
    obtain ⟨q0, hq, e1, hk⟩ := hk
    have hw := hcp.2.2.2.1 q0 hq
    rw [e1] at hw
    obtain ⟨r2, hr2, hin, hl1, hl2, hl3⟩ := hw
    obtain rfl : r2 = (RX5, TX5, 6) := (Option.some.inj hr2).symm
    refine W.anew hx hb hown (hts _ hl1) (va_AO.use hE.2.2) rfl (xe_nx_d hk) rfl hn (by omega) (by omega) (by omega) (fun cA kA comp f1 f2 f3 f4 => ?_)
    obtain ⟨kA2, comp2, k1, k2, k3, k4⟩ := (hK.2 4 _ hTy.2.2.2.2).2
    have hcA : cA = ty 4 := Option.some.inj (f1.symm.trans k4)
    subst hcA
    generalize hH1 : H.push ({ cls := ty 4, slots := Array.replicate n.toNatClampNeg .null, vm := .none } : Cell) = H1
    have z1 : H1.size = H.size + 1 := by rw [← hH1, Array.size_push]
    have e1 : H1[H.size]? = some (arrV (ty 4) n.toNatClampNeg (fun _ => .null)) := by rw [← hH1, Array.getElem?_push_size, ← arrV_new]
    have o1 : ∀ q : Nat, q < H.size → H1[q]? = H[q]? := fun q hq => by rw [← hH1, Array.getElem?_push, if_neg (Nat.ne_of_lt hq)]
    obtain ⟨hH2, ez⟩ := hH.mk (x := .inl (4, n.toNatClampNeg, .inr (.inr (.inr (.inr (fun _ => none)))))) hzz e1 z1 o1
    have h9 := h H1 locs ls (cells + 1) (slots + n.toNatClampNeg) (xe_S.mk hS z1 o1) hH2 hl hd (by omega) (by omega)
    refine xe_to (xe_nx_e hk) ?_
    rw [ez]
    exact h9
  | ireturn =>
    obtain ⟨x, rfl, h⟩ := h
    simp only [xe_chk, Bool.and_eq_true, decide_eq_true_eq] at hk
    exact hI x z M H locs ls cells slots _ hk.2 (xe_D_d hk.1) h hS hH (by omega) (by omega)
  | freturn =>
    obtain ⟨x, rfl, h1, h⟩ := h
    simp only [xe_chk, Bool.and_eq_true, decide_eq_true_eq] at hk
    exact hZ x z M H locs ls cells slots _ hk.2 h1 (xe_D_d hk.1) h hS hH (by omega) (by omega)
  | return_ =>
    obtain ⟨rfl, h⟩ := h
    simp only [xe_chk, Bool.and_eq_true, decide_eq_true_eq] at hk
    exact hR z M H locs ls cells slots _ hk.2 (xe_D_d hk.1) h hS hH (by omega) (by omega)
  | _ => exact (show False from h).elim
end XEC
end
section
/-! CALLS: a call of the logic is a contract of the machine. -/
def xe_rm (d : Nat) (inf : xe_I) : Room := { frames := d + 8, cells := xe_im inf, slots := xe_is inf, locals := 64 * d + 400 }
def xe_ws (inf : xe_I) : List Cond := Cond.code (xe_iy inf) (xe_ib inf) (xe_iL inf) (xe_ir inf) :: xe_good
def xe_ok (T : List xe_I) (inf : xe_I) : Prop :=
  Cond.code (xe_iy inf) (xe_ib inf) (xe_iL inf) (xe_ir inf) ∈ xe_good ∧ Cond.initialized (xe_iy inf).cls ∈ xe_good ∧ plainName (xe_iy inf).cls = true ∧
  ((xe_iy inf).cls ≠ "java/lang/invoke/MethodHandle" ∧ (xe_iy inf).cls ≠ "java/lang/invoke/VarHandle" ∧ (parseMethodDescriptor (xe_iy inf).desc).map (fun d => d.parameters.length) = some (xe_in inf)) ∧
  xe_iL inf ≤ 45 ∧ xe_in inf + (if xe_ik inf = 0 then 0 else 1) ≤ xe_iL inf ∧
  (xe_ik inf = 1 → Cond.instanceMethod (xe_iy inf) ∈ xe_good ∧ Cond.selects (xe_iy inf).cls (xe_iy inf) (xe_iy inf) ∈ xe_good ∧ ∃ r, xe_cl[xe_ic inf]? = some r ∧ r.1 = (xe_iy inf).cls) ∧
  (xe_ik inf = 2 → Cond.instanceMethod (xe_iy inf) ∈ xe_good ∧ (xe_iy inf).name = "<init>" ∧ xe_ir inf = none) ∧
  (xe_ik inf = 0 → Cond.static (xe_iy inf) ∈ xe_good) ∧
  (xe_pcs inf).getD 0 0 = 0 ∧
  ∃ cp, xe_cpok (xe_iy inf).cls T cp ∧ ∀ i ins, (xe_code inf)[i]? = some ins → xe_chk cp (xe_ib inf) (xe_ik inf) (xe_iy inf).cls (xe_ir inf) (xe_pcs inf) i ins = true
theorem xe_good_w {w : Cond} (h : w ∈ xe_good) : (w.onTables && w.keeps) = true ∨ ∃ ty, w = .arrayClass ty := good_of_word (List.mem_filter.mp h).2
theorem xe_good_in : GoodIn xe_good xe_good := fun _ h => ⟨h, xe_good_w h⟩
theorem xe_ws_in {T : List xe_I} {inf : xe_I} (h : xe_ok T inf) : GoodIn xe_good (xe_ws inf) := fun w hw => by
  rcases List.mem_cons.mp hw with rfl | hw
  · exact ⟨h.1, xe_good_w h.1⟩
  · exact xe_good_in w hw
def xe_sys : Prop := (Cond.native arraycopyName ∈ xe_good ∧ Cond.static arraycopyName ∈ xe_good ∧ Cond.initialized "java/lang/System" ∈ xe_good) ∧ (Cond.instanceMethod objectInit ∈ xe_good ∧ Cond.code objectInit ⟨#[0xb1]⟩ 1 none ∈ xe_good) ∧ ∀ t : ArrayType, (t = .byte ∨ t = .int ∨ t = .long ∨ t = .boolean) → Cond.arrayClass (newarray.typeOf t) ∈ xe_good
theorem xe_c1_cat {v : Value} (h : xe_c1 v = true) : v.category = 1 := by cases v <;> first | rfl | cases h
theorem xe_args_mem : ∀ (vs : List Value) (i k : Nat) (v : Value), (∀ v ∈ vs, v.category = 1) → vs[k]? = some v → (i + k, v) ∈ lv_args i vs
  | [], _, _, _, _, h => by simp at h
  | a :: vs, i, 0, v, _, h => by
    simp only [List.getElem?_cons_zero, Option.some.injEq] at h
    subst h
    exact List.mem_cons_self
  | a :: vs, i, k + 1, v, hc, h => by
    rw [List.getElem?_cons_succ] at h
    have h1 : ¬ a.category = 2 := by rw [hc a List.mem_cons_self]; decide
    have h2 := xe_args_mem vs (i + 1) k v (fun v hv => hc v (List.mem_cons_of_mem _ hv)) h
    unfold lv_args
    rw [if_neg h1]
    refine List.mem_cons_of_mem _ ?_
    rw [show i + (k + 1) = i + 1 + k by omega]
    exact h2
theorem xe_sl_len : ∀ (vs : List Value), (∀ v ∈ vs, v.category = 1) → (lg_sl vs).length = vs.length
  | [], _ => rfl
  | a :: vs, h => by
    have h1 : ¬ a.category = 2 := by rw [h a List.mem_cons_self]; decide
    have ih := xe_sl_len vs (fun v hv => h v (List.mem_cons_of_mem _ hv))
    unfold lg_sl at ih ⊢
    rw [List.flatMap_cons, if_neg h1, List.length_append, ih]
    simp
    omega
theorem xe_entry_l {ls : Array Slot} {b base n : Nat} {a : List Value} (hc : ∀ v ∈ a, v.category = 1) (h : lv_has ls n (lv_args 0 (a.map (xe_v b base)))) : lv_has ls n (xe_l b base (xe_entry n a)) := by
  refine ⟨h.1, h.2.1, fun q hq => ?_⟩
  obtain ⟨v, h1, h2, h3⟩ := xe_l_of hq
  have hv : a[q.1]? = some v := by
    unfold xe_entry at h1
    by_cases hk : q.1 < a.length
    · rw [List.getElem?_append_left hk] at h1
      exact h1
    · rw [List.getElem?_append_right (by omega)] at h1
      have := List.mem_of_getElem? h1
      rw [List.mem_replicate] at this
      exact absurd this.2 (h2 _)
  refine h.2.2 q ?_
  have h4 := xe_args_mem (a.map (xe_v b base)) 0 q.1 (xe_v b base v) (fun w hw => by
    obtain ⟨u, hu, rfl⟩ := List.mem_map.mp hw
    rw [xe_v_cat]
    exact hc u hu) (by rw [List.getElem?_map, hv]; rfl)
  rw [Nat.zero_add] at h4
  rw [← Prod.eta q, h3]
  exact h4
section XED
variable {l : Launch} {D : va_G} {ty : Nat → ClassId} {b base L : Nat} {xs : Nat → Int32}
theorem xe_blind {a : List Value} {z : Nat} {M : xe_M} : FrameBlind (xe_Pc D ty b base L xs a z M) := by
  intro v U g mk h
  obtain ⟨h1, h2, h3, h4, h5, h6⟩ := h
  exact ⟨h1, xe_E.same (s := U) rfl h2, va_X.moved (u := U) (Vm.Alike.refl U.vm) h3, h4, h5, h6⟩
variable {p : Program} {e : Env} {R : Room} {s : State} {m : MethodId} {args : Array Value} {below : List Frame} {meth : Method} {c : Code}
/-- the contracts that a caller at depth d may use -/
def xe_Mets (l : Launch) (D : va_G) (ty : Nat → ClassId) (b base L : Nat) (xs : Nat → Int32) (T : List xe_I) (d : Nat) : Prop := ∀ g inf a z M P, T[g]? = some inf → xe_ik inf ≤ 2 → a.length = xe_in inf + (if xe_ik inf = 0 then 0 else 1) → a.all xe_c1 = true → xe_Call T d g a z M P → Met l (xe_iy inf) (xe_ws inf) (xe_rm d inf) (xe_Pc D ty b base L xs a z M) (xe_Qc D ty b base L xs P) (xe_im inf) (xe_is inf) (xe_A base)
theorem xe_pcU {H : Heap} {locs : List Loc} {a : List Value} {z : Nat} {M : xe_M} (hE : xe_E D ty s) (hX : va_X b L xs s s.heap) (hbb : b < base) (hbs : base ≤ s.heap.size) (hS : va_S (xe_A base) s.heap H locs) (hH : xe_H D ty b base L xs z M H) : ∀ U : State, U.heap = H → s.WarmedH U.vm → xe_Pc D ty b base L xs a z M (a.map (xe_v b base)).toArray U := by
  intro U hU hW
  refine ⟨rfl, hE.warm hW, ?_, hbb, by rw [hU]; exact Nat.le_trans hbs hS.1, by rw [hU]; exact hH⟩
  refine va_X.moved hW.alike (va_X.kept hX ?_)
  rw [hU]
  exact hS.2.1 b (Nat.lt_of_lt_of_le hbb hbs) (Nat.not_le.mpr hbb)
set_option maxHeartbeats 4000000 in
theorem xe_callV {own : String} {T : List xe_I} {bs : ByteArray} {nL d : Nat} (hx : p.tables.exec = Jvm.exec) (hb : c.code = bs) (hml : c.maxLocals = nL) (hown : s.vm.findClass own = some m.cls) (hts : ∀ w ∈ xe_good, w.before args s = true) (hE : xe_E D ty s) (hX : va_X b L xs s s.heap) (hbb : b < base) (hbs : base ≤ s.heap.size) (hok : ∀ (g : Nat) (inf : xe_I), T[g]? = some inf → xe_ik inf ≤ 2 → xe_ok T inf) (hRf : d + 9 ≤ R.frames) (hRl : 64 * d + 464 ≤ R.locals) (hM : xe_Mets l D ty b base L xs T d) :
    ∀ g inf a As z M P idx, T[g]? = some inf → xe_ik inf = 1 → As.length = xe_in inf → As.all xe_c1 = true → (∃ fs, M a = .inr (xe_ic inf, fs)) → 0 < a → a < z → xe_okM own idx (xe_iy inf) → xe_Call T d g (.ref a :: As) z M P → xe_Ru p l e R s m args below meth c D ty b base L xs nL bs (.invokevirtual idx) (xe_im inf) (xe_is inf) (.ref a :: As) z M P := by
  intro g inf a As z M P idx hT hk hn hc1 ⟨fs, hMa⟩ ha hz hlk hcall H locs ls cells slots pc rest hS hH hls hcl hsl hcat hdg
  have ok := hok g inf hT (by omega)
  obtain ⟨o1, o2, o3, o4, o5, o6, o7, o8, o9, o10, o11⟩ := id ok
  obtain ⟨q1, q2, r0, q3, q4⟩ := o7 hk
  have hMet := hM g inf (.ref a :: As) z M P hT (by omega) (by rw [if_neg (by omega), List.length_cons, hn]) (by rw [List.all_cons, hc1]; rfl) hcall
  have he := xe_at (ty := ty) (b := b) (base := base) ha hz hMa
  have hrec := va_recv hE.1 hH.1 q3 he
  have hws : ∀ w ∈ xe_ws inf, ∀ (a' : Array Value) (U : State), s.WarmedH U.vm → w.before a' U = true := pay_in hts (xe_ws_in ok)
  have hsig : ∀ sig, parseMethodDescriptor (xe_iy inf).desc = some sig → xe_in inf = sig.parameters.length := fun sig h => by
    have h2 := o4.2.2
    rw [h] at h2
    exact (Option.some.inj h2).symm
  have hrd : (xe_rm d inf).frames + 1 ≤ R.frames ∧ 8 + (xe_iL inf + 11) + (xe_rm d inf).locals ≤ R.locals := by
    show d + 8 + 1 ≤ R.frames ∧ 8 + (xe_iL inf + 11) + (64 * d + 400) ≤ R.locals
    omega
  have hp : PreV s H r0.1 (xe_ad b base a) (xe_Pc D ty b base L xs (.ref a :: As) z M) (As.map (xe_v b base)) := ⟨xe_blind, hrec, fun U hU hW => xe_pcU hE hX hbb hbs hS hH U hU hW⟩
  have est : ((Value.ref a :: As).map (xe_v b base)).reverse ++ rest = (As.map (xe_v b base)).reverse ++ .ref (xe_ad b base a) :: rest := by simp [xe_v]
  refine ⟨(Value.ref (xe_ad b base a) :: As.map (xe_v b base)).toArray, ?_⟩
  rw [est]
  have hW8 : 2 * (F0 m pc ls ((As.map (xe_v b base)).reverse ++ .ref (xe_ad b base a) :: rest)).monitorRoom + (rest.map fun v => v.category).sum ≤ 8 := by
    show 2 * 0 + _ ≤ 8
    omega
  rcases hlk with hlk | ⟨host, hlk⟩
  · exact va_runV (C := r0.1) (n := xe_in inf) ⟨hx, hb, hml, hown, hts⟩ hMet ⟨⟨rfl, rfl, hrd.1, hrd.2, hws, List.mem_cons_self, hts _ o1, hts _ o2, ⟨o4.1, o4.2.1⟩, hsig, hts _ hlk⟩, hts _ q1, by rw [q4]; exact hts _ q2⟩ hp rfl (by rw [List.length_map]; exact hn) hls rfl hW8 hdg ⟨hcl, hsl⟩
  · exact va_runVN (C := r0.1) (n := xe_in inf) ⟨hx, hb, hml, hown, hts⟩ hMet ⟨⟨⟨rfl, rfl, hrd.1, hrd.2, hws, List.mem_cons_self⟩, hts _ o1, hts _ o2, ⟨o4.1, o4.2.1⟩, hsig, va_Nw.use rfl (hE.2.1 _ hlk)⟩, hts _ q1, by rw [q4]; exact hts _ q2⟩ hp rfl (by rw [List.length_map]; exact hn) hls rfl hW8 hdg ⟨hcl, hsl⟩
set_option maxHeartbeats 4000000 in
theorem xe_callN {own : String} {T : List xe_I} {bs : ByteArray} {nL d : Nat} (hx : p.tables.exec = Jvm.exec) (hb : c.code = bs) (hml : c.maxLocals = nL) (hown : s.vm.findClass own = some m.cls) (hts : ∀ w ∈ xe_good, w.before args s = true) (hE : xe_E D ty s) (hX : va_X b L xs s s.heap) (hbb : b < base) (hbs : base ≤ s.heap.size) (hok : ∀ (g : Nat) (inf : xe_I), T[g]? = some inf → xe_ik inf ≤ 2 → xe_ok T inf) (hRf : d + 9 ≤ R.frames) (hRl : 64 * d + 464 ≤ R.locals) (hM : xe_Mets l D ty b base L xs T d) :
    ∀ g inf a As z M P idx, T[g]? = some inf → xe_ik inf = 2 → As.length = xe_in inf → As.all xe_c1 = true → (∃ fs, M a = .inr (xe_ic inf, fs)) → 0 < a → a < z → xe_okM own idx (xe_iy inf) → xe_Call T d g (.ref a :: As) z M P → xe_Ru p l e R s m args below meth c D ty b base L xs nL bs (.invokespecial idx) (xe_im inf) (xe_is inf) (.ref a :: As) z M P := by
  intro g inf a As z M P idx hT hk hn hc1 _ ha hz hlk hcall H locs ls cells slots pc rest hS hH hls hcl hsl hcat hdg
  have ok := hok g inf hT (by omega)
  obtain ⟨o1, o2, o3, o4, o5, o6, o7, o8, o9, o10, o11⟩ := id ok
  obtain ⟨q1, q2, q3⟩ := o8 hk
  have hMet := hM g inf (.ref a :: As) z M P hT (by omega) (by rw [if_neg (by omega), List.length_cons, hn]) (by rw [List.all_cons, hc1]; rfl) hcall
  have hws : ∀ w ∈ xe_ws inf, ∀ (a' : Array Value) (U : State), s.WarmedH U.vm → w.before a' U = true := pay_in hts (xe_ws_in ok)
  have hsig : ∀ sig, parseMethodDescriptor (xe_iy inf).desc = some sig → xe_in inf = sig.parameters.length := fun sig h => by
    have h2 := o4.2.2
    rw [h] at h2
    exact (Option.some.inj h2).symm
  have hrd : (xe_rm d inf).frames + 1 ≤ R.frames ∧ 8 + (xe_iL inf + 11) + (xe_rm d inf).locals ≤ R.locals := by
    show d + 8 + 1 ≤ R.frames ∧ 8 + (xe_iL inf + 11) + (64 * d + 400) ≤ R.locals
    omega
  have hp : PreS s H (xe_Pc D ty b base L xs (.ref a :: As) z M) (.ref (xe_ad b base a) :: As.map (xe_v b base)) := ⟨xe_blind, fun U hU hW => xe_pcU hE hX hbb hbs hS hH U hU hW⟩
  have est : ((Value.ref a :: As).map (xe_v b base)).reverse ++ rest = (As.map (xe_v b base)).reverse ++ .ref (xe_ad b base a) :: rest := by simp [xe_v]
  refine ⟨(Value.ref (xe_ad b base a) :: As.map (xe_v b base)).toArray, ?_⟩
  rw [est]
  have hcode := List.mem_cons_self (a := Cond.code (xe_iy inf) (xe_ib inf) (xe_iL inf) (xe_ir inf)) (l := xe_good)
  have o1' := o1
  have hW8 : 2 * (F0 m pc ls ((As.map (xe_v b base)).reverse ++ .ref (xe_ad b base a) :: rest)).monitorRoom + (rest.map fun v => v.category).sum ≤ 8 := by
    show 2 * 0 + _ ≤ 8
    omega
  rw [q3] at hcode o1'
  have hcode2 : Cond.code (xe_iy inf) (xe_ib inf) (xe_iL inf) none ∈ xe_ws inf := by unfold xe_ws; rw [q3]; exact hcode
  rcases hlk with hlk | ⟨host, hlk⟩
  · exact va_runI (n := xe_in inf) ⟨hx, hb, hml, hown, hts⟩ hMet ⟨⟨rfl, rfl, hrd.1, hrd.2, hws, hcode2, hts _ o1', hts _ o2, ⟨o4.1, o4.2.1⟩, hsig, hts _ hlk⟩, q2, hts _ q1⟩ hp rfl (by rw [List.length_map]; exact hn) hls rfl hW8 hdg ⟨hcl, hsl⟩
  · exact va_runIN (n := xe_in inf) ⟨hx, hb, hml, hown, hts⟩ hMet ⟨⟨⟨rfl, rfl, hrd.1, hrd.2, hws, hcode2⟩, hts _ o1', hts _ o2, ⟨o4.1, o4.2.1⟩, hsig, va_Nw.use rfl (hE.2.1 _ hlk)⟩, q2, hts _ q1⟩ hp rfl (by rw [List.length_map]; exact hn) hls rfl hW8 hdg ⟨hcl, hsl⟩
set_option maxHeartbeats 4000000 in
theorem xe_callS {own : String} {T : List xe_I} {bs : ByteArray} {nL d : Nat} (hx : p.tables.exec = Jvm.exec) (hb : c.code = bs) (hml : c.maxLocals = nL) (hown : s.vm.findClass own = some m.cls) (hts : ∀ w ∈ xe_good, w.before args s = true) (hE : xe_E D ty s) (hX : va_X b L xs s s.heap) (hbb : b < base) (hbs : base ≤ s.heap.size) (hok : ∀ (g : Nat) (inf : xe_I), T[g]? = some inf → xe_ik inf ≤ 2 → xe_ok T inf) (hRf : d + 9 ≤ R.frames) (hRl : 64 * d + 464 ≤ R.locals) (hM : xe_Mets l D ty b base L xs T d) :
    ∀ g inf As z M P idx, T[g]? = some inf → xe_ik inf = 0 → As.length = xe_in inf → As.all xe_c1 = true → xe_okM own idx (xe_iy inf) → xe_Call T d g As z M P → xe_Ru p l e R s m args below meth c D ty b base L xs nL bs (.invokestatic idx) (xe_im inf) (xe_is inf) As z M P := by
  intro g inf As z M P idx hT hk hn hc1 hlk hcall H locs ls cells slots pc rest hS hH hls hcl hsl hcat hdg
  have ok := hok g inf hT (by omega)
  obtain ⟨o1, o2, o3, o4, o5, o6, o7, o8, o9, o10, o11⟩ := id ok
  have q1 := o9 hk
  have hMet := hM g inf As z M P hT (by omega) (by rw [if_pos hk, hn]; rfl) hc1 hcall
  have hws : ∀ w ∈ xe_ws inf, ∀ (a' : Array Value) (U : State), s.WarmedH U.vm → w.before a' U = true := pay_in hts (xe_ws_in ok)
  have hsig : ∀ sig, parseMethodDescriptor (xe_iy inf).desc = some sig → xe_in inf = sig.parameters.length := fun sig h => by
    have h2 := o4.2.2
    rw [h] at h2
    exact (Option.some.inj h2).symm
  have hrd : (xe_rm d inf).frames + 1 ≤ R.frames ∧ 8 + (xe_iL inf + 11) + (xe_rm d inf).locals ≤ R.locals := by
    show d + 8 + 1 ≤ R.frames ∧ 8 + (xe_iL inf + 11) + (64 * d + 400) ≤ R.locals
    omega
  have hp : PreS s H (xe_Pc D ty b base L xs As z M) (As.map (xe_v b base)) := ⟨xe_blind, fun U hU hW => xe_pcU hE hX hbb hbs hS hH U hU hW⟩
  refine ⟨(As.map (xe_v b base)).toArray, ?_⟩
  have hW8 : 2 * (F0 m pc ls ((As.map (xe_v b base)).reverse ++ rest)).monitorRoom + (rest.map fun v => v.category).sum ≤ 8 := by
    show 2 * 0 + _ ≤ 8
    omega
  rcases hlk with hlk | ⟨host, hlk⟩
  · exact va_runS (n := xe_in inf) ⟨hx, hb, hml, hown, hts⟩ hMet ⟨⟨rfl, rfl, hrd.1, hrd.2, hws, List.mem_cons_self, hts _ o1, hts _ o2, ⟨o4.1, o4.2.1⟩, hsig, hts _ hlk⟩, hts _ q1⟩ hp rfl (by rw [List.length_map]; exact hn) hls rfl hW8 hdg ⟨hcl, hsl⟩
  · exact va_runSN (n := xe_in inf) ⟨hx, hb, hml, hown, hts⟩ hMet ⟨⟨⟨rfl, rfl, hrd.1, hrd.2, hws, List.mem_cons_self⟩, hts _ o1, hts _ o2, ⟨o4.1, o4.2.1⟩, hsig, va_Nw.use rfl (hE.2.1 _ hlk)⟩, hts _ q1, trivial⟩ hp rfl (by rw [List.length_map]; exact hn) hls rfl hW8 hdg ⟨hcl, hsl⟩

set_option maxHeartbeats 4000000 in
/-- a call of the logic is a contract -/
theorem xe_met {T : List xe_I} (hok : ∀ (g : Nat) (inf : xe_I), T[g]? = some inf → xe_ik inf ≤ 2 → xe_ok T inf) (hno : ∀ (g : Nat) (inf : xe_I), T[g]? = some inf → xe_ik inf ≤ 2 → ∀ (i h : Nat), (xe_code inf)[i]? = some (Instr.invokestatic h) → ∀ inf' : xe_I, T[h]? = some inf' → xe_ik inf' ≠ 4) (hsys : xe_sys) : ∀ d, xe_Mets l D ty b base L xs T d
  | 0 => fun _ _ _ _ _ _ _ _ _ _ h => h.elim
  | d + 1 => by
    intro g inf a z M P hT hk ha hc1 hcall
    have IH := xe_met hok hno hsys d
    obtain ⟨inf', hT', hEv⟩ := hcall
    obtain rfl : inf' = inf := Option.some.inj (hT'.symm.trans hT)
    have ok := hok g inf' hT hk
    obtain ⟨o1, o2, o3, o4, o5, o6, o7, o8, o9, o10, cp, hcp, hchk⟩ := id ok
    refine Met.ofW (cc := xe_ib inf') (maxL := xe_iL inf') (ret := xe_ir inf') o3 rfl ?_
    intro p e s m args below meth c s₁ B hml hv
    obtain ⟨rfl, hE, hX, hbb, hbs, hH⟩ := hv
    have hts := atoms_spec (ws := xe_ws inf') B.pre
    have hts2 : ∀ w ∈ xe_good, w.before (a.map (xe_v b base)).toArray s = true := fun w hw => hts w (List.mem_cons_of_mem _ hw)
    have hown : s.vm.findClass (xe_iy inf').cls = some m.cls := findClass_of_methodNamed B.named
    have hname := (name_of_methodNamed B.named B.method).1
    have hcat : ∀ v ∈ a, v.category = 1 := fun v hv => xe_c1_cat (List.all_eq_true.mp hc1 v hv)
    have hcat2 : ∀ v ∈ a.map (xe_v b base), v.category = 1 := fun w hw => by
      obtain ⟨u, hu, rfl⟩ := List.mem_map.mp hw
      rw [xe_v_cat]
      exact hcat u hu
    have hlen : a.length ≤ xe_iL inf' := by omega
    have hl := lv_entry (a.map (xe_v b base)) (n := xe_iL inf') (by rw [xe_sl_len _ hcat2, List.length_map]; exact hlen)
    rw [lg_entry_eq]
    generalize (lg_sl (a.map (xe_v b base)) ++ List.replicate (xe_iL inf' - (lg_sl (a.map (xe_v b base))).length) Slot.unset).toArray = ls at hl ⊢
    have hl2 := xe_entry_l hcat hl
    have hRf : d + 9 ≤ (headSpec (xe_ws inf') (xe_rm (d + 1) inf')).room.frames := by show d + 9 ≤ d + 1 + 8; omega
    have hRl : 64 * d + 464 ≤ (headSpec (xe_ws inf') (xe_rm (d + 1) inf')).room.locals := by show 64 * d + 464 ≤ 64 * (d + 1) + 400; omega
    have hwid : ∀ {H : Heap} {locs : List Loc} {cells slots : Nat} {Qx : State → Prop} {gx : JFrame}, cells ≤ xe_im inf' → slots ≤ xe_is inf' → W p l e (headSpec (xe_ws inf') (xe_rm (d + 1) inf')).room s m (a.map (xe_v b base)).toArray below meth c H locs (xe_im inf') (xe_is inf') Qx gx → W p l e (headSpec (xe_ws inf') (xe_rm (d + 1) inf')).room s m (a.map (xe_v b base)).toArray below meth c H locs cells slots Qx gx := fun h1 h2 k => W.widen h1 h2 k
    have hend : ∀ {v : Option Value} {z : Nat} {M : xe_M} {H : Heap} {locs : List Loc}, P v z M → va_S (xe_A base) s.heap H locs → xe_H D ty b base L xs z M H → ∀ t : State, t.heap = H → s.WarmedH t.vm → xe_Qc D ty b base L xs P (a.map (xe_v b base)).toArray s (.returned (v.map (xe_v b base))) t := fun hp hS hH t ht _ => ⟨⟨_, _, _, rfl, hp, by rw [ht]; exact hH⟩, hS.F ht⟩
    have key := hEv (xe_X p l e (headSpec (xe_ws inf') (xe_rm (d + 1) inf')).room s m (a.map (xe_v b base)).toArray below meth c (MQ below (xe_Qc D ty b base L xs P) (a.map (xe_v b base)).toArray s (xe_im inf') (xe_is inf') (xe_A base)) D ty b base L xs (xe_iL inf') (xe_pcs inf'))
      (xe_sound (own := (xe_iy inf').cls) (kind := xe_ik inf') (ret := xe_ir inf') (cp := cp) B.exec B.bytes hml hown hts2 hE hX hbb hbs (fun q => by rw [hname]; exact (o8 q).2.1) hcp (by omega) (by omega) hsys.1 hsys.2.1 hsys.2.2
        (xe_callV B.exec B.bytes hml hown hts2 hE hX hbb hbs hok hRf hRl IH)
        (xe_callN B.exec B.bytes hml hown hts2 hE hX hbb hbs hok hRf hRl IH)
        (fun i2 g2 inf2 As z2 M2 P2 idx q0 q1 q2 q3 q4 q5 q6 => ?_)
        (fun x z2 M2 H locs ls cells slots pc hr hdg hq hS hH hc hs => ?_)
        (fun x z2 M2 H locs ls cells slots pc hr hx hdg hq hS hH hc hs => ?_)
        (fun z2 M2 H locs ls cells slots pc hr hdg hq hS hH hc hs => ?_)
        (fun i2 st2 z2 M2 H locs ls cells slots q7 => absurd q7 (by omega))
        (fun i2 g2 dl2 st2 kc2 ks2 z2 M2 q7 => absurd q7 (by omega))
        hchk)
      s.heap [] ls 0 0 va_S.rf hH hl2 (by unfold xe_entry; rw [List.length_append, List.length_replicate]; omega) (by show 0 + xe_im inf' ≤ xe_im inf'; omega) (by show 0 + xe_is inf' ≤ xe_is inf'; omega)
    · rw [o10] at key
      exact key
    · rcases q2 with q2 | q2
      · exact xe_callS B.exec B.bytes hml hown hts2 hE hX hbb hbs hok hRf hRl IH g2 inf2 As z2 M2 P2 idx q1 q2 q3 q4 q5 q6
      · exact absurd q2 (hno g inf' hT hk i2 g2 q0 inf2 q1)
    · exact hwid hc hs (W.iret B.exec B.bytes (by rw [← hr]; exact B.returns) (hend hq hS hH) hS.2.2 hdg B.notSynchronized)
    · exact hwid hc hs (W.zret B.exec B.bytes (by rw [← hr]; exact B.returns) (by rcases hx with rfl | rfl <;> decide) (hend hq hS hH) hS.2.2 hdg B.notSynchronized)
    · exact hwid hc hs (W.vret B.exec B.bytes (by rw [← hr]; exact B.returns) (hend hq hS hH) hS.2.2 hdg B.notSynchronized)
end XED
end
