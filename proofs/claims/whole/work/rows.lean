section
-- ===== PART A: goes FIRST, ahead of the names: the tables' words, and 'selects' of the private methods out of them =====
/-- a private method of a class that the tables say can be made, by its rows of tables_1 -/
def lw_okq (q : MethodName × Nat) : Prop := (q.1.cls ≠ "java/lang/invoke/MethodHandle" ∧ q.1.cls ≠ "java/lang/invoke/VarHandle") ∧ Cond.instantiable q.1.cls q.2 ∈ tables_1 ∧ Cond.privateMethod q.1 ∈ tables_1 ∧ Cond.instanceMethod q.1 ∈ tables_1
theorem lw_p0 : lw_okq (⟨"NinthDayHooded$Text", "hasRoomFor", "(I)Z"⟩, 2) := ⟨⟨by decide +kernel, by decide +kernel⟩, List.mem_of_getElem? (i := 31) (by decide +kernel), List.mem_of_getElem? (i := 399) (by decide +kernel), List.mem_of_getElem? (i := 400) (by decide +kernel)⟩
theorem lw_p1 : lw_okq (⟨"NinthDayHooded$Text", "add", "(I)V"⟩, 2) := ⟨⟨by decide +kernel, by decide +kernel⟩, List.mem_of_getElem? (i := 31) (by decide +kernel), List.mem_of_getElem? (i := 403) (by decide +kernel), List.mem_of_getElem? (i := 404) (by decide +kernel)⟩
theorem lw_p2 : lw_okq (⟨"NinthDayHooded", "townFault", "()I"⟩, 11) := ⟨⟨by decide +kernel, by decide +kernel⟩, List.mem_of_getElem? (i := 23) (by decide +kernel), List.mem_of_getElem? (i := 415) (by decide +kernel), List.mem_of_getElem? (i := 416) (by decide +kernel)⟩
theorem lw_p3 : lw_okq (⟨"NinthDayHooded$Text", "at", "(I)I"⟩, 2) := ⟨⟨by decide +kernel, by decide +kernel⟩, List.mem_of_getElem? (i := 31) (by decide +kernel), List.mem_of_getElem? (i := 422) (by decide +kernel), List.mem_of_getElem? (i := 423) (by decide +kernel)⟩
theorem lw_p4 : lw_okq (⟨"NinthDayHooded", "addLines", "()I"⟩, 11) := ⟨⟨by decide +kernel, by decide +kernel⟩, List.mem_of_getElem? (i := 23) (by decide +kernel), List.mem_of_getElem? (i := 429) (by decide +kernel), List.mem_of_getElem? (i := 430) (by decide +kernel)⟩
theorem lw_p5 : lw_okq (⟨"NinthDayHooded$Text", "startsPart", "(I)Z"⟩, 2) := ⟨⟨by decide +kernel, by decide +kernel⟩, List.mem_of_getElem? (i := 31) (by decide +kernel), List.mem_of_getElem? (i := 433) (by decide +kernel), List.mem_of_getElem? (i := 434) (by decide +kernel)⟩
theorem lw_p6 : lw_okq (⟨"NinthDayHooded$Text", "digitAt", "(I)I"⟩, 2) := ⟨⟨by decide +kernel, by decide +kernel⟩, List.mem_of_getElem? (i := 31) (by decide +kernel), List.mem_of_getElem? (i := 438) (by decide +kernel), List.mem_of_getElem? (i := 439) (by decide +kernel)⟩
theorem lw_p7 : lw_okq (⟨"NinthDayHooded", "tradesFrom", "(I)I"⟩, 11) := ⟨⟨by decide +kernel, by decide +kernel⟩, List.mem_of_getElem? (i := 23) (by decide +kernel), List.mem_of_getElem? (i := 442) (by decide +kernel), List.mem_of_getElem? (i := 443) (by decide +kernel)⟩
theorem lw_p8 : lw_okq (⟨"NinthDayHooded", "addPerson", "(III)V"⟩, 11) := ⟨⟨by decide +kernel, by decide +kernel⟩, List.mem_of_getElem? (i := 23) (by decide +kernel), List.mem_of_getElem? (i := 446) (by decide +kernel), List.mem_of_getElem? (i := 447) (by decide +kernel)⟩
theorem lw_p9 : lw_okq (⟨"NinthDayHooded$Past", "forgetUndos", "()V"⟩, 5) := ⟨⟨by decide +kernel, by decide +kernel⟩, List.mem_of_getElem? (i := 131) (by decide +kernel), List.mem_of_getElem? (i := 450) (by decide +kernel), List.mem_of_getElem? (i := 451) (by decide +kernel)⟩
theorem lw_p10 : lw_okq (⟨"NinthDayHooded$People", "has", "(I)Z"⟩, 5) := ⟨⟨by decide +kernel, by decide +kernel⟩, List.mem_of_getElem? (i := 62) (by decide +kernel), List.mem_of_getElem? (i := 458) (by decide +kernel), List.mem_of_getElem? (i := 459) (by decide +kernel)⟩
theorem lw_p11 : lw_okq (⟨"NinthDayHooded$Text", "digitsFault", "(I)I"⟩, 2) := ⟨⟨by decide +kernel, by decide +kernel⟩, List.mem_of_getElem? (i := 31) (by decide +kernel), List.mem_of_getElem? (i := 462) (by decide +kernel), List.mem_of_getElem? (i := 463) (by decide +kernel)⟩
theorem lw_p12 : lw_okq (⟨"NinthDayHooded$Rule", "read", "(LNinthDayHooded$Text;)I"⟩, 12) := ⟨⟨by decide +kernel, by decide +kernel⟩, List.mem_of_getElem? (i := 159) (by decide +kernel), List.mem_of_getElem? (i := 475) (by decide +kernel), List.mem_of_getElem? (i := 476) (by decide +kernel)⟩
theorem lw_p13 : lw_okq (⟨"NinthDayHooded$Rule", "begin", "()V"⟩, 12) := ⟨⟨by decide +kernel, by decide +kernel⟩, List.mem_of_getElem? (i := 159) (by decide +kernel), List.mem_of_getElem? (i := 479) (by decide +kernel), List.mem_of_getElem? (i := 480) (by decide +kernel)⟩
theorem lw_p14 : lw_okq (⟨"NinthDayHooded$Rule", "takesAhead", "(I)Z"⟩, 12) := ⟨⟨by decide +kernel, by decide +kernel⟩, List.mem_of_getElem? (i := 159) (by decide +kernel), List.mem_of_getElem? (i := 485) (by decide +kernel), List.mem_of_getElem? (i := 486) (by decide +kernel)⟩
theorem lw_p15 : lw_okq (⟨"NinthDayHooded$Rule", "hold", "(I)V"⟩, 12) := ⟨⟨by decide +kernel, by decide +kernel⟩, List.mem_of_getElem? (i := 159) (by decide +kernel), List.mem_of_getElem? (i := 489) (by decide +kernel), List.mem_of_getElem? (i := 490) (by decide +kernel)⟩
def lw_privs_1 : List (MethodName × Nat) := [(⟨"NinthDayHooded$Text", "hasRoomFor", "(I)Z"⟩, 2), (⟨"NinthDayHooded$Text", "add", "(I)V"⟩, 2), (⟨"NinthDayHooded", "townFault", "()I"⟩, 11), (⟨"NinthDayHooded$Text", "at", "(I)I"⟩, 2), (⟨"NinthDayHooded", "addLines", "()I"⟩, 11), (⟨"NinthDayHooded$Text", "startsPart", "(I)Z"⟩, 2), (⟨"NinthDayHooded$Text", "digitAt", "(I)I"⟩, 2), (⟨"NinthDayHooded", "tradesFrom", "(I)I"⟩, 11), (⟨"NinthDayHooded", "addPerson", "(III)V"⟩, 11), (⟨"NinthDayHooded$Past", "forgetUndos", "()V"⟩, 5), (⟨"NinthDayHooded$People", "has", "(I)Z"⟩, 5), (⟨"NinthDayHooded$Text", "digitsFault", "(I)I"⟩, 2), (⟨"NinthDayHooded$Rule", "read", "(LNinthDayHooded$Text;)I"⟩, 12), (⟨"NinthDayHooded$Rule", "begin", "()V"⟩, 12), (⟨"NinthDayHooded$Rule", "takesAhead", "(I)Z"⟩, 12), (⟨"NinthDayHooded$Rule", "hold", "(I)V"⟩, 12)]
theorem lw_r1 : ∀ q ∈ lw_privs_1, lw_okq q := List.forall_mem_cons.mpr ⟨lw_p0, List.forall_mem_cons.mpr ⟨lw_p1, List.forall_mem_cons.mpr ⟨lw_p2, List.forall_mem_cons.mpr ⟨lw_p3, List.forall_mem_cons.mpr ⟨lw_p4, List.forall_mem_cons.mpr ⟨lw_p5, List.forall_mem_cons.mpr ⟨lw_p6, List.forall_mem_cons.mpr ⟨lw_p7, List.forall_mem_cons.mpr ⟨lw_p8, List.forall_mem_cons.mpr ⟨lw_p9, List.forall_mem_cons.mpr ⟨lw_p10, List.forall_mem_cons.mpr ⟨lw_p11, List.forall_mem_cons.mpr ⟨lw_p12, List.forall_mem_cons.mpr ⟨lw_p13, List.forall_mem_cons.mpr ⟨lw_p14, List.forall_mem_cons.mpr ⟨lw_p15, fun _ h => absurd h List.not_mem_nil⟩⟩⟩⟩⟩⟩⟩⟩⟩⟩⟩⟩⟩⟩⟩⟩
theorem lw_p16 : lw_okq (⟨"NinthDayHooded$Rule", "opens", "()Z"⟩, 12) := ⟨⟨by decide +kernel, by decide +kernel⟩, List.mem_of_getElem? (i := 159) (by decide +kernel), List.mem_of_getElem? (i := 493) (by decide +kernel), List.mem_of_getElem? (i := 494) (by decide +kernel)⟩
theorem lw_p17 : lw_okq (⟨"NinthDayHooded$Rule", "put", "(I)V"⟩, 12) := ⟨⟨by decide +kernel, by decide +kernel⟩, List.mem_of_getElem? (i := 159) (by decide +kernel), List.mem_of_getElem? (i := 497) (by decide +kernel), List.mem_of_getElem? (i := 498) (by decide +kernel)⟩
theorem lw_p18 : lw_okq (⟨"NinthDayHooded$Rule", "takesBehind", "(I)Z"⟩, 12) := ⟨⟨by decide +kernel, by decide +kernel⟩, List.mem_of_getElem? (i := 159) (by decide +kernel), List.mem_of_getElem? (i := 504) (by decide +kernel), List.mem_of_getElem? (i := 505) (by decide +kernel)⟩
theorem lw_p19 : lw_okq (⟨"NinthDayHooded$Rule", "lengthens", "(I)Z"⟩, 12) := ⟨⟨by decide +kernel, by decide +kernel⟩, List.mem_of_getElem? (i := 159) (by decide +kernel), List.mem_of_getElem? (i := 508) (by decide +kernel), List.mem_of_getElem? (i := 509) (by decide +kernel)⟩
theorem lw_p20 : lw_okq (⟨"NinthDayHooded$Rule", "closes", "()Z"⟩, 12) := ⟨⟨by decide +kernel, by decide +kernel⟩, List.mem_of_getElem? (i := 159) (by decide +kernel), List.mem_of_getElem? (i := 512) (by decide +kernel), List.mem_of_getElem? (i := 513) (by decide +kernel)⟩
theorem lw_p21 : lw_okq (⟨"NinthDayHooded$Rule", "putWaiting", "(I)V"⟩, 12) := ⟨⟨by decide +kernel, by decide +kernel⟩, List.mem_of_getElem? (i := 159) (by decide +kernel), List.mem_of_getElem? (i := 516) (by decide +kernel), List.mem_of_getElem? (i := 517) (by decide +kernel)⟩
theorem lw_p22 : lw_okq (⟨"NinthDayHooded$People", "hasTwo", "(II)Z"⟩, 5) := ⟨⟨by decide +kernel, by decide +kernel⟩, List.mem_of_getElem? (i := 62) (by decide +kernel), List.mem_of_getElem? (i := 533) (by decide +kernel), List.mem_of_getElem? (i := 534) (by decide +kernel)⟩
theorem lw_p23 : lw_okq (⟨"NinthDayHooded$Guides", "find", "(LNinthDayHooded$People;LNinthDayHooded$Rule;LNinthDayHooded$State;I)V"⟩, 9) := ⟨⟨by decide +kernel, by decide +kernel⟩, List.mem_of_getElem? (i := 209) (by decide +kernel), List.mem_of_getElem? (i := 567) (by decide +kernel), List.mem_of_getElem? (i := 568) (by decide +kernel)⟩
theorem lw_p24 : lw_okq (⟨"NinthDayHooded$Guides", "setPrices", "(LNinthDayHooded$People;LNinthDayHooded$Rule;LNinthDayHooded$State;II)V"⟩, 9) := ⟨⟨by decide +kernel, by decide +kernel⟩, List.mem_of_getElem? (i := 209) (by decide +kernel), List.mem_of_getElem? (i := 571) (by decide +kernel), List.mem_of_getElem? (i := 572) (by decide +kernel)⟩
theorem lw_p25 : lw_okq (⟨"NinthDayHooded$Rule", "bringThings", "(LNinthDayHooded$People;LNinthDayHooded$State;III)V"⟩, 12) := ⟨⟨by decide +kernel, by decide +kernel⟩, List.mem_of_getElem? (i := 159) (by decide +kernel), List.mem_of_getElem? (i := 575) (by decide +kernel), List.mem_of_getElem? (i := 576) (by decide +kernel)⟩
theorem lw_p26 : lw_okq (⟨"NinthDayHooded$Rule", "price", "()I"⟩, 12) := ⟨⟨by decide +kernel, by decide +kernel⟩, List.mem_of_getElem? (i := 159) (by decide +kernel), List.mem_of_getElem? (i := 591) (by decide +kernel), List.mem_of_getElem? (i := 592) (by decide +kernel)⟩
theorem lw_p27 : lw_okq (⟨"NinthDayHooded$Guides", "cheapest", "(I)I"⟩, 9) := ⟨⟨by decide +kernel, by decide +kernel⟩, List.mem_of_getElem? (i := 209) (by decide +kernel), List.mem_of_getElem? (i := 599) (by decide +kernel), List.mem_of_getElem? (i := 600) (by decide +kernel)⟩
theorem lw_p28 : lw_okq (⟨"NinthDayHooded$Guides", "choose", "(II)V"⟩, 9) := ⟨⟨by decide +kernel, by decide +kernel⟩, List.mem_of_getElem? (i := 209) (by decide +kernel), List.mem_of_getElem? (i := 603) (by decide +kernel), List.mem_of_getElem? (i := 604) (by decide +kernel)⟩
theorem lw_p29 : lw_okq (⟨"NinthDayHooded$Row", "clear", "()V"⟩, 2) := ⟨⟨by decide +kernel, by decide +kernel⟩, List.mem_of_getElem? (i := 47) (by decide +kernel), List.mem_of_getElem? (i := 608) (by decide +kernel), List.mem_of_getElem? (i := 609) (by decide +kernel)⟩
theorem lw_p30 : lw_okq (⟨"NinthDayHooded$Guides", "price", "()I"⟩, 9) := ⟨⟨by decide +kernel, by decide +kernel⟩, List.mem_of_getElem? (i := 209) (by decide +kernel), List.mem_of_getElem? (i := 612) (by decide +kernel), List.mem_of_getElem? (i := 613) (by decide +kernel)⟩
theorem lw_p31 : lw_okq (⟨"NinthDayHooded$Row", "put", "(I)V"⟩, 2) := ⟨⟨by decide +kernel, by decide +kernel⟩, List.mem_of_getElem? (i := 47) (by decide +kernel), List.mem_of_getElem? (i := 616) (by decide +kernel), List.mem_of_getElem? (i := 617) (by decide +kernel)⟩
def lw_privs_2 : List (MethodName × Nat) := [(⟨"NinthDayHooded$Rule", "opens", "()Z"⟩, 12), (⟨"NinthDayHooded$Rule", "put", "(I)V"⟩, 12), (⟨"NinthDayHooded$Rule", "takesBehind", "(I)Z"⟩, 12), (⟨"NinthDayHooded$Rule", "lengthens", "(I)Z"⟩, 12), (⟨"NinthDayHooded$Rule", "closes", "()Z"⟩, 12), (⟨"NinthDayHooded$Rule", "putWaiting", "(I)V"⟩, 12), (⟨"NinthDayHooded$People", "hasTwo", "(II)Z"⟩, 5), (⟨"NinthDayHooded$Guides", "find", "(LNinthDayHooded$People;LNinthDayHooded$Rule;LNinthDayHooded$State;I)V"⟩, 9), (⟨"NinthDayHooded$Guides", "setPrices", "(LNinthDayHooded$People;LNinthDayHooded$Rule;LNinthDayHooded$State;II)V"⟩, 9), (⟨"NinthDayHooded$Rule", "bringThings", "(LNinthDayHooded$People;LNinthDayHooded$State;III)V"⟩, 12), (⟨"NinthDayHooded$Rule", "price", "()I"⟩, 12), (⟨"NinthDayHooded$Guides", "cheapest", "(I)I"⟩, 9), (⟨"NinthDayHooded$Guides", "choose", "(II)V"⟩, 9), (⟨"NinthDayHooded$Row", "clear", "()V"⟩, 2), (⟨"NinthDayHooded$Guides", "price", "()I"⟩, 9), (⟨"NinthDayHooded$Row", "put", "(I)V"⟩, 2)]
theorem lw_r2 : ∀ q ∈ lw_privs_2, lw_okq q := List.forall_mem_cons.mpr ⟨lw_p16, List.forall_mem_cons.mpr ⟨lw_p17, List.forall_mem_cons.mpr ⟨lw_p18, List.forall_mem_cons.mpr ⟨lw_p19, List.forall_mem_cons.mpr ⟨lw_p20, List.forall_mem_cons.mpr ⟨lw_p21, List.forall_mem_cons.mpr ⟨lw_p22, List.forall_mem_cons.mpr ⟨lw_p23, List.forall_mem_cons.mpr ⟨lw_p24, List.forall_mem_cons.mpr ⟨lw_p25, List.forall_mem_cons.mpr ⟨lw_p26, List.forall_mem_cons.mpr ⟨lw_p27, List.forall_mem_cons.mpr ⟨lw_p28, List.forall_mem_cons.mpr ⟨lw_p29, List.forall_mem_cons.mpr ⟨lw_p30, List.forall_mem_cons.mpr ⟨lw_p31, fun _ h => absurd h List.not_mem_nil⟩⟩⟩⟩⟩⟩⟩⟩⟩⟩⟩⟩⟩⟩⟩⟩
theorem lw_p32 : lw_okq (⟨"NinthDayHooded$State", "hoodedOn", "(II)I"⟩, 6) := ⟨⟨by decide +kernel, by decide +kernel⟩, List.mem_of_getElem? (i := 94) (by decide +kernel), List.mem_of_getElem? (i := 620) (by decide +kernel), List.mem_of_getElem? (i := 621) (by decide +kernel)⟩
theorem lw_p33 : lw_okq (⟨"NinthDayHooded$Guides", "nobody", "()I"⟩, 9) := ⟨⟨by decide +kernel, by decide +kernel⟩, List.mem_of_getElem? (i := 209) (by decide +kernel), List.mem_of_getElem? (i := 624) (by decide +kernel), List.mem_of_getElem? (i := 625) (by decide +kernel)⟩
theorem lw_p34 : lw_okq (⟨"NinthDayHooded$Guides", "withoutAny", "()I"⟩, 9) := ⟨⟨by decide +kernel, by decide +kernel⟩, List.mem_of_getElem? (i := 209) (by decide +kernel), List.mem_of_getElem? (i := 632) (by decide +kernel), List.mem_of_getElem? (i := 633) (by decide +kernel)⟩
theorem lw_p35 : lw_okq (⟨"NinthDayHooded$Guides", "unled", "()I"⟩, 9) := ⟨⟨by decide +kernel, by decide +kernel⟩, List.mem_of_getElem? (i := 209) (by decide +kernel), List.mem_of_getElem? (i := 636) (by decide +kernel), List.mem_of_getElem? (i := 637) (by decide +kernel)⟩
theorem lw_p36 : lw_okq (⟨"NinthDayHooded", "goDays", "(I)I"⟩, 11) := ⟨⟨by decide +kernel, by decide +kernel⟩, List.mem_of_getElem? (i := 23) (by decide +kernel), List.mem_of_getElem? (i := 648) (by decide +kernel), List.mem_of_getElem? (i := 649) (by decide +kernel)⟩
theorem lw_p37 : lw_okq (⟨"NinthDayHooded$Past", "remember", "(LNinthDayHooded$State;)V"⟩, 5) := ⟨⟨by decide +kernel, by decide +kernel⟩, List.mem_of_getElem? (i := 131) (by decide +kernel), List.mem_of_getElem? (i := 652) (by decide +kernel), List.mem_of_getElem? (i := 653) (by decide +kernel)⟩
theorem lw_p38 : lw_okq (⟨"NinthDayHooded$State", "copyFrom", "(LNinthDayHooded$State;)V"⟩, 6) := ⟨⟨by decide +kernel, by decide +kernel⟩, List.mem_of_getElem? (i := 94) (by decide +kernel), List.mem_of_getElem? (i := 656) (by decide +kernel), List.mem_of_getElem? (i := 657) (by decide +kernel)⟩
theorem lw_p39 : lw_okq (⟨"NinthDayHooded$Walk", "begin", "()V"⟩, 5) := ⟨⟨by decide +kernel, by decide +kernel⟩, List.mem_of_getElem? (i := 203) (by decide +kernel), List.mem_of_getElem? (i := 662) (by decide +kernel), List.mem_of_getElem? (i := 663) (by decide +kernel)⟩
theorem lw_p40 : lw_okq (⟨"NinthDayHooded$Walk", "passAll", "(LNinthDayHooded$People;LNinthDayHooded$Rule;LNinthDayHooded$State;I)V"⟩, 5) := ⟨⟨by decide +kernel, by decide +kernel⟩, List.mem_of_getElem? (i := 203) (by decide +kernel), List.mem_of_getElem? (i := 669) (by decide +kernel), List.mem_of_getElem? (i := 670) (by decide +kernel)⟩
theorem lw_p41 : lw_okq (⟨"NinthDayHooded$State", "openPage", "(I)V"⟩, 6) := ⟨⟨by decide +kernel, by decide +kernel⟩, List.mem_of_getElem? (i := 94) (by decide +kernel), List.mem_of_getElem? (i := 674) (by decide +kernel), List.mem_of_getElem? (i := 675) (by decide +kernel)⟩
theorem lw_p42 : lw_okq (⟨"NinthDayHooded$Walk", "followGuides", "(LNinthDayHooded$State;)V"⟩, 5) := ⟨⟨by decide +kernel, by decide +kernel⟩, List.mem_of_getElem? (i := 203) (by decide +kernel), List.mem_of_getElem? (i := 678) (by decide +kernel), List.mem_of_getElem? (i := 679) (by decide +kernel)⟩
theorem lw_p43 : lw_okq (⟨"NinthDayHooded$State", "write", "(II)V"⟩, 6) := ⟨⟨by decide +kernel, by decide +kernel⟩, List.mem_of_getElem? (i := 94) (by decide +kernel), List.mem_of_getElem? (i := 682) (by decide +kernel), List.mem_of_getElem? (i := 683) (by decide +kernel)⟩
theorem lw_p44 : lw_okq (⟨"NinthDayHooded$State", "learn", "(II)I"⟩, 6) := ⟨⟨by decide +kernel, by decide +kernel⟩, List.mem_of_getElem? (i := 94) (by decide +kernel), List.mem_of_getElem? (i := 686) (by decide +kernel), List.mem_of_getElem? (i := 687) (by decide +kernel)⟩
theorem lw_p45 : lw_okq (⟨"NinthDayHooded", "seasonFault", "()I"⟩, 11) := ⟨⟨by decide +kernel, by decide +kernel⟩, List.mem_of_getElem? (i := 23) (by decide +kernel), List.mem_of_getElem? (i := 699) (by decide +kernel), List.mem_of_getElem? (i := 700) (by decide +kernel)⟩
theorem lw_p46 : lw_okq (⟨"NinthDayHooded", "canAct", "(I)Z"⟩, 11) := ⟨⟨by decide +kernel, by decide +kernel⟩, List.mem_of_getElem? (i := 23) (by decide +kernel), List.mem_of_getElem? (i := 712) (by decide +kernel), List.mem_of_getElem? (i := 713) (by decide +kernel)⟩
theorem lw_p47 : lw_okq (⟨"NinthDayHooded", "act", "(I)V"⟩, 11) := ⟨⟨by decide +kernel, by decide +kernel⟩, List.mem_of_getElem? (i := 23) (by decide +kernel), List.mem_of_getElem? (i := 716) (by decide +kernel), List.mem_of_getElem? (i := 717) (by decide +kernel)⟩
def lw_privs_3 : List (MethodName × Nat) := [(⟨"NinthDayHooded$State", "hoodedOn", "(II)I"⟩, 6), (⟨"NinthDayHooded$Guides", "nobody", "()I"⟩, 9), (⟨"NinthDayHooded$Guides", "withoutAny", "()I"⟩, 9), (⟨"NinthDayHooded$Guides", "unled", "()I"⟩, 9), (⟨"NinthDayHooded", "goDays", "(I)I"⟩, 11), (⟨"NinthDayHooded$Past", "remember", "(LNinthDayHooded$State;)V"⟩, 5), (⟨"NinthDayHooded$State", "copyFrom", "(LNinthDayHooded$State;)V"⟩, 6), (⟨"NinthDayHooded$Walk", "begin", "()V"⟩, 5), (⟨"NinthDayHooded$Walk", "passAll", "(LNinthDayHooded$People;LNinthDayHooded$Rule;LNinthDayHooded$State;I)V"⟩, 5), (⟨"NinthDayHooded$State", "openPage", "(I)V"⟩, 6), (⟨"NinthDayHooded$Walk", "followGuides", "(LNinthDayHooded$State;)V"⟩, 5), (⟨"NinthDayHooded$State", "write", "(II)V"⟩, 6), (⟨"NinthDayHooded$State", "learn", "(II)I"⟩, 6), (⟨"NinthDayHooded", "seasonFault", "()I"⟩, 11), (⟨"NinthDayHooded", "canAct", "(I)Z"⟩, 11), (⟨"NinthDayHooded", "act", "(I)V"⟩, 11)]
theorem lw_r3 : ∀ q ∈ lw_privs_3, lw_okq q := List.forall_mem_cons.mpr ⟨lw_p32, List.forall_mem_cons.mpr ⟨lw_p33, List.forall_mem_cons.mpr ⟨lw_p34, List.forall_mem_cons.mpr ⟨lw_p35, List.forall_mem_cons.mpr ⟨lw_p36, List.forall_mem_cons.mpr ⟨lw_p37, List.forall_mem_cons.mpr ⟨lw_p38, List.forall_mem_cons.mpr ⟨lw_p39, List.forall_mem_cons.mpr ⟨lw_p40, List.forall_mem_cons.mpr ⟨lw_p41, List.forall_mem_cons.mpr ⟨lw_p42, List.forall_mem_cons.mpr ⟨lw_p43, List.forall_mem_cons.mpr ⟨lw_p44, List.forall_mem_cons.mpr ⟨lw_p45, List.forall_mem_cons.mpr ⟨lw_p46, List.forall_mem_cons.mpr ⟨lw_p47, fun _ h => absurd h List.not_mem_nil⟩⟩⟩⟩⟩⟩⟩⟩⟩⟩⟩⟩⟩⟩⟩⟩
theorem lw_p48 : lw_okq (⟨"NinthDayHooded$State", "swapHoods", "(II)V"⟩, 6) := ⟨⟨by decide +kernel, by decide +kernel⟩, List.mem_of_getElem? (i := 94) (by decide +kernel), List.mem_of_getElem? (i := 720) (by decide +kernel), List.mem_of_getElem? (i := 721) (by decide +kernel)⟩
theorem lw_p49 : lw_okq (⟨"NinthDayHooded$Past", "takeBack", "(LNinthDayHooded$State;)Z"⟩, 5) := ⟨⟨by decide +kernel, by decide +kernel⟩, List.mem_of_getElem? (i := 131) (by decide +kernel), List.mem_of_getElem? (i := 728) (by decide +kernel), List.mem_of_getElem? (i := 729) (by decide +kernel)⟩
theorem lw_p50 : lw_okq (⟨"NinthDayHooded$State", "entry", "(II)I"⟩, 6) := ⟨⟨by decide +kernel, by decide +kernel⟩, List.mem_of_getElem? (i := 94) (by decide +kernel), List.mem_of_getElem? (i := 736) (by decide +kernel), List.mem_of_getElem? (i := 737) (by decide +kernel)⟩
theorem lw_p51 : lw_okq (⟨"NinthDayHooded$State", "bookDays", "()I"⟩, 6) := ⟨⟨by decide +kernel, by decide +kernel⟩, List.mem_of_getElem? (i := 94) (by decide +kernel), List.mem_of_getElem? (i := 747) (by decide +kernel), List.mem_of_getElem? (i := 748) (by decide +kernel)⟩
theorem lw_p52 : lw_okq (⟨"NinthDayHooded$State", "hasTrade", "(II)Z"⟩, 6) := ⟨⟨by decide +kernel, by decide +kernel⟩, List.mem_of_getElem? (i := 94) (by decide +kernel), List.mem_of_getElem? (i := 761) (by decide +kernel), List.mem_of_getElem? (i := 762) (by decide +kernel)⟩
theorem lw_p53 : lw_okq (⟨"NinthDayHooded$Tasks", "add", "(II)V"⟩, 11) := ⟨⟨by decide +kernel, by decide +kernel⟩, List.mem_of_getElem? (i := 270) (by decide +kernel), List.mem_of_getElem? (i := 769) (by decide +kernel), List.mem_of_getElem? (i := 770) (by decide +kernel)⟩
theorem lw_p54 : lw_okq (⟨"NinthDayHooded$Tasks", "look", "(LNinthDayHooded$State;I)V"⟩, 11) := ⟨⟨by decide +kernel, by decide +kernel⟩, List.mem_of_getElem? (i := 270) (by decide +kernel), List.mem_of_getElem? (i := 784) (by decide +kernel), List.mem_of_getElem? (i := 785) (by decide +kernel)⟩
theorem lw_p55 : lw_okq (⟨"NinthDayHooded$Tasks", "seeing", "(I)I"⟩, 11) := ⟨⟨by decide +kernel, by decide +kernel⟩, List.mem_of_getElem? (i := 270) (by decide +kernel), List.mem_of_getElem? (i := 791) (by decide +kernel), List.mem_of_getElem? (i := 792) (by decide +kernel)⟩
theorem lw_p56 : lw_okq (⟨"NinthDayHooded$Tasks", "wanting", "(I)I"⟩, 11) := ⟨⟨by decide +kernel, by decide +kernel⟩, List.mem_of_getElem? (i := 270) (by decide +kernel), List.mem_of_getElem? (i := 796) (by decide +kernel), List.mem_of_getElem? (i := 797) (by decide +kernel)⟩
theorem lw_p57 : lw_okq (⟨"NinthDayHooded$Tasks", "wantingWith", "(II)I"⟩, 11) := ⟨⟨by decide +kernel, by decide +kernel⟩, List.mem_of_getElem? (i := 270) (by decide +kernel), List.mem_of_getElem? (i := 800) (by decide +kernel), List.mem_of_getElem? (i := 801) (by decide +kernel)⟩
theorem lw_p58 : lw_okq (⟨"NinthDayHooded$Tasks", "wantingInAll", "()I"⟩, 11) := ⟨⟨by decide +kernel, by decide +kernel⟩, List.mem_of_getElem? (i := 270) (by decide +kernel), List.mem_of_getElem? (i := 810) (by decide +kernel), List.mem_of_getElem? (i := 811) (by decide +kernel)⟩
theorem lw_p59 : lw_okq (⟨"NinthDayHooded$Tasks", "fewestMoves", "(LNinthDayHooded$State;I)I"⟩, 11) := ⟨⟨by decide +kernel, by decide +kernel⟩, List.mem_of_getElem? (i := 270) (by decide +kernel), List.mem_of_getElem? (i := 824) (by decide +kernel), List.mem_of_getElem? (i := 825) (by decide +kernel)⟩
theorem lw_p60 : lw_okq (⟨"NinthDayHooded$Tasks", "mannedBy", "(LNinthDayHooded$State;IIII)Z"⟩, 11) := ⟨⟨by decide +kernel, by decide +kernel⟩, List.mem_of_getElem? (i := 270) (by decide +kernel), List.mem_of_getElem? (i := 829) (by decide +kernel), List.mem_of_getElem? (i := 830) (by decide +kernel)⟩
theorem lw_p61 : lw_okq (⟨"NinthDayHooded$Tasks", "allManned", "()Z"⟩, 11) := ⟨⟨by decide +kernel, by decide +kernel⟩, List.mem_of_getElem? (i := 270) (by decide +kernel), List.mem_of_getElem? (i := 833) (by decide +kernel), List.mem_of_getElem? (i := 834) (by decide +kernel)⟩
theorem lw_p62 : lw_okq (⟨"NinthDayHooded$Tasks", "move", "(III)V"⟩, 11) := ⟨⟨by decide +kernel, by decide +kernel⟩, List.mem_of_getElem? (i := 270) (by decide +kernel), List.mem_of_getElem? (i := 837) (by decide +kernel), List.mem_of_getElem? (i := 838) (by decide +kernel)⟩
theorem lw_p63 : lw_okq (⟨"NinthDayHooded", "tellMoves", "(I)V"⟩, 11) := ⟨⟨by decide +kernel, by decide +kernel⟩, List.mem_of_getElem? (i := 23) (by decide +kernel), List.mem_of_getElem? (i := 841) (by decide +kernel), List.mem_of_getElem? (i := 842) (by decide +kernel)⟩
def lw_privs_4 : List (MethodName × Nat) := [(⟨"NinthDayHooded$State", "swapHoods", "(II)V"⟩, 6), (⟨"NinthDayHooded$Past", "takeBack", "(LNinthDayHooded$State;)Z"⟩, 5), (⟨"NinthDayHooded$State", "entry", "(II)I"⟩, 6), (⟨"NinthDayHooded$State", "bookDays", "()I"⟩, 6), (⟨"NinthDayHooded$State", "hasTrade", "(II)Z"⟩, 6), (⟨"NinthDayHooded$Tasks", "add", "(II)V"⟩, 11), (⟨"NinthDayHooded$Tasks", "look", "(LNinthDayHooded$State;I)V"⟩, 11), (⟨"NinthDayHooded$Tasks", "seeing", "(I)I"⟩, 11), (⟨"NinthDayHooded$Tasks", "wanting", "(I)I"⟩, 11), (⟨"NinthDayHooded$Tasks", "wantingWith", "(II)I"⟩, 11), (⟨"NinthDayHooded$Tasks", "wantingInAll", "()I"⟩, 11), (⟨"NinthDayHooded$Tasks", "fewestMoves", "(LNinthDayHooded$State;I)I"⟩, 11), (⟨"NinthDayHooded$Tasks", "mannedBy", "(LNinthDayHooded$State;IIII)Z"⟩, 11), (⟨"NinthDayHooded$Tasks", "allManned", "()Z"⟩, 11), (⟨"NinthDayHooded$Tasks", "move", "(III)V"⟩, 11), (⟨"NinthDayHooded", "tellMoves", "(I)V"⟩, 11)]
theorem lw_r4 : ∀ q ∈ lw_privs_4, lw_okq q := List.forall_mem_cons.mpr ⟨lw_p48, List.forall_mem_cons.mpr ⟨lw_p49, List.forall_mem_cons.mpr ⟨lw_p50, List.forall_mem_cons.mpr ⟨lw_p51, List.forall_mem_cons.mpr ⟨lw_p52, List.forall_mem_cons.mpr ⟨lw_p53, List.forall_mem_cons.mpr ⟨lw_p54, List.forall_mem_cons.mpr ⟨lw_p55, List.forall_mem_cons.mpr ⟨lw_p56, List.forall_mem_cons.mpr ⟨lw_p57, List.forall_mem_cons.mpr ⟨lw_p58, List.forall_mem_cons.mpr ⟨lw_p59, List.forall_mem_cons.mpr ⟨lw_p60, List.forall_mem_cons.mpr ⟨lw_p61, List.forall_mem_cons.mpr ⟨lw_p62, List.forall_mem_cons.mpr ⟨lw_p63, fun _ h => absurd h List.not_mem_nil⟩⟩⟩⟩⟩⟩⟩⟩⟩⟩⟩⟩⟩⟩⟩⟩
theorem lw_p64 : lw_okq (⟨"NinthDayHooded$State", "living", "(III)I"⟩, 6) := ⟨⟨by decide +kernel, by decide +kernel⟩, List.mem_of_getElem? (i := 94) (by decide +kernel), List.mem_of_getElem? (i := 865) (by decide +kernel), List.mem_of_getElem? (i := 866) (by decide +kernel)⟩
theorem lw_p65 : lw_okq (⟨"NinthDayHooded$Wishes", "add", "(III)V"⟩, 6) := ⟨⟨by decide +kernel, by decide +kernel⟩, List.mem_of_getElem? (i := 314) (by decide +kernel), List.mem_of_getElem? (i := 874) (by decide +kernel), List.mem_of_getElem? (i := 875) (by decide +kernel)⟩
theorem lw_p66 : lw_okq (⟨"NinthDayHooded$Wishes", "metBy", "([I)I"⟩, 6) := ⟨⟨by decide +kernel, by decide +kernel⟩, List.mem_of_getElem? (i := 314) (by decide +kernel), List.mem_of_getElem? (i := 886) (by decide +kernel), List.mem_of_getElem? (i := 887) (by decide +kernel)⟩
theorem lw_p67 : lw_okq (⟨"NinthDayHooded$Wishes", "isMet", "([II)Z"⟩, 6) := ⟨⟨by decide +kernel, by decide +kernel⟩, List.mem_of_getElem? (i := 314) (by decide +kernel), List.mem_of_getElem? (i := 890) (by decide +kernel), List.mem_of_getElem? (i := 891) (by decide +kernel)⟩
theorem lw_p68 : lw_okq (⟨"NinthDayHooded$Wishes", "canAllBeMet", "(I)Z"⟩, 6) := ⟨⟨by decide +kernel, by decide +kernel⟩, List.mem_of_getElem? (i := 314) (by decide +kernel), List.mem_of_getElem? (i := 903) (by decide +kernel), List.mem_of_getElem? (i := 904) (by decide +kernel)⟩
theorem lw_p69 : lw_okq (⟨"NinthDayHooded$Wishes", "join", "(III)V"⟩, 6) := ⟨⟨by decide +kernel, by decide +kernel⟩, List.mem_of_getElem? (i := 314) (by decide +kernel), List.mem_of_getElem? (i := 907) (by decide +kernel), List.mem_of_getElem? (i := 908) (by decide +kernel)⟩
theorem lw_p70 : lw_okq (⟨"NinthDayHooded$Wishes", "fewestColours", "(I)I"⟩, 6) := ⟨⟨by decide +kernel, by decide +kernel⟩, List.mem_of_getElem? (i := 314) (by decide +kernel), List.mem_of_getElem? (i := 911) (by decide +kernel), List.mem_of_getElem? (i := 912) (by decide +kernel)⟩
theorem lw_p71 : lw_okq (⟨"NinthDayHooded$Wishes", "coloursFrom", "(IIII)Z"⟩, 6) := ⟨⟨by decide +kernel, by decide +kernel⟩, List.mem_of_getElem? (i := 314) (by decide +kernel), List.mem_of_getElem? (i := 915) (by decide +kernel), List.mem_of_getElem? (i := 916) (by decide +kernel)⟩
theorem lw_p72 : lw_okq (⟨"NinthDayHooded$Wishes", "fits", "(I)Z"⟩, 6) := ⟨⟨by decide +kernel, by decide +kernel⟩, List.mem_of_getElem? (i := 314) (by decide +kernel), List.mem_of_getElem? (i := 920) (by decide +kernel), List.mem_of_getElem? (i := 921) (by decide +kernel)⟩
theorem lw_p73 : lw_okq (⟨"NinthDayHooded", "worthOfNine", "()I"⟩, 11) := ⟨⟨by decide +kernel, by decide +kernel⟩, List.mem_of_getElem? (i := 23) (by decide +kernel), List.mem_of_getElem? (i := 929) (by decide +kernel), List.mem_of_getElem? (i := 930) (by decide +kernel)⟩
theorem lw_p74 : lw_okq (⟨"NinthDayHooded$People", "findRing", "([I)I"⟩, 5) := ⟨⟨by decide +kernel, by decide +kernel⟩, List.mem_of_getElem? (i := 62) (by decide +kernel), List.mem_of_getElem? (i := 941) (by decide +kernel), List.mem_of_getElem? (i := 942) (by decide +kernel)⟩
theorem lw_p75 : lw_okq (⟨"NinthDayHooded$People", "goesRound", "([III)Z"⟩, 5) := ⟨⟨by decide +kernel, by decide +kernel⟩, List.mem_of_getElem? (i := 62) (by decide +kernel), List.mem_of_getElem? (i := 945) (by decide +kernel), List.mem_of_getElem? (i := 946) (by decide +kernel)⟩
theorem lw_p76 : lw_okq (⟨"NinthDayHooded$People", "wants", "([III)Z"⟩, 5) := ⟨⟨by decide +kernel, by decide +kernel⟩, List.mem_of_getElem? (i := 62) (by decide +kernel), List.mem_of_getElem? (i := 949) (by decide +kernel), List.mem_of_getElem? (i := 950) (by decide +kernel)⟩
theorem lw_p77 : lw_okq (⟨"NinthDayHooded$People", "isInRing", "(II)Z"⟩, 5) := ⟨⟨by decide +kernel, by decide +kernel⟩, List.mem_of_getElem? (i := 62) (by decide +kernel), List.mem_of_getElem? (i := 953) (by decide +kernel), List.mem_of_getElem? (i := 954) (by decide +kernel)⟩
theorem lw_p78 : lw_okq (⟨"NinthDayHooded", "tellRing", "(I)V"⟩, 11) := ⟨⟨by decide +kernel, by decide +kernel⟩, List.mem_of_getElem? (i := 23) (by decide +kernel), List.mem_of_getElem? (i := 957) (by decide +kernel), List.mem_of_getElem? (i := 958) (by decide +kernel)⟩
theorem lw_p79 : lw_okq (⟨"NinthDayHooded$People", "turnRing", "([II)V"⟩, 5) := ⟨⟨by decide +kernel, by decide +kernel⟩, List.mem_of_getElem? (i := 62) (by decide +kernel), List.mem_of_getElem? (i := 965) (by decide +kernel), List.mem_of_getElem? (i := 966) (by decide +kernel)⟩
def lw_privs_5 : List (MethodName × Nat) := [(⟨"NinthDayHooded$State", "living", "(III)I"⟩, 6), (⟨"NinthDayHooded$Wishes", "add", "(III)V"⟩, 6), (⟨"NinthDayHooded$Wishes", "metBy", "([I)I"⟩, 6), (⟨"NinthDayHooded$Wishes", "isMet", "([II)Z"⟩, 6), (⟨"NinthDayHooded$Wishes", "canAllBeMet", "(I)Z"⟩, 6), (⟨"NinthDayHooded$Wishes", "join", "(III)V"⟩, 6), (⟨"NinthDayHooded$Wishes", "fewestColours", "(I)I"⟩, 6), (⟨"NinthDayHooded$Wishes", "coloursFrom", "(IIII)Z"⟩, 6), (⟨"NinthDayHooded$Wishes", "fits", "(I)Z"⟩, 6), (⟨"NinthDayHooded", "worthOfNine", "()I"⟩, 11), (⟨"NinthDayHooded$People", "findRing", "([I)I"⟩, 5), (⟨"NinthDayHooded$People", "goesRound", "([III)Z"⟩, 5), (⟨"NinthDayHooded$People", "wants", "([III)Z"⟩, 5), (⟨"NinthDayHooded$People", "isInRing", "(II)Z"⟩, 5), (⟨"NinthDayHooded", "tellRing", "(I)V"⟩, 11), (⟨"NinthDayHooded$People", "turnRing", "([II)V"⟩, 5)]
theorem lw_r5 : ∀ q ∈ lw_privs_5, lw_okq q := List.forall_mem_cons.mpr ⟨lw_p64, List.forall_mem_cons.mpr ⟨lw_p65, List.forall_mem_cons.mpr ⟨lw_p66, List.forall_mem_cons.mpr ⟨lw_p67, List.forall_mem_cons.mpr ⟨lw_p68, List.forall_mem_cons.mpr ⟨lw_p69, List.forall_mem_cons.mpr ⟨lw_p70, List.forall_mem_cons.mpr ⟨lw_p71, List.forall_mem_cons.mpr ⟨lw_p72, List.forall_mem_cons.mpr ⟨lw_p73, List.forall_mem_cons.mpr ⟨lw_p74, List.forall_mem_cons.mpr ⟨lw_p75, List.forall_mem_cons.mpr ⟨lw_p76, List.forall_mem_cons.mpr ⟨lw_p77, List.forall_mem_cons.mpr ⟨lw_p78, List.forall_mem_cons.mpr ⟨lw_p79, fun _ h => absurd h List.not_mem_nil⟩⟩⟩⟩⟩⟩⟩⟩⟩⟩⟩⟩⟩⟩⟩⟩
theorem lw_p80 : lw_okq (⟨"NinthDayHooded$People", "mostLiked", "([I)I"⟩, 5) := ⟨⟨by decide +kernel, by decide +kernel⟩, List.mem_of_getElem? (i := 62) (by decide +kernel), List.mem_of_getElem? (i := 977) (by decide +kernel), List.mem_of_getElem? (i := 978) (by decide +kernel)⟩
theorem lw_p81 : lw_okq (⟨"NinthDayHooded$People", "everyone", "()I"⟩, 5) := ⟨⟨by decide +kernel, by decide +kernel⟩, List.mem_of_getElem? (i := 62) (by decide +kernel), List.mem_of_getElem? (i := 981) (by decide +kernel), List.mem_of_getElem? (i := 982) (by decide +kernel)⟩
theorem lw_p82 : lw_okq (⟨"NinthDayHooded$Thefts", "add", "(II)V"⟩, 4) := ⟨⟨by decide +kernel, by decide +kernel⟩, List.mem_of_getElem? (i := 341) (by decide +kernel), List.mem_of_getElem? (i := 991) (by decide +kernel), List.mem_of_getElem? (i := 992) (by decide +kernel)⟩
theorem lw_p83 : lw_okq (⟨"NinthDayHooded$Thefts", "suspected", "(ILNinthDayHooded$People;LNinthDayHooded$State;)I"⟩, 4) := ⟨⟨by decide +kernel, by decide +kernel⟩, List.mem_of_getElem? (i := 341) (by decide +kernel), List.mem_of_getElem? (i := 1003) (by decide +kernel), List.mem_of_getElem? (i := 1004) (by decide +kernel)⟩
theorem lw_p84 : lw_okq (⟨"NinthDayHooded$Thefts", "leastGang", "(LNinthDayHooded$People;LNinthDayHooded$State;)I"⟩, 4) := ⟨⟨by decide +kernel, by decide +kernel⟩, List.mem_of_getElem? (i := 341) (by decide +kernel), List.mem_of_getElem? (i := 1014) (by decide +kernel), List.mem_of_getElem? (i := 1015) (by decide +kernel)⟩
theorem lw_p85 : lw_okq (⟨"NinthDayHooded$Thefts", "explainsAll", "(I)Z"⟩, 4) := ⟨⟨by decide +kernel, by decide +kernel⟩, List.mem_of_getElem? (i := 341) (by decide +kernel), List.mem_of_getElem? (i := 1021) (by decide +kernel), List.mem_of_getElem? (i := 1022) (by decide +kernel)⟩
theorem lw_p86 : lw_okq (⟨"java/lang/Throwable", "fillInStackTrace", "(I)Ljava/lang/Throwable;"⟩, 6) := ⟨⟨by decide +kernel, by decide +kernel⟩, List.mem_of_getElem? (i := 1100) (by decide +kernel), List.mem_of_getElem? (i := 1098) (by decide +kernel), List.mem_of_getElem? (i := 1099) (by decide +kernel)⟩
theorem lw_p87 : lw_okq (⟨"NinthDayHooded$State", "openLessons", "(I)I"⟩, 6) := ⟨⟨by decide +kernel, by decide +kernel⟩, List.mem_of_getElem? (i := 94) (by decide +kernel), List.mem_of_getElem? (i := 1125) (by decide +kernel), List.mem_of_getElem? (i := 1126) (by decide +kernel)⟩
theorem lw_p88 : lw_okq (⟨"NinthDayHoodedModel", "begin", "([BII)V"⟩, 61) := ⟨⟨by decide +kernel, by decide +kernel⟩, List.mem_of_getElem? (i := 1153) (by decide +kernel), List.mem_of_getElem? (i := 1363) (by decide +kernel), List.mem_of_getElem? (i := 1364) (by decide +kernel)⟩
theorem lw_p89 : lw_okq (⟨"NinthDayHoodedModel", "fine", "()Z"⟩, 61) := ⟨⟨by decide +kernel, by decide +kernel⟩, List.mem_of_getElem? (i := 1153) (by decide +kernel), List.mem_of_getElem? (i := 1367) (by decide +kernel), List.mem_of_getElem? (i := 1368) (by decide +kernel)⟩
theorem lw_p90 : lw_okq (⟨"NinthDayHoodedModel", "fault", "(I)V"⟩, 61) := ⟨⟨by decide +kernel, by decide +kernel⟩, List.mem_of_getElem? (i := 1153) (by decide +kernel), List.mem_of_getElem? (i := 1371) (by decide +kernel), List.mem_of_getElem? (i := 1372) (by decide +kernel)⟩
theorem lw_p91 : lw_okq (⟨"NinthDayHoodedModel", "readOne", "(I)V"⟩, 61) := ⟨⟨by decide +kernel, by decide +kernel⟩, List.mem_of_getElem? (i := 1153) (by decide +kernel), List.mem_of_getElem? (i := 1375) (by decide +kernel), List.mem_of_getElem? (i := 1376) (by decide +kernel)⟩
theorem lw_p92 : lw_okq (⟨"NinthDayHoodedModel", "digit", "(I)I"⟩, 61) := ⟨⟨by decide +kernel, by decide +kernel⟩, List.mem_of_getElem? (i := 1153) (by decide +kernel), List.mem_of_getElem? (i := 1379) (by decide +kernel), List.mem_of_getElem? (i := 1380) (by decide +kernel)⟩
theorem lw_p93 : lw_okq (⟨"NinthDayHoodedModel", "here", "()I"⟩, 61) := ⟨⟨by decide +kernel, by decide +kernel⟩, List.mem_of_getElem? (i := 1153) (by decide +kernel), List.mem_of_getElem? (i := 1383) (by decide +kernel), List.mem_of_getElem? (i := 1384) (by decide +kernel)⟩
theorem lw_p94 : lw_okq (⟨"NinthDayHoodedModel", "passes", "(C)Z"⟩, 61) := ⟨⟨by decide +kernel, by decide +kernel⟩, List.mem_of_getElem? (i := 1153) (by decide +kernel), List.mem_of_getElem? (i := 1387) (by decide +kernel), List.mem_of_getElem? (i := 1388) (by decide +kernel)⟩
theorem lw_p95 : lw_okq (⟨"NinthDayHoodedModel", "come", "(III)V"⟩, 61) := ⟨⟨by decide +kernel, by decide +kernel⟩, List.mem_of_getElem? (i := 1153) (by decide +kernel), List.mem_of_getElem? (i := 1391) (by decide +kernel), List.mem_of_getElem? (i := 1392) (by decide +kernel)⟩
def lw_privs_6 : List (MethodName × Nat) := [(⟨"NinthDayHooded$People", "mostLiked", "([I)I"⟩, 5), (⟨"NinthDayHooded$People", "everyone", "()I"⟩, 5), (⟨"NinthDayHooded$Thefts", "add", "(II)V"⟩, 4), (⟨"NinthDayHooded$Thefts", "suspected", "(ILNinthDayHooded$People;LNinthDayHooded$State;)I"⟩, 4), (⟨"NinthDayHooded$Thefts", "leastGang", "(LNinthDayHooded$People;LNinthDayHooded$State;)I"⟩, 4), (⟨"NinthDayHooded$Thefts", "explainsAll", "(I)Z"⟩, 4), (⟨"java/lang/Throwable", "fillInStackTrace", "(I)Ljava/lang/Throwable;"⟩, 6), (⟨"NinthDayHooded$State", "openLessons", "(I)I"⟩, 6), (⟨"NinthDayHoodedModel", "begin", "([BII)V"⟩, 61), (⟨"NinthDayHoodedModel", "fine", "()Z"⟩, 61), (⟨"NinthDayHoodedModel", "fault", "(I)V"⟩, 61), (⟨"NinthDayHoodedModel", "readOne", "(I)V"⟩, 61), (⟨"NinthDayHoodedModel", "digit", "(I)I"⟩, 61), (⟨"NinthDayHoodedModel", "here", "()I"⟩, 61), (⟨"NinthDayHoodedModel", "passes", "(C)Z"⟩, 61), (⟨"NinthDayHoodedModel", "come", "(III)V"⟩, 61)]
theorem lw_r6 : ∀ q ∈ lw_privs_6, lw_okq q := List.forall_mem_cons.mpr ⟨lw_p80, List.forall_mem_cons.mpr ⟨lw_p81, List.forall_mem_cons.mpr ⟨lw_p82, List.forall_mem_cons.mpr ⟨lw_p83, List.forall_mem_cons.mpr ⟨lw_p84, List.forall_mem_cons.mpr ⟨lw_p85, List.forall_mem_cons.mpr ⟨lw_p86, List.forall_mem_cons.mpr ⟨lw_p87, List.forall_mem_cons.mpr ⟨lw_p88, List.forall_mem_cons.mpr ⟨lw_p89, List.forall_mem_cons.mpr ⟨lw_p90, List.forall_mem_cons.mpr ⟨lw_p91, List.forall_mem_cons.mpr ⟨lw_p92, List.forall_mem_cons.mpr ⟨lw_p93, List.forall_mem_cons.mpr ⟨lw_p94, List.forall_mem_cons.mpr ⟨lw_p95, fun _ h => absurd h List.not_mem_nil⟩⟩⟩⟩⟩⟩⟩⟩⟩⟩⟩⟩⟩⟩⟩⟩
theorem lw_p96 : lw_okq (⟨"NinthDayHoodedModel", "isOne", "(I)Z"⟩, 61) := ⟨⟨by decide +kernel, by decide +kernel⟩, List.mem_of_getElem? (i := 1153) (by decide +kernel), List.mem_of_getElem? (i := 1399) (by decide +kernel), List.mem_of_getElem? (i := 1400) (by decide +kernel)⟩
theorem lw_p97 : lw_okq (⟨"NinthDayHoodedModel", "areDigits", "(I)Z"⟩, 61) := ⟨⟨by decide +kernel, by decide +kernel⟩, List.mem_of_getElem? (i := 1153) (by decide +kernel), List.mem_of_getElem? (i := 1403) (by decide +kernel), List.mem_of_getElem? (i := 1404) (by decide +kernel)⟩
theorem lw_p98 : lw_okq (⟨"NinthDayHoodedModel", "held", "(I)I"⟩, 61) := ⟨⟨by decide +kernel, by decide +kernel⟩, List.mem_of_getElem? (i := 1153) (by decide +kernel), List.mem_of_getElem? (i := 1415) (by decide +kernel), List.mem_of_getElem? (i := 1416) (by decide +kernel)⟩
theorem lw_p99 : lw_okq (⟨"NinthDayHoodedModel", "sum", "(I)I"⟩, 61) := ⟨⟨by decide +kernel, by decide +kernel⟩, List.mem_of_getElem? (i := 1153) (by decide +kernel), List.mem_of_getElem? (i := 1419) (by decide +kernel), List.mem_of_getElem? (i := 1420) (by decide +kernel)⟩
theorem lw_p100 : lw_okq (⟨"NinthDayHoodedModel", "product", "(I)I"⟩, 61) := ⟨⟨by decide +kernel, by decide +kernel⟩, List.mem_of_getElem? (i := 1153) (by decide +kernel), List.mem_of_getElem? (i := 1423) (by decide +kernel), List.mem_of_getElem? (i := 1424) (by decide +kernel)⟩
theorem lw_p101 : lw_okq (⟨"NinthDayHoodedModel", "thing", "(I)I"⟩, 61) := ⟨⟨by decide +kernel, by decide +kernel⟩, List.mem_of_getElem? (i := 1153) (by decide +kernel), List.mem_of_getElem? (i := 1427) (by decide +kernel), List.mem_of_getElem? (i := 1428) (by decide +kernel)⟩
theorem lw_p102 : lw_okq (⟨"NinthDayHoodedModel", "need", "(C)V"⟩, 61) := ⟨⟨by decide +kernel, by decide +kernel⟩, List.mem_of_getElem? (i := 1153) (by decide +kernel), List.mem_of_getElem? (i := 1431) (by decide +kernel), List.mem_of_getElem? (i := 1432) (by decide +kernel)⟩
theorem lw_p103 : lw_okq (⟨"NinthDayHoodedModel", "valueOf", "(I[I)I"⟩, 61) := ⟨⟨by decide +kernel, by decide +kernel⟩, List.mem_of_getElem? (i := 1153) (by decide +kernel), List.mem_of_getElem? (i := 1435) (by decide +kernel), List.mem_of_getElem? (i := 1436) (by decide +kernel)⟩
theorem lw_p104 : lw_okq (⟨"NinthDayHoodedModel", "lost", "()I"⟩, 61) := ⟨⟨by decide +kernel, by decide +kernel⟩, List.mem_of_getElem? (i := 1153) (by decide +kernel), List.mem_of_getElem? (i := 1449) (by decide +kernel), List.mem_of_getElem? (i := 1450) (by decide +kernel)⟩
theorem lw_p105 : lw_okq (⟨"NinthDayHoodedModel", "areTwo", "(II)Z"⟩, 61) := ⟨⟨by decide +kernel, by decide +kernel⟩, List.mem_of_getElem? (i := 1153) (by decide +kernel), List.mem_of_getElem? (i := 1460) (by decide +kernel), List.mem_of_getElem? (i := 1461) (by decide +kernel)⟩
theorem lw_p106 : lw_okq (⟨"NinthDayHoodedModel", "costOf", "([IIII)I"⟩, 61) := ⟨⟨by decide +kernel, by decide +kernel⟩, List.mem_of_getElem? (i := 1153) (by decide +kernel), List.mem_of_getElem? (i := 1481) (by decide +kernel), List.mem_of_getElem? (i := 1482) (by decide +kernel)⟩
theorem lw_p107 : lw_okq (⟨"NinthDayHoodedModel", "findGuides", "([II)V"⟩, 61) := ⟨⟨by decide +kernel, by decide +kernel⟩, List.mem_of_getElem? (i := 1153) (by decide +kernel), List.mem_of_getElem? (i := 1489) (by decide +kernel), List.mem_of_getElem? (i := 1490) (by decide +kernel)⟩
theorem lw_p108 : lw_okq (⟨"NinthDayHoodedModel", "hoodedOn", "([II)I"⟩, 61) := ⟨⟨by decide +kernel, by decide +kernel⟩, List.mem_of_getElem? (i := 1153) (by decide +kernel), List.mem_of_getElem? (i := 1493) (by decide +kernel), List.mem_of_getElem? (i := 1494) (by decide +kernel)⟩
theorem lw_p109 : lw_okq (⟨"NinthDayHoodedModel", "goGuide", "([IIII)V"⟩, 61) := ⟨⟨by decide +kernel, by decide +kernel⟩, List.mem_of_getElem? (i := 1153) (by decide +kernel), List.mem_of_getElem? (i := 1498) (by decide +kernel), List.mem_of_getElem? (i := 1499) (by decide +kernel)⟩
theorem lw_p110 : lw_okq (⟨"NinthDayHoodedModel", "tell", "(I)V"⟩, 61) := ⟨⟨by decide +kernel, by decide +kernel⟩, List.mem_of_getElem? (i := 1153) (by decide +kernel), List.mem_of_getElem? (i := 1502) (by decide +kernel), List.mem_of_getElem? (i := 1503) (by decide +kernel)⟩
theorem lw_p111 : lw_okq (⟨"NinthDayHoodedModel", "remember", "([I)V"⟩, 61) := ⟨⟨by decide +kernel, by decide +kernel⟩, List.mem_of_getElem? (i := 1153) (by decide +kernel), List.mem_of_getElem? (i := 1518) (by decide +kernel), List.mem_of_getElem? (i := 1519) (by decide +kernel)⟩
def lw_privs_7 : List (MethodName × Nat) := [(⟨"NinthDayHoodedModel", "isOne", "(I)Z"⟩, 61), (⟨"NinthDayHoodedModel", "areDigits", "(I)Z"⟩, 61), (⟨"NinthDayHoodedModel", "held", "(I)I"⟩, 61), (⟨"NinthDayHoodedModel", "sum", "(I)I"⟩, 61), (⟨"NinthDayHoodedModel", "product", "(I)I"⟩, 61), (⟨"NinthDayHoodedModel", "thing", "(I)I"⟩, 61), (⟨"NinthDayHoodedModel", "need", "(C)V"⟩, 61), (⟨"NinthDayHoodedModel", "valueOf", "(I[I)I"⟩, 61), (⟨"NinthDayHoodedModel", "lost", "()I"⟩, 61), (⟨"NinthDayHoodedModel", "areTwo", "(II)Z"⟩, 61), (⟨"NinthDayHoodedModel", "costOf", "([IIII)I"⟩, 61), (⟨"NinthDayHoodedModel", "findGuides", "([II)V"⟩, 61), (⟨"NinthDayHoodedModel", "hoodedOn", "([II)I"⟩, 61), (⟨"NinthDayHoodedModel", "goGuide", "([IIII)V"⟩, 61), (⟨"NinthDayHoodedModel", "tell", "(I)V"⟩, 61), (⟨"NinthDayHoodedModel", "remember", "([I)V"⟩, 61)]
theorem lw_r7 : ∀ q ∈ lw_privs_7, lw_okq q := List.forall_mem_cons.mpr ⟨lw_p96, List.forall_mem_cons.mpr ⟨lw_p97, List.forall_mem_cons.mpr ⟨lw_p98, List.forall_mem_cons.mpr ⟨lw_p99, List.forall_mem_cons.mpr ⟨lw_p100, List.forall_mem_cons.mpr ⟨lw_p101, List.forall_mem_cons.mpr ⟨lw_p102, List.forall_mem_cons.mpr ⟨lw_p103, List.forall_mem_cons.mpr ⟨lw_p104, List.forall_mem_cons.mpr ⟨lw_p105, List.forall_mem_cons.mpr ⟨lw_p106, List.forall_mem_cons.mpr ⟨lw_p107, List.forall_mem_cons.mpr ⟨lw_p108, List.forall_mem_cons.mpr ⟨lw_p109, List.forall_mem_cons.mpr ⟨lw_p110, List.forall_mem_cons.mpr ⟨lw_p111, fun _ h => absurd h List.not_mem_nil⟩⟩⟩⟩⟩⟩⟩⟩⟩⟩⟩⟩⟩⟩⟩⟩
theorem lw_p112 : lw_okq (⟨"NinthDayHoodedModel", "goDay", "([I)V"⟩, 61) := ⟨⟨by decide +kernel, by decide +kernel⟩, List.mem_of_getElem? (i := 1153) (by decide +kernel), List.mem_of_getElem? (i := 1525) (by decide +kernel), List.mem_of_getElem? (i := 1526) (by decide +kernel)⟩
theorem lw_p113 : lw_okq (⟨"NinthDayHoodedModel", "learn", "([III)V"⟩, 61) := ⟨⟨by decide +kernel, by decide +kernel⟩, List.mem_of_getElem? (i := 1153) (by decide +kernel), List.mem_of_getElem? (i := 1529) (by decide +kernel), List.mem_of_getElem? (i := 1530) (by decide +kernel)⟩
theorem lw_p114 : lw_okq (⟨"NinthDayHoodedModel", "readAct", "(I)V"⟩, 61) := ⟨⟨by decide +kernel, by decide +kernel⟩, List.mem_of_getElem? (i := 1153) (by decide +kernel), List.mem_of_getElem? (i := 1545) (by decide +kernel), List.mem_of_getElem? (i := 1546) (by decide +kernel)⟩
theorem lw_p115 : lw_okq (⟨"NinthDayHoodedModel", "letter", "()I"⟩, 61) := ⟨⟨by decide +kernel, by decide +kernel⟩, List.mem_of_getElem? (i := 1153) (by decide +kernel), List.mem_of_getElem? (i := 1549) (by decide +kernel), List.mem_of_getElem? (i := 1550) (by decide +kernel)⟩
theorem lw_p116 : lw_okq (⟨"NinthDayHoodedModel", "act", "(I)Z"⟩, 61) := ⟨⟨by decide +kernel, by decide +kernel⟩, List.mem_of_getElem? (i := 1153) (by decide +kernel), List.mem_of_getElem? (i := 1553) (by decide +kernel), List.mem_of_getElem? (i := 1554) (by decide +kernel)⟩
theorem lw_p117 : lw_okq (⟨"NinthDayHoodedModel", "lineOf", "(II)I"⟩, 61) := ⟨⟨by decide +kernel, by decide +kernel⟩, List.mem_of_getElem? (i := 1153) (by decide +kernel), List.mem_of_getElem? (i := 1568) (by decide +kernel), List.mem_of_getElem? (i := 1569) (by decide +kernel)⟩
theorem lw_p118 : lw_okq (⟨"NinthDayHoodedModel", "ask", "()V"⟩, 61) := ⟨⟨by decide +kernel, by decide +kernel⟩, List.mem_of_getElem? (i := 1153) (by decide +kernel), List.mem_of_getElem? (i := 1599) (by decide +kernel), List.mem_of_getElem? (i := 1600) (by decide +kernel)⟩
theorem lw_p119 : lw_okq (⟨"NinthDayHoodedModel", "wanting", "(I)I"⟩, 61) := ⟨⟨by decide +kernel, by decide +kernel⟩, List.mem_of_getElem? (i := 1153) (by decide +kernel), List.mem_of_getElem? (i := 1603) (by decide +kernel), List.mem_of_getElem? (i := 1604) (by decide +kernel)⟩
theorem lw_p120 : lw_okq (⟨"NinthDayHoodedModel", "place", "(I)Z"⟩, 61) := ⟨⟨by decide +kernel, by decide +kernel⟩, List.mem_of_getElem? (i := 1153) (by decide +kernel), List.mem_of_getElem? (i := 1607) (by decide +kernel), List.mem_of_getElem? (i := 1608) (by decide +kernel)⟩
theorem lw_p121 : lw_okq (⟨"NinthDayHoodedModel", "tellMends", "()I"⟩, 61) := ⟨⟨by decide +kernel, by decide +kernel⟩, List.mem_of_getElem? (i := 1153) (by decide +kernel), List.mem_of_getElem? (i := 1623) (by decide +kernel), List.mem_of_getElem? (i := 1624) (by decide +kernel)⟩
theorem lw_p122 : lw_okq (⟨"NinthDayHoodedModel", "findMends", "()I"⟩, 61) := ⟨⟨by decide +kernel, by decide +kernel⟩, List.mem_of_getElem? (i := 1153) (by decide +kernel), List.mem_of_getElem? (i := 1627) (by decide +kernel), List.mem_of_getElem? (i := 1628) (by decide +kernel)⟩
theorem lw_p123 : lw_okq (⟨"NinthDayHoodedModel", "allWanting", "()I"⟩, 61) := ⟨⟨by decide +kernel, by decide +kernel⟩, List.mem_of_getElem? (i := 1153) (by decide +kernel), List.mem_of_getElem? (i := 1631) (by decide +kernel), List.mem_of_getElem? (i := 1632) (by decide +kernel)⟩
theorem lw_p124 : lw_okq (⟨"NinthDayHoodedModel", "mendsWith", "(I)Z"⟩, 61) := ⟨⟨by decide +kernel, by decide +kernel⟩, List.mem_of_getElem? (i := 1153) (by decide +kernel), List.mem_of_getElem? (i := 1635) (by decide +kernel), List.mem_of_getElem? (i := 1636) (by decide +kernel)⟩
theorem lw_p125 : lw_okq (⟨"NinthDayHoodedModel", "metBy", "([I)I"⟩, 61) := ⟨⟨by decide +kernel, by decide +kernel⟩, List.mem_of_getElem? (i := 1153) (by decide +kernel), List.mem_of_getElem? (i := 1671) (by decide +kernel), List.mem_of_getElem? (i := 1672) (by decide +kernel)⟩
theorem lw_p126 : lw_okq (⟨"NinthDayHoodedModel", "goColour", "(II)V"⟩, 61) := ⟨⟨by decide +kernel, by decide +kernel⟩, List.mem_of_getElem? (i := 1153) (by decide +kernel), List.mem_of_getElem? (i := 1683) (by decide +kernel), List.mem_of_getElem? (i := 1684) (by decide +kernel)⟩
theorem lw_p127 : lw_okq (⟨"NinthDayHoodedModel", "tellRing", "()I"⟩, 61) := ⟨⟨by decide +kernel, by decide +kernel⟩, List.mem_of_getElem? (i := 1153) (by decide +kernel), List.mem_of_getElem? (i := 1699) (by decide +kernel), List.mem_of_getElem? (i := 1700) (by decide +kernel)⟩
def lw_privs_8 : List (MethodName × Nat) := [(⟨"NinthDayHoodedModel", "goDay", "([I)V"⟩, 61), (⟨"NinthDayHoodedModel", "learn", "([III)V"⟩, 61), (⟨"NinthDayHoodedModel", "readAct", "(I)V"⟩, 61), (⟨"NinthDayHoodedModel", "letter", "()I"⟩, 61), (⟨"NinthDayHoodedModel", "act", "(I)Z"⟩, 61), (⟨"NinthDayHoodedModel", "lineOf", "(II)I"⟩, 61), (⟨"NinthDayHoodedModel", "ask", "()V"⟩, 61), (⟨"NinthDayHoodedModel", "wanting", "(I)I"⟩, 61), (⟨"NinthDayHoodedModel", "place", "(I)Z"⟩, 61), (⟨"NinthDayHoodedModel", "tellMends", "()I"⟩, 61), (⟨"NinthDayHoodedModel", "findMends", "()I"⟩, 61), (⟨"NinthDayHoodedModel", "allWanting", "()I"⟩, 61), (⟨"NinthDayHoodedModel", "mendsWith", "(I)Z"⟩, 61), (⟨"NinthDayHoodedModel", "metBy", "([I)I"⟩, 61), (⟨"NinthDayHoodedModel", "goColour", "(II)V"⟩, 61), (⟨"NinthDayHoodedModel", "tellRing", "()I"⟩, 61)]
theorem lw_r8 : ∀ q ∈ lw_privs_8, lw_okq q := List.forall_mem_cons.mpr ⟨lw_p112, List.forall_mem_cons.mpr ⟨lw_p113, List.forall_mem_cons.mpr ⟨lw_p114, List.forall_mem_cons.mpr ⟨lw_p115, List.forall_mem_cons.mpr ⟨lw_p116, List.forall_mem_cons.mpr ⟨lw_p117, List.forall_mem_cons.mpr ⟨lw_p118, List.forall_mem_cons.mpr ⟨lw_p119, List.forall_mem_cons.mpr ⟨lw_p120, List.forall_mem_cons.mpr ⟨lw_p121, List.forall_mem_cons.mpr ⟨lw_p122, List.forall_mem_cons.mpr ⟨lw_p123, List.forall_mem_cons.mpr ⟨lw_p124, List.forall_mem_cons.mpr ⟨lw_p125, List.forall_mem_cons.mpr ⟨lw_p126, List.forall_mem_cons.mpr ⟨lw_p127, fun _ h => absurd h List.not_mem_nil⟩⟩⟩⟩⟩⟩⟩⟩⟩⟩⟩⟩⟩⟩⟩⟩
theorem lw_p128 : lw_okq (⟨"NinthDayHoodedModel", "findRing", "([I)Z"⟩, 61) := ⟨⟨by decide +kernel, by decide +kernel⟩, List.mem_of_getElem? (i := 1153) (by decide +kernel), List.mem_of_getElem? (i := 1703) (by decide +kernel), List.mem_of_getElem? (i := 1704) (by decide +kernel)⟩
theorem lw_p129 : lw_okq (⟨"NinthDayHoodedModel", "goRing", "([III)Z"⟩, 61) := ⟨⟨by decide +kernel, by decide +kernel⟩, List.mem_of_getElem? (i := 1153) (by decide +kernel), List.mem_of_getElem? (i := 1707) (by decide +kernel), List.mem_of_getElem? (i := 1708) (by decide +kernel)⟩
theorem lw_p130 : lw_okq (⟨"NinthDayHoodedModel", "wants", "([III)Z"⟩, 61) := ⟨⟨by decide +kernel, by decide +kernel⟩, List.mem_of_getElem? (i := 1153) (by decide +kernel), List.mem_of_getElem? (i := 1711) (by decide +kernel), List.mem_of_getElem? (i := 1712) (by decide +kernel)⟩
theorem lw_p131 : lw_okq (⟨"NinthDayHoodedModel", "turnRing", "([I)V"⟩, 61) := ⟨⟨by decide +kernel, by decide +kernel⟩, List.mem_of_getElem? (i := 1153) (by decide +kernel), List.mem_of_getElem? (i := 1719) (by decide +kernel), List.mem_of_getElem? (i := 1720) (by decide +kernel)⟩
theorem lw_p132 : lw_okq (⟨"NinthDayHoodedModel", "suspectsOf", "(I)I"⟩, 61) := ⟨⟨by decide +kernel, by decide +kernel⟩, List.mem_of_getElem? (i := 1153) (by decide +kernel), List.mem_of_getElem? (i := 1743) (by decide +kernel), List.mem_of_getElem? (i := 1744) (by decide +kernel)⟩
theorem lw_p133 : lw_okq (⟨"NinthDayHoodedModel", "witnesses", "(II)I"⟩, 61) := ⟨⟨by decide +kernel, by decide +kernel⟩, List.mem_of_getElem? (i := 1153) (by decide +kernel), List.mem_of_getElem? (i := 1755) (by decide +kernel), List.mem_of_getElem? (i := 1756) (by decide +kernel)⟩
def lw_privs_9 : List (MethodName × Nat) := [(⟨"NinthDayHoodedModel", "findRing", "([I)Z"⟩, 61), (⟨"NinthDayHoodedModel", "goRing", "([III)Z"⟩, 61), (⟨"NinthDayHoodedModel", "wants", "([III)Z"⟩, 61), (⟨"NinthDayHoodedModel", "turnRing", "([I)V"⟩, 61), (⟨"NinthDayHoodedModel", "suspectsOf", "(I)I"⟩, 61), (⟨"NinthDayHoodedModel", "witnesses", "(II)I"⟩, 61)]
theorem lw_r9 : ∀ q ∈ lw_privs_9, lw_okq q := List.forall_mem_cons.mpr ⟨lw_p128, List.forall_mem_cons.mpr ⟨lw_p129, List.forall_mem_cons.mpr ⟨lw_p130, List.forall_mem_cons.mpr ⟨lw_p131, List.forall_mem_cons.mpr ⟨lw_p132, List.forall_mem_cons.mpr ⟨lw_p133, fun _ h => absurd h List.not_mem_nil⟩⟩⟩⟩⟩⟩
def lw_privs : List (MethodName × Nat) := lw_privs_1 ++ (lw_privs_2 ++ (lw_privs_3 ++ (lw_privs_4 ++ (lw_privs_5 ++ (lw_privs_6 ++ (lw_privs_7 ++ (lw_privs_8 ++ (lw_privs_9))))))))
def lw_tbl : List Cond := k2_sels lw_privs ++ tables_1
theorem lw_privs_ok : ∀ q ∈ lw_privs, lw_okq q := by
  show ∀ q ∈ lw_privs_1 ++ (lw_privs_2 ++ (lw_privs_3 ++ (lw_privs_4 ++ (lw_privs_5 ++ (lw_privs_6 ++ (lw_privs_7 ++ (lw_privs_8 ++ (lw_privs_9)))))))), lw_okq q
  exact List.forall_mem_append.mpr ⟨lw_r1, List.forall_mem_append.mpr ⟨lw_r2, List.forall_mem_append.mpr ⟨lw_r3, List.forall_mem_append.mpr ⟨lw_r4, List.forall_mem_append.mpr ⟨lw_r5, List.forall_mem_append.mpr ⟨lw_r6, List.forall_mem_append.mpr ⟨lw_r7, List.forall_mem_append.mpr ⟨lw_r8, lw_r9⟩⟩⟩⟩⟩⟩⟩⟩
-- ===== end of PART A; then your names; then what follows =====
end
section
def RX0 : String := "NinthDayHooded$Guides"
def TX0 : u_T := fun k => match k with
  | 0 => ("NinthDayHooded$Guides", "hooded", "[I", true)
  | 1 => ("NinthDayHooded$Guides", "best", "[I", true)
  | 2 => ("NinthDayHooded$Guides", "chosen", "[I", true)
  | 3 => ("NinthDayHooded$Guides", "leading", "[I", true)
  | 4 => ("NinthDayHooded$Guides", "prices", "[I", true)
  | 5 => ("NinthDayHooded$Guides", "atLeast", "[I", true)
  | 6 => ("NinthDayHooded$Guides", "n", "I", false)
  | 7 => ("NinthDayHooded$Guides", "crowd", "I", false)
  | _ => ("NinthDayHooded$Guides", "worth", "I", false)
def tyX0 : Nat → FieldType := fun k => match k with
  | 0 => .array .int
  | 1 => .array .int
  | 2 => .array .int
  | 3 => .array .int
  | 4 => .array .int
  | 5 => .array .int
  | 6 => .int
  | 7 => .int
  | _ => .int
theorem nmX0 : ∀ a, a < 9 → ∀ b, b < 9 → a ≠ b → (TX0 a).2.1 ≠ (TX0 b).2.1 := by decide +kernel
theorem tyX0_ok : ∀ k, k < 9 → parseFieldDescriptor (TX0 k).2.2.1 = some (tyX0 k) := by decide +kernel
def RX1 : String := "NinthDayHooded$Past"
def TX1 : u_T := fun k => match k with
  | 0 => ("NinthDayHooded$Past", "before", "[LNinthDayHooded$State;", true)
  | 1 => ("NinthDayHooded$Past", "kept", "[LNinthDayHooded$State;", true)
  | 2 => ("NinthDayHooded$Past", "keptCrowd", "[I", true)
  | 3 => ("NinthDayHooded$Past", "next", "I", false)
  | _ => ("NinthDayHooded$Past", "undos", "I", false)
def tyX1 : Nat → FieldType := fun k => match k with
  | 0 => .array (.object "NinthDayHooded$State")
  | 1 => .array (.object "NinthDayHooded$State")
  | 2 => .array .int
  | 3 => .int
  | _ => .int
theorem nmX1 : ∀ a, a < 5 → ∀ b, b < 5 → a ≠ b → (TX1 a).2.1 ≠ (TX1 b).2.1 := by decide +kernel
theorem tyX1_ok : ∀ k, k < 5 → parseFieldDescriptor (TX1 k).2.2.1 = some (tyX1 k) := by decide +kernel
def RX2 : String := "NinthDayHooded$People"
def TX2 : u_T := fun k => match k with
  | 0 => ("NinthDayHooded$People", "trust", "[I", true)
  | 1 => ("NinthDayHooded$People", "likes", "[I", true)
  | 2 => ("NinthDayHooded$People", "ring", "[I", true)
  | 3 => ("NinthDayHooded$People", "most", "[I", true)
  | _ => ("NinthDayHooded$People", "n", "I", false)
def tyX2 : Nat → FieldType := fun k => match k with
  | 0 => .array .int
  | 1 => .array .int
  | 2 => .array .int
  | 3 => .array .int
  | _ => .int
theorem nmX2 : ∀ a, a < 5 → ∀ b, b < 5 → a ≠ b → (TX2 a).2.1 ≠ (TX2 b).2.1 := by decide +kernel
theorem tyX2_ok : ∀ k, k < 5 → parseFieldDescriptor (TX2 k).2.2.1 = some (tyX2 k) := by decide +kernel
def RX3 : String := "NinthDayHooded$Row"
def TX3 : u_T := fun k => match k with
  | 0 => ("NinthDayHooded$Row", "numbers", "[I", true)
  | _ => ("NinthDayHooded$Row", "size", "I", false)
def tyX3 : Nat → FieldType := fun k => match k with
  | 0 => .array .int
  | _ => .int
theorem nmX3 : ∀ a, a < 2 → ∀ b, b < 2 → a ≠ b → (TX3 a).2.1 ≠ (TX3 b).2.1 := by decide +kernel
theorem tyX3_ok : ∀ k, k < 2 → parseFieldDescriptor (TX3 k).2.2.1 = some (tyX3 k) := by decide +kernel
def RX4 : String := "NinthDayHooded$Rule"
def TX4 : u_T := fun k => match k with
  | 0 => ("NinthDayHooded$Rule", "code", "[I", true)
  | 1 => ("NinthDayHooded$Rule", "draft", "[I", true)
  | 2 => ("NinthDayHooded$Rule", "waiting", "[I", true)
  | 3 => ("NinthDayHooded$Rule", "stack", "[I", true)
  | 4 => ("NinthDayHooded$Rule", "things", "[I", true)
  | 5 => ("NinthDayHooded$Rule", "compared", "[Z", true)
  | 6 => ("NinthDayHooded$Rule", "size", "I", false)
  | 7 => ("NinthDayHooded$Rule", "drafted", "I", false)
  | 8 => ("NinthDayHooded$Rule", "waits", "I", false)
  | 9 => ("NinthDayHooded$Rule", "depth", "I", false)
  | 10 => ("NinthDayHooded$Rule", "digits", "I", false)
  | _ => ("NinthDayHooded$Rule", "wantsThing", "Z", false)
def tyX4 : Nat → FieldType := fun k => match k with
  | 0 => .array .int
  | 1 => .array .int
  | 2 => .array .int
  | 3 => .array .int
  | 4 => .array .int
  | 5 => .array .boolean
  | 6 => .int
  | 7 => .int
  | 8 => .int
  | 9 => .int
  | 10 => .int
  | _ => .boolean
theorem nmX4 : ∀ a, a < 12 → ∀ b, b < 12 → a ≠ b → (TX4 a).2.1 ≠ (TX4 b).2.1 := by decide +kernel
theorem tyX4_ok : ∀ k, k < 12 → parseFieldDescriptor (TX4 k).2.2.1 = some (tyX4 k) := by decide +kernel
def RX5 : String := "NinthDayHooded$State"
def TX5 : u_T := fun k => match k with
  | 0 => ("NinthDayHooded$State", "hood", "[I", true)
  | 1 => ("NinthDayHooded$State", "street", "[I", true)
  | 2 => ("NinthDayHooded$State", "trades", "[I", true)
  | 3 => ("NinthDayHooded$State", "lessons", "[I", true)
  | 4 => ("NinthDayHooded$State", "book", "[J", true)
  | _ => ("NinthDayHooded$State", "now", "I", false)
def tyX5 : Nat → FieldType := fun k => match k with
  | 0 => .array .int
  | 1 => .array .int
  | 2 => .array .int
  | 3 => .array .int
  | 4 => .array .long
  | _ => .int
theorem nmX5 : ∀ a, a < 6 → ∀ b, b < 6 → a ≠ b → (TX5 a).2.1 ≠ (TX5 b).2.1 := by decide +kernel
theorem tyX5_ok : ∀ k, k < 6 → parseFieldDescriptor (TX5 k).2.2.1 = some (tyX5 k) := by decide +kernel
def RX6 : String := "NinthDayHooded$Tasks"
def TX6 : u_T := fun k => match k with
  | 0 => ("NinthDayHooded$Tasks", "trade", "[I", true)
  | 1 => ("NinthDayHooded$Tasks", "need", "[I", true)
  | 2 => ("NinthDayHooded$Tasks", "needOf", "[I", true)
  | 3 => ("NinthDayHooded$Tasks", "able", "[I", true)
  | 4 => ("NinthDayHooded$Tasks", "known", "[I", true)
  | 5 => ("NinthDayHooded$Tasks", "hooded", "[I", true)
  | 6 => ("NinthDayHooded$Tasks", "moved", "[I", true)
  | 7 => ("NinthDayHooded$Tasks", "movedTo", "[I", true)
  | 8 => ("NinthDayHooded$Tasks", "n", "I", false)
  | 9 => ("NinthDayHooded$Tasks", "crowd", "I", false)
  | _ => ("NinthDayHooded$Tasks", "wanted", "I", false)
def tyX6 : Nat → FieldType := fun k => match k with
  | 0 => .array .int
  | 1 => .array .int
  | 2 => .array .int
  | 3 => .array .int
  | 4 => .array .int
  | 5 => .array .int
  | 6 => .array .int
  | 7 => .array .int
  | 8 => .int
  | 9 => .int
  | _ => .int
theorem nmX6 : ∀ a, a < 11 → ∀ b, b < 11 → a ≠ b → (TX6 a).2.1 ≠ (TX6 b).2.1 := by decide +kernel
theorem tyX6_ok : ∀ k, k < 11 → parseFieldDescriptor (TX6 k).2.2.1 = some (tyX6 k) := by decide +kernel
def RX7 : String := "NinthDayHooded$Text"
def TX7 : u_T := fun k => match k with
  | 0 => ("NinthDayHooded$Text", "signs", "[I", true)
  | _ => ("NinthDayHooded$Text", "length", "I", false)
def tyX7 : Nat → FieldType := fun k => match k with
  | 0 => .array .int
  | _ => .int
theorem nmX7 : ∀ a, a < 2 → ∀ b, b < 2 → a ≠ b → (TX7 a).2.1 ≠ (TX7 b).2.1 := by decide +kernel
theorem tyX7_ok : ∀ k, k < 2 → parseFieldDescriptor (TX7 k).2.2.1 = some (tyX7 k) := by decide +kernel
def RX8 : String := "NinthDayHooded$Thefts"
def TX8 : u_T := fun k => match k with
  | 0 => ("NinthDayHooded$Thefts", "robbed", "[I", true)
  | 1 => ("NinthDayHooded$Thefts", "when", "[I", true)
  | 2 => ("NinthDayHooded$Thefts", "who", "[I", true)
  | _ => ("NinthDayHooded$Thefts", "n", "I", false)
def tyX8 : Nat → FieldType := fun k => match k with
  | 0 => .array .int
  | 1 => .array .int
  | 2 => .array .int
  | _ => .int
theorem nmX8 : ∀ a, a < 4 → ∀ b, b < 4 → a ≠ b → (TX8 a).2.1 ≠ (TX8 b).2.1 := by decide +kernel
theorem tyX8_ok : ∀ k, k < 4 → parseFieldDescriptor (TX8 k).2.2.1 = some (tyX8 k) := by decide +kernel
def RX9 : String := "NinthDayHooded$Walk"
def TX9 : u_T := fun k => match k with
  | 0 => ("NinthDayHooded$Walk", "guides", "LNinthDayHooded$Guides;", true)
  | 1 => ("NinthDayHooded$Walk", "leadings", "[I", true)
  | 2 => ("NinthDayHooded$Walk", "led", "I", false)
  | 3 => ("NinthDayHooded$Walk", "price", "I", false)
  | _ => ("NinthDayHooded$Walk", "learnt", "I", false)
def tyX9 : Nat → FieldType := fun k => match k with
  | 0 => .object "NinthDayHooded$Guides"
  | 1 => .array .int
  | 2 => .int
  | 3 => .int
  | _ => .int
theorem nmX9 : ∀ a, a < 5 → ∀ b, b < 5 → a ≠ b → (TX9 a).2.1 ≠ (TX9 b).2.1 := by decide +kernel
theorem tyX9_ok : ∀ k, k < 5 → parseFieldDescriptor (TX9 k).2.2.1 = some (tyX9 k) := by decide +kernel
def RX10 : String := "NinthDayHooded$Wishes"
def TX10 : u_T := fun k => match k with
  | 0 => ("NinthDayHooded$Wishes", "one", "[I", true)
  | 1 => ("NinthDayHooded$Wishes", "other", "[I", true)
  | 2 => ("NinthDayHooded$Wishes", "same", "[I", true)
  | 3 => ("NinthDayHooded$Wishes", "colour", "[I", true)
  | 4 => ("NinthDayHooded$Wishes", "kin", "[I", true)
  | _ => ("NinthDayHooded$Wishes", "n", "I", false)
def tyX10 : Nat → FieldType := fun k => match k with
  | 0 => .array .int
  | 1 => .array .int
  | 2 => .array .int
  | 3 => .array .int
  | 4 => .array .int
  | _ => .int
theorem nmX10 : ∀ a, a < 6 → ∀ b, b < 6 → a ≠ b → (TX10 a).2.1 ≠ (TX10 b).2.1 := by decide +kernel
theorem tyX10_ok : ∀ k, k < 6 → parseFieldDescriptor (TX10 k).2.2.1 = some (tyX10 k) := by decide +kernel
def RX11 : String := "NinthDayHooded"
def TX11 : u_T := fun k => match k with
  | 0 => ("NinthDayHooded", "text", "LNinthDayHooded$Text;", true)
  | 1 => ("NinthDayHooded", "row", "LNinthDayHooded$Row;", true)
  | 2 => ("NinthDayHooded", "people", "LNinthDayHooded$People;", true)
  | 3 => ("NinthDayHooded", "state", "LNinthDayHooded$State;", true)
  | 4 => ("NinthDayHooded", "sketch", "LNinthDayHooded$State;", true)
  | 5 => ("NinthDayHooded", "past", "LNinthDayHooded$Past;", true)
  | 6 => ("NinthDayHooded", "rule", "LNinthDayHooded$Rule;", true)
  | 7 => ("NinthDayHooded", "walk", "LNinthDayHooded$Walk;", true)
  | 8 => ("NinthDayHooded", "tasks", "LNinthDayHooded$Tasks;", true)
  | 9 => ("NinthDayHooded", "wishes", "LNinthDayHooded$Wishes;", true)
  | _ => ("NinthDayHooded", "thefts", "LNinthDayHooded$Thefts;", true)
def tyX11 : Nat → FieldType := fun k => match k with
  | 0 => .object "NinthDayHooded$Text"
  | 1 => .object "NinthDayHooded$Row"
  | 2 => .object "NinthDayHooded$People"
  | 3 => .object "NinthDayHooded$State"
  | 4 => .object "NinthDayHooded$State"
  | 5 => .object "NinthDayHooded$Past"
  | 6 => .object "NinthDayHooded$Rule"
  | 7 => .object "NinthDayHooded$Walk"
  | 8 => .object "NinthDayHooded$Tasks"
  | 9 => .object "NinthDayHooded$Wishes"
  | _ => .object "NinthDayHooded$Thefts"
theorem nmX11 : ∀ a, a < 11 → ∀ b, b < 11 → a ≠ b → (TX11 a).2.1 ≠ (TX11 b).2.1 := by decide +kernel
theorem tyX11_ok : ∀ k, k < 11 → parseFieldDescriptor (TX11 k).2.2.1 = some (tyX11 k) := by decide +kernel
def RX12 : String := "NinthDayHoodedModel"
def TX12 : u_T := fun k => match k with
  | 0 => ("NinthDayHoodedModel", "now", "[I", true)
  | 1 => ("NinthDayHoodedModel", "people", "I", false)
  | 2 => ("NinthDayHoodedModel", "trust", "[I", true)
  | 3 => ("NinthDayHoodedModel", "likes", "[I", true)
  | 4 => ("NinthDayHoodedModel", "text", "[B", true)
  | 5 => ("NinthDayHoodedModel", "typed", "I", false)
  | 6 => ("NinthDayHoodedModel", "row", "[I", true)
  | 7 => ("NinthDayHoodedModel", "rowMany", "I", false)
  | 8 => ("NinthDayHoodedModel", "thrown", "I", false)
  | 9 => ("NinthDayHoodedModel", "read", "[B", false)
  | 10 => ("NinthDayHoodedModel", "length", "I", false)
  | 11 => ("NinthDayHoodedModel", "top", "I", false)
  | 12 => ("NinthDayHoodedModel", "at", "I", false)
  | 13 => ("NinthDayHoodedModel", "wrong", "I", false)
  | 14 => ("NinthDayHoodedModel", "comes", "[I", true)
  | 15 => ("NinthDayHoodedModel", "rule", "[B", true)
  | 16 => ("NinthDayHoodedModel", "ruleSize", "I", false)
  | 17 => ("NinthDayHoodedModel", "askedState", "[I", false)
  | 18 => ("NinthDayHoodedModel", "askedOne", "I", false)
  | 19 => ("NinthDayHoodedModel", "askedGuide", "I", false)
  | 20 => ("NinthDayHoodedModel", "askedDay", "I", false)
  | 21 => ("NinthDayHoodedModel", "guide", "[I", true)
  | 22 => ("NinthDayHoodedModel", "bestGuide", "[I", true)
  | 23 => ("NinthDayHoodedModel", "leadsNow", "[I", true)
  | 24 => ("NinthDayHoodedModel", "costs", "[I", true)
  | 25 => ("NinthDayHoodedModel", "hooded", "I", false)
  | 26 => ("NinthDayHoodedModel", "leastAlone", "I", false)
  | 27 => ("NinthDayHoodedModel", "leastCost", "I", false)
  | 28 => ("NinthDayHoodedModel", "ledNow", "I", false)
  | 29 => ("NinthDayHoodedModel", "learnt", "I", false)
  | 30 => ("NinthDayHoodedModel", "undos", "[I", true)
  | 31 => ("NinthDayHoodedModel", "undoMany", "I", false)
  | 32 => ("NinthDayHoodedModel", "aside", "[I", true)
  | 33 => ("NinthDayHoodedModel", "acts", "[I", true)
  | 34 => ("NinthDayHoodedModel", "seasonLed", "I", false)
  | 35 => ("NinthDayHoodedModel", "counts", "[I", true)
  | 36 => ("NinthDayHoodedModel", "then", "[I", true)
  | 37 => ("NinthDayHoodedModel", "tasks", "[I", true)
  | 38 => ("NinthDayHoodedModel", "taskMany", "I", false)
  | 39 => ("NinthDayHoodedModel", "hoods", "[I", true)
  | 40 => ("NinthDayHoodedModel", "skills", "[I", true)
  | 41 => ("NinthDayHoodedModel", "askedMany", "I", false)
  | 42 => ("NinthDayHoodedModel", "placed", "[I", true)
  | 43 => ("NinthDayHoodedModel", "tried", "I", false)
  | 44 => ("NinthDayHoodedModel", "changed", "[I", true)
  | 45 => ("NinthDayHoodedModel", "wishes", "[I", true)
  | 46 => ("NinthDayHoodedModel", "wishMany", "I", false)
  | 47 => ("NinthDayHoodedModel", "colour", "[I", true)
  | 48 => ("NinthDayHoodedModel", "bestColour", "[I", true)
  | 49 => ("NinthDayHoodedModel", "fewestColours", "I", false)
  | 50 => ("NinthDayHoodedModel", "ring", "[I", true)
  | 51 => ("NinthDayHoodedModel", "ringMany", "I", false)
  | 52 => ("NinthDayHoodedModel", "given", "[I", true)
  | 53 => ("NinthDayHoodedModel", "thefts", "[I", true)
  | 54 => ("NinthDayHoodedModel", "theftMany", "I", false)
  | 55 => ("NinthDayHoodedModel", "seeing", "I", false)
  | 56 => ("NinthDayHoodedModel", "blind", "I", false)
  | 57 => ("NinthDayHoodedModel", "came", "I", false)
  | 58 => ("NinthDayHoodedModel", "kept", "[I", true)
  | 59 => ("NinthDayHoodedModel", "isKept", "[Z", true)
  | _ => ("NinthDayHoodedModel", "keptCame", "[I", true)
def tyX12 : Nat → FieldType := fun k => match k with
  | 0 => .array .int
  | 1 => .int
  | 2 => .array .int
  | 3 => .array .int
  | 4 => .array .byte
  | 5 => .int
  | 6 => .array .int
  | 7 => .int
  | 8 => .int
  | 9 => .array .byte
  | 10 => .int
  | 11 => .int
  | 12 => .int
  | 13 => .int
  | 14 => .array .int
  | 15 => .array .byte
  | 16 => .int
  | 17 => .array .int
  | 18 => .int
  | 19 => .int
  | 20 => .int
  | 21 => .array .int
  | 22 => .array .int
  | 23 => .array .int
  | 24 => .array .int
  | 25 => .int
  | 26 => .int
  | 27 => .int
  | 28 => .int
  | 29 => .int
  | 30 => .array .int
  | 31 => .int
  | 32 => .array .int
  | 33 => .array .int
  | 34 => .int
  | 35 => .array .int
  | 36 => .array .int
  | 37 => .array .int
  | 38 => .int
  | 39 => .array .int
  | 40 => .array .int
  | 41 => .int
  | 42 => .array .int
  | 43 => .int
  | 44 => .array .int
  | 45 => .array .int
  | 46 => .int
  | 47 => .array .int
  | 48 => .array .int
  | 49 => .int
  | 50 => .array .int
  | 51 => .int
  | 52 => .array .int
  | 53 => .array .int
  | 54 => .int
  | 55 => .int
  | 56 => .int
  | 57 => .int
  | 58 => .array .int
  | 59 => .array .boolean
  | _ => .array .int
theorem nmX12 : ∀ a, a < 61 → ∀ b, b < 61 → a ≠ b → (TX12 a).2.1 ≠ (TX12 b).2.1 := by decide +kernel
theorem tyX12_ok : ∀ k, k < 61 → parseFieldDescriptor (TX12 k).2.2.1 = some (tyX12 k) := by decide +kernel
-- own words
abbrev xe_cl : List vw_C := [(RX0, TX0, 9), (RX1, TX1, 5), (RX2, TX2, 5), (RX3, TX3, 2), (RX4, TX4, 12), (RX5, TX5, 6), (RX6, TX6, 11), (RX7, TX7, 2), (RX8, TX8, 4), (RX9, TX9, 5), (RX10, TX10, 6), (RX11, TX11, 11), (RX12, TX12, 61)]
def xe_ty (ci : Nat) : Nat → FieldType := match ci with
  | 0 => tyX0
  | 1 => tyX1
  | 2 => tyX2
  | 3 => tyX3
  | 4 => tyX4
  | 5 => tyX5
  | 6 => tyX6
  | 7 => tyX7
  | 8 => tyX8
  | 9 => tyX9
  | 10 => tyX10
  | 11 => tyX11
  | _ => tyX12
/-- the blank object of a class -/
def xe_dflt (ci : Nat) : List Value := match ci with
  | 0 => [.null, .null, .null, .null, .null, .null, .int 0, .int 0, .int 0]
  | 1 => [.null, .null, .null, .int 0, .int 0]
  | 2 => [.null, .null, .null, .null, .int 0]
  | 3 => [.null, .int 0]
  | 4 => [.null, .null, .null, .null, .null, .null, .int 0, .int 0, .int 0, .int 0, .int 0, .int 0]
  | 5 => [.null, .null, .null, .null, .null, .int 0]
  | 6 => [.null, .null, .null, .null, .null, .null, .null, .null, .int 0, .int 0, .int 0]
  | 7 => [.null, .int 0]
  | 8 => [.null, .null, .null, .int 0]
  | 9 => [.null, .null, .int 0, .int 0, .int 0]
  | 10 => [.null, .null, .null, .null, .null, .int 0]
  | 11 => [.null, .null, .null, .null, .null, .null, .null, .null, .null, .null, .null]
  | _ => [.null, .int 0, .null, .null, .null, .int 0, .null, .int 0, .int 0, .null, .int 0, .int 0, .int 0, .int 0, .null, .null, .int 0, .null, .int 0, .int 0, .int 0, .null, .null, .null, .null, .int 0, .int 0, .int 0, .int 0, .int 0, .null, .int 0, .null, .null, .int 0, .null, .null, .null, .int 0, .null, .null, .int 0, .null, .int 0, .null, .null, .int 0, .null, .null, .int 0, .null, .int 0, .null, .null, .int 0, .int 0, .int 0, .int 0, .null, .null, .null]
/-- how many places the law's own making fills, the script's among them -/
def xe_Z : Nat := 200
end
section
/-! THE PROGRAM LOGIC: an interpreter of resolved instructions over a memory of places, as a least fixed point. -/
abbrev xe_M : Type := Nat → va_E
abbrev xe_K : Type := Nat → List Value → List Value → Nat → Nat → Nat → xe_M → Prop
abbrev xe_Q : Type := Option Value → Nat → xe_M → Prop
abbrev xe_C : Type := Nat → List Value → Nat → xe_M → xe_Q → Prop
/-- a method: name, bytes, locals, answer, its class's number, kind (0 static, 1 instance, 2 constructor, 3 instance that may throw, 4 static with a table), arguments, cells, slots, resolved code, the places of its instructions -/
abbrev xe_I : Type := MethodName × ByteArray × Nat × Option FieldType × Nat × Nat × Nat × Nat × Nat × List Instr × List Nat
def xe_iy (f : xe_I) : MethodName := f.1
def xe_ib (f : xe_I) : ByteArray := f.2.1
def xe_iL (f : xe_I) : Nat := f.2.2.1
def xe_ir (f : xe_I) : Option FieldType := f.2.2.2.1
def xe_ic (f : xe_I) : Nat := f.2.2.2.2.1
def xe_ik (f : xe_I) : Nat := f.2.2.2.2.2.1
def xe_in (f : xe_I) : Nat := f.2.2.2.2.2.2.1
def xe_im (f : xe_I) : Nat := f.2.2.2.2.2.2.2.1
def xe_is (f : xe_I) : Nat := f.2.2.2.2.2.2.2.2.1
def xe_code (f : xe_I) : List Instr := f.2.2.2.2.2.2.2.2.2.1
def xe_pcs (f : xe_I) : List Nat := f.2.2.2.2.2.2.2.2.2.2
def xe_lg (v : Value) : Bool := match v with
  | .long _ => true
  | _ => false
/-- a value of one slot may be put at k -/
def xe_s1 (dl : List Value) (k : Nat) : Bool := decide (k < dl.length) && (k == 0 || !(xe_lg (dl.getD (k - 1) .null)))
def xe_s2 (dl : List Value) (k : Nat) : Bool := decide (k + 1 < dl.length) && (k == 0 || !(xe_lg (dl.getD (k - 1) .null)))
def xe_cat (r : List Value) : Nat := (r.map fun v => v.category).sum
def xe_b (c : ClassFile.Cond) (x y : Int32) : Prop := match c with
  | .eq => x = y
  | .ne => ¬ x = y
  | .lt => x < y
  | .ge => y ≤ x
  | .gt => y < x
  | .le => x ≤ y
/-- one resolved instruction: what must hold, and where it goes on -/
def xe_ins (T : List xe_I) (C : xe_C) (Q : xe_Q) (K : xe_K) (i : Nat) (dl st : List Value) (kc ks z : Nat) (M : xe_M) (ins : Instr) : Prop := match ins with
  | .sipush v => K (i + 1) dl (.int (Int32.ofInt v) :: st) kc ks z M
  | .lconst n => n = 0 ∧ K (i + 1) dl (.long 0 :: st) kc ks z M
  | .aconst_null => K (i + 1) dl (.null :: st) kc ks z M
  | .iload k => ∃ x, dl[k]? = some (.int x) ∧ K (i + 1) dl (.int x :: st) kc ks z M
  | .lload k => ∃ x, dl[k]? = some (.long x) ∧ K (i + 1) dl (.long x :: st) kc ks z M
  | .aload k => ∃ x, dl[k]? = some (.ref x) ∧ K (i + 1) dl (.ref x :: st) kc ks z M
  | .istore k => ∃ x r, st = .int x :: r ∧ xe_s1 dl k = true ∧ K (i + 1) (dl.set k (.int x)) r kc ks z M
  | .astore k => ∃ x r, st = .ref x :: r ∧ xe_s1 dl k = true ∧ K (i + 1) (dl.set k (.ref x)) r kc ks z M
  | .lstore k => ∃ x r, st = .long x :: r ∧ xe_s2 dl k = true ∧ K (i + 1) ((dl.set k (.long x)).set (k + 1) (.double 0)) r kc ks z M
  | .iinc k n => ∃ x, dl[k]? = some (.int x) ∧ xe_s1 dl k = true ∧ K (i + 1) (dl.set k (.int (x + Int32.ofInt n))) st kc ks z M
  | .iadd => ∃ x y r, st = .int y :: .int x :: r ∧ K (i + 1) dl (.int (x + y) :: r) kc ks z M
  | .isub => ∃ x y r, st = .int y :: .int x :: r ∧ K (i + 1) dl (.int (x - y) :: r) kc ks z M
  | .imul => ∃ x y r, st = .int y :: .int x :: r ∧ K (i + 1) dl (.int (x * y) :: r) kc ks z M
  | .iand => ∃ x y r, st = .int y :: .int x :: r ∧ K (i + 1) dl (.int (x &&& y) :: r) kc ks z M
  | .ior => ∃ x y r, st = .int y :: .int x :: r ∧ K (i + 1) dl (.int (x ||| y) :: r) kc ks z M
  | .ixor => ∃ x y r, st = .int y :: .int x :: r ∧ K (i + 1) dl (.int (x ^^^ y) :: r) kc ks z M
  | .idiv => ∃ x y r, st = .int y :: .int x :: r ∧ ¬ y = 0 ∧ K (i + 1) dl (.int (x / y) :: r) kc ks z M
  | .irem => ∃ x y r, st = .int y :: .int x :: r ∧ ¬ y = 0 ∧ K (i + 1) dl (.int (x - x / y * y) :: r) kc ks z M
  | .ishl => ∃ x y r, st = .int y :: .int x :: r ∧ K (i + 1) dl (.int (x <<< (y &&& 31)) :: r) kc ks z M
  | .ishr => ∃ x y r, st = .int y :: .int x :: r ∧ K (i + 1) dl (.int (x >>> (y &&& 31)) :: r) kc ks z M
  | .iushr => ∃ x y r, st = .int y :: .int x :: r ∧ K (i + 1) dl (.int (x.toUInt32 >>> (y.toUInt32 &&& Int32.toUInt32 31)).toInt32 :: r) kc ks z M
  | .ineg => ∃ x r, st = .int x :: r ∧ K (i + 1) dl (.int (-x) :: r) kc ks z M
  | .i2b => ∃ x r, st = .int x :: r ∧ K (i + 1) dl (.int x.toInt8.toInt32 :: r) kc ks z M
  | .i2s => ∃ x r, st = .int x :: r ∧ K (i + 1) dl (.int x.toInt16.toInt32 :: r) kc ks z M
  | .i2l => ∃ x r, st = .int x :: r ∧ K (i + 1) dl (.long x.toInt64 :: r) kc ks z M
  | .l2i => ∃ x r, st = .long x :: r ∧ K (i + 1) dl (.int x.toInt32 :: r) kc ks z M
  | .lor => ∃ x y r, st = .long y :: .long x :: r ∧ K (i + 1) dl (.long (x ||| y) :: r) kc ks z M
  | .lxor => ∃ x y r, st = .long y :: .long x :: r ∧ K (i + 1) dl (.long (x ^^^ y) :: r) kc ks z M
  | .lcmp => ∃ x y r, st = .long y :: .long x :: r ∧ K (i + 1) dl (.int (lg_cmp x y) :: r) kc ks z M
  | .lshl => ∃ x y r, st = .int y :: .long x :: r ∧ K (i + 1) dl (.long (x <<< (y.toInt64 &&& 63)) :: r) kc ks z M
  | .lushr => ∃ x y r, st = .int y :: .long x :: r ∧ K (i + 1) dl (.long (x.toUInt64 >>> (y.toInt64.toUInt64 &&& Int64.toUInt64 63)).toInt64 :: r) kc ks z M
  | .dup => ∃ v r, st = v :: r ∧ v.category = 1 ∧ K (i + 1) dl (v :: v :: r) kc ks z M
  | .pop => ∃ v r, st = v :: r ∧ v.category = 1 ∧ K (i + 1) dl r kc ks z M
  | .dup_x1 => ∃ v w r, st = v :: w :: r ∧ v.category = 1 ∧ w.category = 1 ∧ K (i + 1) dl (v :: w :: v :: r) kc ks z M
  | .dup2 => ∃ v w r, st = v :: w :: r ∧ v.category = 1 ∧ w.category = 1 ∧ K (i + 1) dl (v :: w :: v :: w :: r) kc ks z M
  | .goto t => K t.toNat dl st kc ks z M
  | .ifCond c t => ∃ x r, st = .int x :: r ∧ (xe_b c x 0 → K t.toNat dl r kc ks z M) ∧ (¬ xe_b c x 0 → K (i + 1) dl r kc ks z M)
  | .if_icmp c t => ∃ x y r, st = .int y :: .int x :: r ∧ (xe_b c x y → K t.toNat dl r kc ks z M) ∧ (¬ xe_b c x y → K (i + 1) dl r kc ks z M)
  | .ifnonnull t => (∃ a r, st = .ref a :: r ∧ K t.toNat dl r kc ks z M) ∨ ∃ r, st = .null :: r ∧ K (i + 1) dl r kc ks z M
  | .tableswitch d lo hi os => ∃ x r, st = .int x :: r ∧ ((x.toInt < lo ∨ hi < x.toInt) → K d.toNat dl r kc ks z M) ∧ (¬ x.toInt < lo → ¬ hi < x.toInt → ∃ t, os[(x.toInt - lo).toNat]? = some t ∧ K t.toNat dl r kc ks z M)
  | .lookupswitch d ps => ∃ x r, st = .int x :: r ∧ K (Op.lookupswitch.offset ps.toList d x.toInt).toNat dl r kc ks z M
  | .getfield n => ∃ a fs v r, st = .ref a :: r ∧ 0 < a ∧ a < z ∧ M a = .inr (n / 64, fs) ∧ fs[n % 64]? = some v ∧ K (i + 1) dl (v :: r) kc ks z M
  | .putfield n => ∃ a fs v r, st = v :: .ref a :: r ∧ 0 < a ∧ a < z ∧ M a = .inr (n / 64, fs) ∧ n % 64 < fs.length ∧ fits (xe_ty (n / 64) (n % 64)) v = true ∧ K (i + 1) dl r kc ks z (va_up M a (.inr (n / 64, fs.set (n % 64) v)))
  | .iaload => ∃ a j n f r, st = .int j :: .ref a :: r ∧ a < z ∧ M a = .inl (1, n, .inl f) ∧ vp_in j n ∧ K (i + 1) dl (.int (f j.toNatClampNeg) :: r) kc ks z M
  | .baload => ∃ a j t n f r, st = .int j :: .ref a :: r ∧ 0 < a ∧ a < z ∧ (t = 0 ∨ t = 3) ∧ M a = .inl (t, n, .inl f) ∧ vp_in j n ∧ K (i + 1) dl (.int (f j.toNatClampNeg) :: r) kc ks z M
  | .laload => ∃ a j n f r, st = .int j :: .ref a :: r ∧ 0 < a ∧ a < z ∧ M a = .inl (2, n, .inr (.inl f)) ∧ vp_in j n ∧ K (i + 1) dl (.long (f j.toNatClampNeg) :: r) kc ks z M
  | .aaload => ∃ a j n f r, st = .int j :: .ref a :: r ∧ 0 < a ∧ a < z ∧ M a = .inl (4, n, .inr (.inr (.inr (.inr f)))) ∧ vp_in j n ∧ K (i + 1) dl (va_rf (f j.toNatClampNeg) :: r) kc ks z M
  | .iastore => ∃ a j x n f r, st = .int x :: .int j :: .ref a :: r ∧ 0 < a ∧ a < z ∧ M a = .inl (1, n, .inl f) ∧ vp_in j n ∧ K (i + 1) dl r kc ks z (va_up M a (.inl (1, n, .inl (upd f j.toNatClampNeg x))))
  | .bastore => ∃ a j x t n f r, st = .int x :: .int j :: .ref a :: r ∧ 0 < a ∧ a < z ∧ ((t = 0 ∧ x.toInt8.toInt32 = x) ∨ (t = 3 ∧ (x = 0 ∨ x = 1))) ∧ M a = .inl (t, n, .inl f) ∧ vp_in j n ∧ K (i + 1) dl r kc ks z (va_up M a (.inl (t, n, .inl (upd f j.toNatClampNeg x))))
  | .lastore => ∃ a j x n f r, st = .long x :: .int j :: .ref a :: r ∧ 0 < a ∧ a < z ∧ M a = .inl (2, n, .inr (.inl f)) ∧ vp_in j n ∧ K (i + 1) dl r kc ks z (va_up M a (.inl (2, n, .inr (.inl (vp_updL f j.toNatClampNeg x)))))
  | .aastore => ∃ a j q n f fs r, st = .ref q :: .int j :: .ref a :: r ∧ 0 < a ∧ a < z ∧ 0 < q ∧ q < z ∧ M q = .inr (5, fs) ∧ M a = .inl (4, n, .inr (.inr (.inr (.inr f)))) ∧ vp_in j n ∧ K (i + 1) dl r kc ks z (va_up M a (.inl (4, n, .inr (.inr (.inr (.inr (va_up f j.toNatClampNeg (some q))))))))
  | .arraylength => ∃ a t n x r, st = .ref a :: r ∧ a < z ∧ t < 5 ∧ M a = .inl (t, n, x) ∧ (a = 0 → t = 1) ∧ K (i + 1) dl (.int (Int32.ofNat n) :: r) kc ks z M
  | .monitorenter => ∃ a0 a sp dp n n0 n1 f g r, st = .int n :: .int dp :: .ref a :: .int sp :: .ref a0 :: r ∧ 0 < a0 ∧ a0 < z ∧ 0 < a ∧ a < z ∧ xe_cat r ≤ 8 ∧ M a0 = .inl (1, n0, .inl f) ∧ M a = .inl (1, n1, .inl g) ∧ ¬ sp < 0 ∧ ¬ dp < 0 ∧ ¬ n < 0 ∧ sp.toNatClampNeg + n.toNatClampNeg ≤ n0 ∧ dp.toNatClampNeg + n.toNatClampNeg ≤ n1 ∧ K (i + 1) dl r kc ks z (va_up M a (.inl (1, n1, .inl (va_cpy f g sp.toNatClampNeg dp.toNatClampNeg n.toNatClampNeg))))
  | .monitorexit => ∃ a0 a sp dp n n0 n1 f g r, st = .int n :: .int dp :: .ref a :: .int sp :: .ref a0 :: r ∧ 0 < a0 ∧ a0 < z ∧ 0 < a ∧ a < z ∧ xe_cat r ≤ 8 ∧ M a0 = .inl (2, n0, .inr (.inl f)) ∧ M a = .inl (2, n1, .inr (.inl g)) ∧ ¬ sp < 0 ∧ ¬ dp < 0 ∧ ¬ n < 0 ∧ sp.toNatClampNeg + n.toNatClampNeg ≤ n0 ∧ dp.toNatClampNeg + n.toNatClampNeg ≤ n1 ∧ K (i + 1) dl r kc ks z (va_up M a (.inl (2, n1, .inr (.inl (va_cpy f g sp.toNatClampNeg dp.toNatClampNeg n.toNatClampNeg)))))
  | .nop => ∃ a r, st = .ref a :: r ∧ xe_cat r ≤ 8 ∧ K (i + 1) dl r kc ks z M
  | .invokevirtual g => ∃ inf As a fs r, T[g]? = some inf ∧ xe_ik inf = 1 ∧ st = As.reverse ++ .ref a :: r ∧ As.length = xe_in inf ∧ 0 < a ∧ a < z ∧ M a = .inr (xe_ic inf, fs) ∧ xe_cat r ≤ 8 ∧ xe_im inf ≤ kc ∧ xe_is inf ≤ ks ∧ C g (.ref a :: As) z M (fun v z' M' => K (i + 1) dl (v.toList ++ r) (kc - xe_im inf) (ks - xe_is inf) z' M')
  | .invokespecial g => ∃ inf As a fs r, T[g]? = some inf ∧ xe_ik inf = 2 ∧ st = As.reverse ++ .ref a :: r ∧ As.length = xe_in inf ∧ 0 < a ∧ a < z ∧ M a = .inr (xe_ic inf, fs) ∧ xe_cat r ≤ 8 ∧ xe_im inf ≤ kc ∧ xe_is inf ≤ ks ∧ C g (.ref a :: As) z M (fun v z' M' => K (i + 1) dl (v.toList ++ r) (kc - xe_im inf) (ks - xe_is inf) z' M')
  | .invokestatic g => ∃ inf As r, T[g]? = some inf ∧ (xe_ik inf = 0 ∨ xe_ik inf = 4) ∧ st = As.reverse ++ r ∧ As.length = xe_in inf ∧ xe_cat r ≤ 8 ∧ xe_im inf ≤ kc ∧ xe_is inf ≤ ks ∧ C g As z M (fun v z' M' => K (i + 1) dl (v.toList ++ r) (kc - xe_im inf) (ks - xe_is inf) z' M')
  | .new c => ∃ r, xe_cl[c]? = some r ∧ z < xe_Z ∧ 1 ≤ kc ∧ r.2.2 ≤ ks ∧ K (i + 1) dl (.ref z :: st) (kc - 1) (ks - r.2.2) (z + 1) (va_up M z (.inr (c, xe_dflt c)))
  | .newarray t => ∃ n r, st = .int n :: r ∧ ¬ n < 0 ∧ n.toNatClampNeg ≤ 10000 ∧ z < xe_Z ∧ 1 ≤ kc ∧ n.toNatClampNeg ≤ ks ∧ K (i + 1) dl (.ref z :: r) (kc - 1) (ks - n.toNatClampNeg) (z + 1) (va_up M z (match t with | .byte => .inl (0, n.toNatClampNeg, .inl (fun _ => 0)) | .boolean => .inl (3, n.toNatClampNeg, .inl (fun _ => 0)) | .long => .inl (2, n.toNatClampNeg, .inr (.inl (fun _ => 0))) | _ => .inl (1, n.toNatClampNeg, .inl (fun _ => 0))))
  | .anewarray _ => ∃ n r, st = .int n :: r ∧ ¬ n < 0 ∧ n.toNatClampNeg ≤ 10000 ∧ z < xe_Z ∧ 1 ≤ kc ∧ n.toNatClampNeg ≤ ks ∧ K (i + 1) dl (.ref z :: r) (kc - 1) (ks - n.toNatClampNeg) (z + 1) (va_up M z (.inl (4, n.toNatClampNeg, .inr (.inr (.inr (.inr (fun _ => none)))))))
  | .ireturn => ∃ x, st = [.int x] ∧ Q (some (.int x)) z M
  | .freturn => ∃ x, st = [.int x] ∧ (x = 0 ∨ x = 1) ∧ Q (some (.int x)) z M
  | .return_ => st = [] ∧ Q none z M
  | _ => False
def xe_step (T : List xe_I) (C : xe_C) (code : List Instr) (Q : xe_Q) (K : xe_K) : xe_K := fun i dl st kc ks z M => ∃ ins, code[i]? = some ins ∧ xe_ins T C Q K i dl st kc ks z M ins
/-- from here the body comes to an end with Q -/
def xe_Ev (T : List xe_I) (C : xe_C) (code : List Instr) (Q : xe_Q) : xe_K := fun i dl st kc ks z M => ∀ X : xe_K, (∀ i dl st kc ks z M, xe_step T C code Q X i dl st kc ks z M → X i dl st kc ks z M) → X i dl st kc ks z M
def xe_entry (n : Nat) (args : List Value) : List Value := args ++ List.replicate (n - args.length) (.double 0)
/-- a call, at most d deep -/
def xe_Call (T : List xe_I) : Nat → xe_C
  | 0 => fun _ _ _ _ _ => False
  | d + 1 => fun g args z M Q => ∃ inf, T[g]? = some inf ∧ xe_Ev T (xe_Call T d) (xe_code inf) Q 0 (xe_entry (xe_iL inf) args) [] (xe_im inf) (xe_is inf) z M
/-- the places in the heap -/
def xe_ad (b base k : Nat) : Nat := match k with
  | 0 => b
  | j + 1 => base + j
def xe_v (b base : Nat) (v : Value) : Value := match v with
  | .ref k => .ref (xe_ad b base k)
  | w => w
def xe_x (b base : Nat) (x : (Nat → Int32) ⊕ (Nat → Int64) ⊕ (Nat → UInt32) ⊕ (Nat → UInt64) ⊕ (Nat → Option Nat)) : (Nat → Int32) ⊕ (Nat → Int64) ⊕ (Nat → UInt32) ⊕ (Nat → UInt64) ⊕ (Nat → Option Nat) := match x with
  | .inr (.inr (.inr (.inr f))) => .inr (.inr (.inr (.inr (fun i => (f i).map (xe_ad b base)))))
  | y => y
def xe_c (ty : Nat → ClassId) (b base : Nat) (e : va_E) : va_E := match e with
  | .inl (t, n, x) => .inl (ty t, n, xe_x b base x)
  | .inr (ci, fs) => .inr (ci, fs.map (xe_v b base))
def xe_W (ty : Nat → ClassId) (b base z : Nat) (M : xe_M) : va_W := (List.range (z - 1)).map (fun k => (base + k, xe_c ty b base (M (k + 1))))
theorem xe_W_get {ty : Nat → ClassId} {b base z : Nat} {M : xe_M} {k : Nat} (h : k + 1 < z) : (xe_W ty b base z M)[k]? = some (base + k, xe_c ty b base (M (k + 1))) := by
  unfold xe_W
  rw [List.getElem?_map, List.getElem?_range (by omega)]
  rfl
theorem xe_W_len {ty : Nat → ClassId} {b base z : Nat} {M : xe_M} : (xe_W ty b base z M).length = z - 1 := by simp [xe_W]
theorem xe_W_set {ty : Nat → ClassId} {b base z : Nat} {M : xe_M} {k : Nat} (e : va_E) : (xe_W ty b base z M).set k (base + k, xe_c ty b base e) = xe_W ty b base z (va_up M (k + 1) e) := by
  apply List.ext_getElem?
  intro j
  by_cases hj : j + 1 < z
  · rw [xe_W_get hj]
    by_cases hk : j = k
    · subst hk
      rw [List.getElem?_set_self (by rw [xe_W_len]; omega)]
      simp [va_up]
    · rw [List.getElem?_set_ne (Ne.symm hk), xe_W_get hj, va_up_ne _ _ (by omega)]
  · rw [List.getElem?_eq_none (by rw [List.length_set, xe_W_len]; omega), List.getElem?_eq_none (by rw [xe_W_len]; omega)]
theorem xe_W_push {ty : Nat → ClassId} {b base z : Nat} {M : xe_M} (hz : 1 ≤ z) (e : va_E) : xe_W ty b base z M ++ [(base + (z - 1), xe_c ty b base e)] = xe_W ty b base (z + 1) (va_up M z e) := by
  apply List.ext_getElem?
  intro j
  by_cases hj : j + 1 < z
  · rw [List.getElem?_append_left (by rw [xe_W_len]; omega), xe_W_get hj, xe_W_get (by omega), va_up_ne _ _ (by omega)]
  · by_cases hj2 : j + 1 = z
    · subst hj2
      rw [List.getElem?_append_right (by rw [xe_W_len]; omega), xe_W_get (by omega), xe_W_len]
      simp [va_up]
    · rw [List.getElem?_eq_none (by rw [List.length_append, xe_W_len]; simp; omega), List.getElem?_eq_none (by rw [xe_W_len]; omega)]
theorem xe_W_D {ty : Nat → ClassId} {b base z : Nat} {M : xe_M} : va_D (fun q => base ≤ q) (xe_W ty b base z M) := by
  have key : ∀ (k : Nat) (q : Nat × va_E), (xe_W ty b base z M)[k]? = some q → q.1 = base + k := by
    intro k q hq
    have hl := (List.getElem?_eq_some_iff.mp hq).1
    rw [xe_W_len] at hl
    rw [xe_W_get (by omega)] at hq
    cases hq
    rfl
  refine ⟨fun i j x y hx hy hxy => ?_, fun k q hq => ?_⟩
  · have h1 := key i x hx
    have h2 := key j y hy
    omega
  · show base ≤ q.1
    rw [key k q hq]
    omega
/-- rules of the least fixed point -/
theorem xe_mono {T : List xe_I} {C : xe_C} (hC : ∀ g a z M (P P' : xe_Q), (∀ v z M, P v z M → P' v z M) → C g a z M P → C g a z M P') {Q : xe_Q} {K K' : xe_K} (hK : ∀ i dl st kc ks z M, K i dl st kc ks z M → K' i dl st kc ks z M) {i : Nat} {dl st : List Value} {kc ks z : Nat} {M : xe_M} {ins : Instr} (h : xe_ins T C Q K i dl st kc ks z M ins) : xe_ins T C Q K' i dl st kc ks z M ins := by
  unfold xe_ins at h ⊢
  split at h
  all_goals first
    | exact hK _ _ _ _ _ _ _ h
    | exact h.elim
    | exact h
    | exact ⟨h.1, hK _ _ _ _ _ _ _ h.2⟩
    | (obtain ⟨x, h1, h⟩ := h; exact ⟨x, h1, hK _ _ _ _ _ _ _ h⟩)
    | (obtain ⟨x, r, h1, h⟩ := h; exact ⟨x, r, h1, hK _ _ _ _ _ _ _ h⟩)
    | (obtain ⟨x, r, h1, h2, h⟩ := h; exact ⟨x, r, h1, h2, hK _ _ _ _ _ _ _ h⟩)
    | (obtain ⟨x, h1, h2, h⟩ := h; exact ⟨x, h1, h2, hK _ _ _ _ _ _ _ h⟩)
    | (obtain ⟨x, y, r, h1, h⟩ := h; exact ⟨x, y, r, h1, hK _ _ _ _ _ _ _ h⟩)
    | (obtain ⟨x, y, r, h1, h2, h⟩ := h; exact ⟨x, y, r, h1, h2, hK _ _ _ _ _ _ _ h⟩)
    | (obtain ⟨x, y, r, h1, h2, h3, h⟩ := h; exact ⟨x, y, r, h1, h2, h3, hK _ _ _ _ _ _ _ h⟩)
    | (obtain ⟨x, r, h1, h2, h⟩ := h; exact ⟨x, r, h1, fun q => hK _ _ _ _ _ _ _ (h2 q), fun q => hK _ _ _ _ _ _ _ (h q)⟩)
    | (obtain ⟨x, y, r, h1, h2, h⟩ := h; exact ⟨x, y, r, h1, fun q => hK _ _ _ _ _ _ _ (h2 q), fun q => hK _ _ _ _ _ _ _ (h q)⟩)
    | (rcases h with ⟨a, r, h1, h⟩ | ⟨r, h1, h⟩
       · exact Or.inl ⟨a, r, h1, hK _ _ _ _ _ _ _ h⟩
       · exact Or.inr ⟨r, h1, hK _ _ _ _ _ _ _ h⟩)
    | (obtain ⟨x, r, h1, h2, h⟩ := h; exact ⟨x, r, h1, fun q => hK _ _ _ _ _ _ _ (h2 q), fun q q' => (h q q').elim fun t ht => ⟨t, ht.1, hK _ _ _ _ _ _ _ ht.2⟩⟩)
    | (obtain ⟨a1, a2, a3, a4, h1, h2, h3, h4, h5, h⟩ := h; exact ⟨a1, a2, a3, a4, h1, h2, h3, h4, h5, hK _ _ _ _ _ _ _ h⟩)
    | (obtain ⟨a1, a2, a3, a4, h1, h2, h3, h4, h5, h6, h⟩ := h; exact ⟨a1, a2, a3, a4, h1, h2, h3, h4, h5, h6, hK _ _ _ _ _ _ _ h⟩)
    | (obtain ⟨a1, a2, a3, a4, a5, h1, h2, h3, h4, h⟩ := h; exact ⟨a1, a2, a3, a4, a5, h1, h2, h3, h4, hK _ _ _ _ _ _ _ h⟩)
    | (obtain ⟨a1, a2, a3, a4, a5, h1, h2, h3, h4, h5, h⟩ := h; exact ⟨a1, a2, a3, a4, a5, h1, h2, h3, h4, h5, hK _ _ _ _ _ _ _ h⟩)
    | (obtain ⟨a1, a2, a3, a4, a5, a6, h1, h2, h3, h4, h5, h⟩ := h; exact ⟨a1, a2, a3, a4, a5, a6, h1, h2, h3, h4, h5, hK _ _ _ _ _ _ _ h⟩)
    | (obtain ⟨a1, a2, a3, a4, a5, a6, h1, h2, h3, h4, h5, h6, h⟩ := h; exact ⟨a1, a2, a3, a4, a5, a6, h1, h2, h3, h4, h5, h6, hK _ _ _ _ _ _ _ h⟩)
    | (obtain ⟨a1, a2, a3, a4, a5, a6, a7, h1, h2, h3, h4, h5, h6, h⟩ := h; exact ⟨a1, a2, a3, a4, a5, a6, a7, h1, h2, h3, h4, h5, h6, hK _ _ _ _ _ _ _ h⟩)
    | (obtain ⟨a1, a2, a3, a4, a5, a6, a7, h1, h2, h3, h4, h5, h6, h7, h8, h⟩ := h; exact ⟨a1, a2, a3, a4, a5, a6, a7, h1, h2, h3, h4, h5, h6, h7, h8, hK _ _ _ _ _ _ _ h⟩)
    | (obtain ⟨a1, a2, a3, a4, a5, a6, a7, a8, a9, a10, h1, h2, h3, h4, h5, h6, h7, h8, h9, h10, h11, h12, h13, h⟩ := h; exact ⟨a1, a2, a3, a4, a5, a6, a7, a8, a9, a10, h1, h2, h3, h4, h5, h6, h7, h8, h9, h10, h11, h12, h13, hK _ _ _ _ _ _ _ h⟩)
    | (obtain ⟨a1, a2, a3, a4, a5, h1, h2, h3, h4, h5, h6, h7, h8, h9, h10, h⟩ := h; exact ⟨a1, a2, a3, a4, a5, h1, h2, h3, h4, h5, h6, h7, h8, h9, h10, hC _ _ _ _ _ _ (fun v z M q => hK _ _ _ _ _ _ _ q) h⟩)
    | (obtain ⟨a1, a2, a3, h1, h2, h3, h4, h5, h6, h7, h⟩ := h; exact ⟨a1, a2, a3, h1, h2, h3, h4, h5, h6, h7, hC _ _ _ _ _ _ (fun v z M q => hK _ _ _ _ _ _ _ q) h⟩)
    | (obtain ⟨a1, h1, h2, h3, h4, h⟩ := h; exact ⟨a1, h1, h2, h3, h4, hK _ _ _ _ _ _ _ h⟩)
    | (obtain ⟨a1, a2, h1, h2, h3, h4, h5, h6, h⟩ := h; exact ⟨a1, a2, h1, h2, h3, h4, h5, h6, hK _ _ _ _ _ _ _ h⟩)
theorem xe_Qmono {T : List xe_I} {C : xe_C} {Q Q' : xe_Q} (hQ : ∀ v z M, Q v z M → Q' v z M) {K : xe_K} {i : Nat} {dl st : List Value} {kc ks z : Nat} {M : xe_M} {ins : Instr} (h : xe_ins T C Q K i dl st kc ks z M ins) : xe_ins T C Q' K i dl st kc ks z M ins := by
  unfold xe_ins at h ⊢
  split at h
  all_goals first
    | exact h
    | (obtain ⟨x, h1, h⟩ := h; exact ⟨x, h1, hQ _ _ _ h⟩)
    | (obtain ⟨x, h1, h2, h⟩ := h; exact ⟨x, h1, h2, hQ _ _ _ h⟩)
    | exact ⟨h.1, hQ _ _ _ h.2⟩
theorem xe_Ev_Q {T : List xe_I} {C : xe_C} {code : List Instr} {Q Q' : xe_Q} (hQ : ∀ v z M, Q v z M → Q' v z M) {i : Nat} {dl st : List Value} {kc ks z : Nat} {M : xe_M} (h : xe_Ev T C code Q i dl st kc ks z M) : xe_Ev T C code Q' i dl st kc ks z M := fun X hX => h X (fun i dl st kc ks z M q => hX i dl st kc ks z M (q.elim fun ins hi => ⟨ins, hi.1, xe_Qmono hQ hi.2⟩))
theorem xe_Call_Q {T : List xe_I} : ∀ (d : Nat) (g : Nat) (a : List Value) (z : Nat) (M : xe_M) (P P' : xe_Q), (∀ v z M, P v z M → P' v z M) → xe_Call T d g a z M P → xe_Call T d g a z M P'
  | 0, _, _, _, _, _, _, _, h => h.elim
  | d + 1, g, a, z, M, P, P', hP, h => h.elim fun inf hi => ⟨inf, hi.1, xe_Ev_Q hP hi.2⟩
theorem xe_Ev_step {T : List xe_I} {d : Nat} {code : List Instr} {Q : xe_Q} {i : Nat} {dl st : List Value} {kc ks z : Nat} {M : xe_M} (h : xe_step T (xe_Call T d) code Q (xe_Ev T (xe_Call T d) code Q) i dl st kc ks z M) : xe_Ev T (xe_Call T d) code Q i dl st kc ks z M := by
  intro X hX
  obtain ⟨ins, h1, h2⟩ := h
  exact hX _ _ _ _ _ _ _ ⟨ins, h1, xe_mono (xe_Call_Q d) (fun i dl st kc ks z M q => q X hX) h2⟩
end
