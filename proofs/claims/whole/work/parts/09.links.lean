/-! LINKS, by their places in the tables: by program. -/
def xm_w (j : Nat) (w : Cond) : Bool := decide (lw_tbl[j]? = some w)
theorem xm_w_good {j : Nat} {w : Cond} (h : xm_w j w = true) (hg : goodWord w = true) : w ∈ xe_good := List.mem_filter.mpr ⟨List.mem_of_getElem? (of_decide_eq_true h), hg⟩
theorem xm_w_nest {j : Nat} {w : Cond} (h : xm_w j w = true) (hg : xe_isN w = true) (hs : ∀ a b c, w ≠ .selects a b c) : w ∈ xe_nest := by
  have h1 := List.mem_of_getElem? (of_decide_eq_true h)
  rcases List.mem_append.mp h1 with h2 | h2
  · obtain ⟨q, -, hq⟩ := List.mem_map.mp h2
    exact absurd hq.symm (hs _ _ _)
  · exact List.mem_filter.mpr ⟨h2, hg⟩
/-- fields: (entry, class, place in it, place in the tables) -/
def xm_ckF (own : String) (q : Nat × Nat × Nat × Nat) : Bool := match xe_cl[q.2.1]? with
  | none => false
  | some r => decide (q.2.2.1 < r.2.2) && decide ((r.2.1 q.2.2.1).1 = r.1) && (xm_w q.2.2.2 (.fieldLink own q.1 r.1 (r.2.1 q.2.2.1).2.1 (r.2.1 q.2.2.1).2.2.1) || xm_w q.2.2.2 (.fieldLinkNest own q.1 r.1 (r.2.1 q.2.2.1).2.1 (r.2.1 q.2.2.1).2.2.1 "NinthDayHooded"))
def xm_ckM (own : String) (T : List xe_I) (q : Nat × Nat × Nat) : Bool := match T[q.2.1]? with
  | none => false
  | some f => xm_w q.2.2 (.methodLink own q.1 (xe_iy f)) || xm_w q.2.2 (.methodLinkNest own q.1 (xe_iy f) "NinthDayHooded")
def xm_ckC (own : String) (q : Nat × Nat × Nat × Nat × Nat) : Bool := match xe_cl[q.2.1]? with
  | none => false
  | some r => xm_w q.2.2.1 (.classLink own q.1 r.1) && xm_w q.2.2.2.1 (.instantiable r.1 r.2.2) && xm_w q.2.2.2.2 (.initialized r.1)
abbrev xm_L : Type := List (Nat × Nat × Nat × Nat) × List (Nat × Nat × Nat) × List (Nat × Int × Nat) × List (Nat × Nat × Nat × Nat × Nat) × List (Nat × Nat) × List (Nat × Nat)
def xm_cp (L : xm_L) : xe_cp := (L.1.map (fun q => (q.1, q.2.1, q.2.2.1)), L.2.1.map (fun q => (q.1, q.2.1)), L.2.2.1.map (fun q => (q.1, q.2.1)), L.2.2.2.1.map (fun q => (q.1, q.2.1)), L.2.2.2.2.1.map (fun q => q.1), L.2.2.2.2.2.map (fun q => q.1))
def xm_ckL (own : String) (T : List xe_I) (L : xm_L) : Bool := L.1.all (xm_ckF own) && L.2.1.all (xm_ckM own T) && L.2.2.1.all (fun q => xm_w q.2.2 (.constant own q.1 (Int32.ofInt q.2.1))) && L.2.2.2.1.all (xm_ckC own) && L.2.2.2.2.1.all (fun q => xm_w q.2 (.methodLink own q.1 arraycopyName)) && L.2.2.2.2.2.all (fun q => xm_w q.2 (.methodLink own q.1 objectInit))

theorem xm_u0 : (u_ws RX0 TX0 9 = [363, 365, 367, 369, 371, 373, 375, 377, 379].filterMap (fun i => lw_tbl[i]?)) ∧ (u_ws RX0 TX0 9).all goodWord = true := by decide +kernel
theorem xm_u1 : (u_ws RX1 TX1 5 = [281, 283, 285, 287, 289].filterMap (fun i => lw_tbl[i]?)) ∧ (u_ws RX1 TX1 5).all goodWord = true := by decide +kernel
theorem xm_u2 : (u_ws RX2 TX2 5 = [216, 218, 220, 222, 224].filterMap (fun i => lw_tbl[i]?)) ∧ (u_ws RX2 TX2 5).all goodWord = true := by decide +kernel
theorem xm_u3 : (u_ws RX3 TX3 2 = [190, 192].filterMap (fun i => lw_tbl[i]?)) ∧ (u_ws RX3 TX3 2).all goodWord = true := by decide +kernel
theorem xm_u4 : (u_ws RX4 TX4 12 = [310, 312, 314, 316, 318, 320, 322, 324, 326, 328, 330, 332].filterMap (fun i => lw_tbl[i]?)) ∧ (u_ws RX4 TX4 12).all goodWord = true := by decide +kernel
theorem xm_u5 : (u_ws RX5 TX5 6 = [250, 252, 254, 256, 258, 260].filterMap (fun i => lw_tbl[i]?)) ∧ (u_ws RX5 TX5 6).all goodWord = true := by decide +kernel
theorem xm_u6 : (u_ws RX6 TX6 11 = [424, 426, 428, 430, 432, 434, 436, 438, 440, 442, 444].filterMap (fun i => lw_tbl[i]?)) ∧ (u_ws RX6 TX6 11).all goodWord = true := by decide +kernel
theorem xm_u7 : (u_ws RX7 TX7 2 = [174, 176].filterMap (fun i => lw_tbl[i]?)) ∧ (u_ws RX7 TX7 2).all goodWord = true := by decide +kernel
theorem xm_u8 : (u_ws RX8 TX8 4 = [485, 487, 489, 491].filterMap (fun i => lw_tbl[i]?)) ∧ (u_ws RX8 TX8 4).all goodWord = true := by decide +kernel
theorem xm_u9 : (u_ws RX9 TX9 5 = [392, 394, 396, 398, 400].filterMap (fun i => lw_tbl[i]?)) ∧ (u_ws RX9 TX9 5).all goodWord = true := by decide +kernel
theorem xm_u10 : (u_ws RX10 TX10 6 = [461, 463, 465, 467, 469, 471].filterMap (fun i => lw_tbl[i]?)) ∧ (u_ws RX10 TX10 6).all goodWord = true := by decide +kernel
theorem xm_u11 : (u_ws RX11 TX11 11 = [505, 507, 509, 511, 513, 515, 517, 519, 521, 523, 525].filterMap (fun i => lw_tbl[i]?)) ∧ (u_ws RX11 TX11 11).all goodWord = true := by decide +kernel
theorem xm_u12 : (u_ws RX12 TX12 61 = [1353, 1355, 1357, 1359, 1361, 1363, 1365, 1367, 1369, 1371, 1373, 1375, 1377, 1379, 1381, 1383, 1385, 1387, 1389, 1391, 1393, 1395, 1397, 1399, 1401, 1403, 1405, 1407, 1409, 1411, 1413, 1415, 1417, 1419, 1421, 1423, 1425, 1427, 1429, 1431, 1433, 1435, 1437, 1439, 1441, 1443, 1445, 1447, 1449, 1451, 1453, 1455, 1457, 1459, 1461, 1463, 1465, 1467, 1469, 1471, 1473].filterMap (fun i => lw_tbl[i]?)) ∧ (u_ws RX12 TX12 61).all goodWord = true := by decide +kernel
theorem xm_uof {ws : List Cond} {ps : List Nat} (h : (ws = ps.filterMap (fun i => lw_tbl[i]?)) ∧ ws.all goodWord = true) : ∀ w ∈ ws, w ∈ xe_good := by
  intro w hw
  have h2 := List.all_eq_true.mp h.2 w hw
  rw [h.1] at hw
  obtain ⟨i, -, hi⟩ := List.mem_filterMap.mp hw
  exact List.mem_filter.mpr ⟨List.mem_of_getElem? hi, h2⟩
theorem xm_u : ∀ (ci : Nat) (r : vw_C), xe_cl[ci]? = some r → ∀ w ∈ u_ws r.1 r.2.1 r.2.2, w ∈ xe_good := by
  intro ci r h
  match ci, h with
  | 0, h => cases h; exact xm_uof xm_u0
  | 1, h => cases h; exact xm_uof xm_u1
  | 2, h => cases h; exact xm_uof xm_u2
  | 3, h => cases h; exact xm_uof xm_u3
  | 4, h => cases h; exact xm_uof xm_u4
  | 5, h => cases h; exact xm_uof xm_u5
  | 6, h => cases h; exact xm_uof xm_u6
  | 7, h => cases h; exact xm_uof xm_u7
  | 8, h => cases h; exact xm_uof xm_u8
  | 9, h => cases h; exact xm_uof xm_u9
  | 10, h => cases h; exact xm_uof xm_u10
  | 11, h => cases h; exact xm_uof xm_u11
  | 12, h => cases h; exact xm_uof xm_u12
  | n + 13, h => simp [xe_cl] at h
theorem xm_cpok {own : String} {T : List xe_I} {L : xm_L} (h : xm_ckL own T L = true) : xe_cpok own T (xm_cp L) := by
  simp only [xm_ckL, Bool.and_eq_true, List.all_eq_true] at h
  obtain ⟨⟨⟨⟨⟨h1, h2⟩, h3⟩, h4⟩, h5⟩, h6⟩ := h
  refine ⟨fun q hq => ?_, fun q hq inf hT => ?_, fun q hq => ?_, fun q hq => ?_, fun q hq => ?_, fun q hq => ?_⟩
  · obtain ⟨x, hx, rfl⟩ := List.mem_map.mp hq
    have hk := h1 x hx
    unfold xm_ckF at hk
    split at hk
    · cases hk
    · rename_i r hr
      simp only [Bool.and_eq_true, Bool.or_eq_true, decide_eq_true_eq] at hk
      refine ⟨r, hr, hk.1.1, hk.1.2, xm_u _ r hr, ?_⟩
      rcases hk.2 with q | q
      · exact Or.inl (xm_w_good q rfl)
      · exact Or.inr ⟨_, xm_w_nest q rfl (fun _ _ _ h => by cases h)⟩
  · obtain ⟨x, hx, rfl⟩ := List.mem_map.mp hq
    have hk := h2 x hx
    unfold xm_ckM at hk
    rw [show T[x.2.1]? = some inf from hT] at hk
    simp only [Bool.or_eq_true] at hk
    rcases hk with q | q
    · exact Or.inl (xm_w_good q rfl)
    · exact Or.inr ⟨_, xm_w_nest q rfl (fun _ _ _ h => by cases h)⟩
  · obtain ⟨x, hx, rfl⟩ := List.mem_map.mp hq
    exact xm_w_good (h3 x hx) rfl
  · obtain ⟨x, hx, rfl⟩ := List.mem_map.mp hq
    have hk := h4 x hx
    unfold xm_ckC at hk
    split at hk
    · cases hk
    · rename_i r hr
      simp only [Bool.and_eq_true] at hk
      exact ⟨r, hr, xm_u _ r hr, xm_w_good hk.1.1 rfl, xm_w_good hk.1.2 rfl, xm_w_good hk.2 rfl⟩
  · obtain ⟨x, hx, rfl⟩ := List.mem_map.mp hq
    exact xm_w_good (h5 x hx) rfl
  · obtain ⟨x, hx, rfl⟩ := List.mem_map.mp hq
    exact xm_w_good (h6 x hx) rfl

def xm_L0 : xm_L := ([], [], [(265, 1431655765, 721), (266, 858993459, 722), (267, 252645135, 723), (264, 65536, 1669)], [], [], [])
theorem xm_K0 : xm_ckL "java/lang/Integer" xm_T xm_L0 = true := by decide +kernel
def xm_L1 : xm_L := ([(9, 0, 0, 348), (15, 0, 1, 350), (18, 0, 2, 353), (21, 0, 3, 354), (24, 0, 4, 355), (27, 0, 5, 356), (30, 0, 6, 357), (34, 0, 7, 360), (37, 0, 8, 361), (40, 2, 4, 212), (43, 5, 0, 234), (60, 2, 0, 202)], [(48, 9, 704), (52, 10, 732), (56, 11, 736), (63, 46, 708), (69, 47, 724)], [], [], [(73, 740)], [(3, 347)])
theorem xm_K1 : xm_ckL "NinthDayHooded$Guides" xm_T xm_L1 = true := by decide +kernel
def xm_L2 : xm_L := ([(13, 1, 0, 273), (17, 1, 1, 274), (20, 1, 2, 276), (24, 1, 3, 278), (28, 1, 4, 279)], [(31, 49, 272), (32, 50, 789), (36, 5, 794)], [], [(11, 5, 270, 228, 139)], [], [(3, 269)])
theorem xm_K2 : xm_ckL "NinthDayHooded$Past" xm_T xm_L2 = true := by decide +kernel
def xm_L3 : xm_L := ([(9, 2, 0, 201), (15, 2, 1, 206), (18, 2, 2, 208), (21, 2, 3, 210), (24, 2, 4, 211)], [(28, 21, 670), (32, 25, 1078), (36, 27, 1082), (39, 26, 1086), (43, 23, 1114), (47, 0, 1118), (53, 4, 1119)], [], [], [], [(3, 200)])
theorem xm_K3 : xm_ckL "NinthDayHooded$People" xm_T xm_L3 = true := by decide +kernel
def xm_L4 : xm_L := ([(9, 3, 0, 186), (13, 3, 1, 188)], [], [], [], [], [(1, 185)])
theorem xm_K4 : xm_ckL "NinthDayHooded$Row" xm_T xm_L4 = true := by decide +kernel
def xm_L5 : xm_L := ([(11, 4, 0, 298), (15, 4, 1, 299), (18, 4, 2, 300), (21, 4, 3, 301), (24, 4, 4, 302), (27, 4, 5, 303), (31, 4, 6, 304), (35, 4, 7, 305), (38, 4, 8, 306), (41, 4, 9, 307), (44, 4, 10, 308), (47, 4, 11, 309), (54, 7, 1, 172), (111, 2, 0, 205), (116, 5, 1, 240), (124, 5, 2, 243)], [(51, 35, 612), (59, 5, 616), (65, 75, 617), (69, 36, 618), (73, 38, 637), (76, 43, 649), (86, 42, 622), (89, 37, 626), (93, 41, 630), (96, 45, 634), (99, 39, 641), (102, 40, 645), (105, 44, 653), (108, 4, 656), (121, 177, 712), (127, 0, 718), (132, 176, 728), (135, 48, 729)], [], [], [(80, 659)], [(3, 297)])
theorem xm_K5 : xm_ckL "NinthDayHooded$Rule" xm_T xm_L5 = true := by decide +kernel
def xm_L6 : xm_L := ([(9, 5, 0, 233), (15, 5, 1, 237), (18, 5, 2, 241), (21, 5, 3, 244), (24, 5, 4, 246), (28, 5, 5, 247)], [(38, 177, 1002), (42, 54, 1262), (46, 5, 884), (51, 3, 873)], [], [], [(32, 793)], [(3, 232)])
theorem xm_K6 : xm_ckL "NinthDayHooded$State" xm_T xm_L6 = true := by decide +kernel
def xm_L7 : xm_L := ([(11, 6, 0, 409), (15, 6, 1, 410), (18, 6, 2, 411), (21, 6, 3, 412), (24, 6, 4, 413), (27, 6, 5, 414), (30, 6, 6, 415), (33, 6, 7, 417), (36, 6, 8, 419), (40, 6, 9, 421), (43, 6, 10, 423), (94, 5, 0, 236)], [(46, 51, 921), (52, 6, 922), (58, 54, 923), (62, 66, 933), (65, 0, 937), (71, 4, 938), (76, 64, 947), (79, 65, 948), (82, 63, 961), (86, 71, 962), (90, 68, 966), (97, 69, 970)], [], [], [], [(3, 408)])
theorem xm_K7 : xm_ckL "NinthDayHooded$Tasks" xm_T xm_L7 = true := by decide +kernel
def xm_L8 : xm_L := ([(11, 7, 0, 170), (15, 7, 1, 171)], [(19, 75, 570), (23, 76, 599)], [], [], [], [(3, 169)])
theorem xm_K8 : xm_ckL "NinthDayHooded$Text" xm_T xm_L8 = true := by decide +kernel
def xm_L9 : xm_L := ([(11, 8, 0, 480), (15, 8, 1, 481), (18, 8, 2, 482), (21, 8, 3, 483), (25, 2, 4, 213), (34, 5, 1, 238), (41, 2, 0, 203)], [(28, 51, 1140), (37, 52, 1141), (44, 81, 1151), (48, 23, 1152), (52, 0, 1153), (58, 83, 1154)], [], [], [], [(3, 479)])
theorem xm_K9 : xm_ckL "NinthDayHooded$Thefts" xm_T xm_L9 = true := by decide +kernel
def xm_L10 : xm_L := ([(12, 9, 0, 382), (18, 9, 1, 384), (22, 9, 2, 386), (26, 9, 3, 388), (29, 9, 4, 390), (38, 5, 5, 248), (47, 2, 4, 214), (63, 0, 6, 358), (64, 0, 0, 349), (67, 0, 1, 351)], [(11, 7, 344), (32, 6, 799), (43, 8, 806), (52, 59, 807), (56, 87, 811), (60, 13, 823), (70, 60, 815), (74, 56, 819)], [], [(9, 0, 342, 343, 143)], [], [(3, 341)])
theorem xm_K10 : xm_ckL "NinthDayHooded$Walk" xm_T xm_L10 = true := by decide +kernel
def xm_L11 : xm_L := ([(11, 10, 0, 453), (15, 10, 1, 454), (18, 10, 2, 455), (21, 10, 3, 456), (24, 10, 4, 458), (27, 10, 5, 459)], [(31, 91, 1023), (35, 93, 1040), (39, 95, 1048), (43, 5, 1052), (49, 96, 1053), (53, 4, 1057)], [], [], [], [(3, 452)])
theorem xm_K11 : xm_ckL "NinthDayHooded$Wishes" xm_T xm_L11 = true := by decide +kernel
def xm_L12 : xm_L := ([(10, 11, 0, 494), (19, 11, 1, 495), (26, 11, 2, 496), (33, 11, 3, 497), (37, 11, 4, 498), (43, 11, 5, 499), (50, 11, 6, 500), (57, 11, 7, 501), (64, 11, 8, 502), (71, 11, 9, 503), (78, 11, 10, 504), (90, 7, 1, 173), (101, 2, 4, 215), (133, 5, 0, 235), (137, 5, 1, 239), (140, 5, 2, 242), (149, 2, 0, 204), (152, 2, 1, 207), (162, 5, 5, 249), (175, 5, 3, 245), (194, 9, 0, 383), (214, 0, 6, 359), (215, 0, 1, 352), (227, 0, 8, 362), (243, 9, 3, 389), (245, 9, 4, 391), (248, 9, 2, 387), (280, 1, 4, 280), (292, 9, 1, 385), (298, 6, 8, 420), (329, 6, 6, 416), (332, 6, 7, 418), (338, 6, 9, 422), (351, 10, 5, 460), (364, 10, 3, 457), (380, 2, 2, 209), (386, 8, 3, 484), (406, 1, 1, 275), (410, 1, 2, 277), (413, 3, 1, 189), (416, 3, 0, 187)], [(9, 72, 166), (18, 30, 182), (25, 20, 197), (32, 49, 229), (42, 16, 266), (49, 33, 294), (56, 84, 338), (63, 61, 405), (70, 88, 449), (77, 79, 476), (82, 73, 532), (86, 74, 536), (94, 101, 548), (98, 102, 562), (104, 5, 552), (110, 75, 555), (114, 170, 559), (117, 77, 566), (120, 76, 571), (123, 103, 575), (126, 104, 579), (130, 19, 583), (143, 21, 591), (146, 78, 595), (155, 34, 608), (165, 55, 1258), (168, 22, 666), (172, 172, 675), (178, 113, 686), (181, 176, 689), (184, 46, 1270), (188, 47, 1271), (191, 175, 697), (198, 8, 700), (204, 31, 741), (207, 13, 745), (208, 32, 749), (211, 51, 753), (218, 12, 757), (221, 15, 765), (224, 14, 769), (230, 120, 781), (233, 17, 785), (237, 85, 795), (240, 86, 802), (251, 122, 832), (254, 125, 845), (257, 126, 849), (260, 123, 836), (263, 124, 839), (266, 171, 842), (269, 53, 853), (273, 4, 692), (276, 18, 861), (283, 58, 869), (286, 57, 880), (289, 50, 889), (295, 54, 894), (299, 62, 902), (301, 173, 914), (304, 63, 917), (308, 64, 924), (311, 0, 928), (316, 65, 929), (319, 67, 943), (322, 70, 957), (326, 139, 974), (335, 66, 986), (341, 69, 1031), (344, 174, 995), (347, 52, 998), (352, 89, 1007), (354, 90, 1019), (358, 92, 1036), (361, 94, 1044), (367, 150, 1062), (370, 24, 1074), (373, 154, 1090), (376, 28, 1098), (383, 29, 1110), (387, 80, 1124), (388, 81, 1136), (392, 23, 1146), (395, 82, 1147), (399, 162, 1162), (402, 165, 1173), (419, 2, 715)], [(405, 1103515245, 1176)], [(7, 7, 164, 165, 136), (16, 3, 180, 181, 137), (23, 2, 195, 196, 138), (30, 5, 227, 228, 139), (40, 1, 264, 265, 140), (47, 4, 292, 293, 141), (54, 9, 336, 337, 142), (61, 6, 403, 404, 144), (68, 10, 447, 448, 145), (75, 8, 474, 475, 146)], [], [(1, 161)])
theorem xm_K12 : xm_ckL "NinthDayHooded" xm_T xm_L12 = true := by decide +kernel
def xm_L13 : xm_L := ([(9, 12, 0, 1292), (13, 12, 2, 1294), (16, 12, 3, 1295), (19, 12, 4, 1296), (23, 12, 6, 1298), (26, 12, 14, 1306), (29, 12, 15, 1307), (32, 12, 21, 1313), (35, 12, 22, 1314), (38, 12, 23, 1315), (41, 12, 24, 1316), (44, 12, 30, 1322), (47, 12, 32, 1324), (50, 12, 33, 1325), (53, 12, 35, 1327), (56, 12, 36, 1328), (59, 12, 37, 1329), (62, 12, 39, 1331), (65, 12, 40, 1332), (68, 12, 42, 1334), (71, 12, 44, 1336), (74, 12, 45, 1337), (77, 12, 47, 1339), (80, 12, 48, 1340), (83, 12, 50, 1342), (86, 12, 52, 1344), (89, 12, 53, 1345), (92, 12, 58, 1350), (95, 12, 59, 1351), (99, 12, 60, 1352), (102, 12, 8, 1300), (106, 12, 7, 1299), (109, 12, 1, 1293), (120, 12, 5, 1297), (123, 12, 9, 1301), (126, 12, 10, 1302), (129, 12, 11, 1303), (132, 12, 12, 1304), (135, 12, 13, 1305), (169, 12, 57, 1349), (172, 12, 31, 1323), (194, 12, 17, 1309), (201, 12, 18, 1310), (204, 12, 19, 1311), (216, 12, 20, 1312), (227, 12, 16, 1308), (247, 12, 26, 1318), (250, 12, 27, 1319), (253, 12, 25, 1317), (272, 12, 28, 1320), (275, 12, 29, 1321), (299, 12, 34, 1326), (314, 12, 38, 1330), (317, 12, 41, 1333), (320, 12, 43, 1335), (347, 12, 46, 1338), (354, 12, 49, 1341), (368, 12, 51, 1343), (381, 12, 54, 1346), (387, 12, 55, 1347), (390, 12, 56, 1348)], [(112, 180, 1489), (116, 184, 1532), (138, 191, 1500), (142, 190, 1516), (146, 193, 1520), (150, 192, 1504), (154, 189, 1496), (158, 198, 1508), (161, 199, 1524), (165, 195, 1512), (175, 200, 1536), (178, 204, 1552), (181, 205, 1556), (184, 206, 1560), (187, 203, 1548), (190, 194, 1564), (197, 207, 1568), (207, 208, 1572), (211, 0, 1577), (219, 2, 1575), (224, 5, 1576), (230, 4, 1609), (233, 182, 1582), (236, 181, 1586), (240, 185, 1593), (243, 210, 1614), (256, 218, 1631), (260, 217, 1626), (265, 219, 1622), (269, 183, 1635), (278, 224, 1662), (282, 1, 1666), (285, 225, 1655), (289, 226, 1651), (293, 223, 1658), (296, 230, 1678), (302, 231, 1686), (305, 196, 1682), (308, 232, 1690), (311, 234, 1701), (323, 242, 1740), (326, 243, 1736), (329, 186, 1729), (332, 241, 1732), (335, 244, 1764), (338, 249, 1768), (341, 248, 1760), (344, 250, 1756), (350, 259, 1804), (357, 262, 1816), (361, 266, 1844), (365, 267, 1840), (371, 268, 1836), (375, 270, 1832), (378, 269, 1852), (384, 277, 1876), (393, 280, 1888)], [(264, 1000000, 1630), (396, 1103515245, 1900)], [], [], [(3, 1291)])
theorem xm_K13 : xm_ckL "NinthDayHoodedModel" xm_T xm_L13 = true := by decide +kernel
def xm_L14 : xm_L := ([], [(7, 108, 1193), (15, 114, 1266), (18, 142, 1275), (21, 169, 1282)], [], [], [], [])
theorem xm_K14 : xm_ckL "NinthDayHoodedLaw" xm_T xm_L14 = true := by decide +kernel
