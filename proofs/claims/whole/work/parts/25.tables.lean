/-! what the tables say: classes, fields, constants -/
theorem tb_in {i : Nat} {w : Cond} (h : lw_tbl[i]? = some w) (hg : goodWord w = true) : w ∈ TBg := List.mem_filter.mpr ⟨List.mem_of_getElem? h, hg⟩
theorem tb_all {ws : List Cond} (ps : List Nat) (h : ws = ps.filterMap (fun i => lw_tbl[i]?)) (hg : ws.all goodWord = true) : ∀ w ∈ ws, w ∈ TBg := by
  intro w hw
  have h1 := List.all_eq_true.mp hg w hw
  rw [h] at hw
  obtain ⟨i, -, hi⟩ := List.mem_filterMap.mp hw
  exact tb_in hi h1
def wdF (own : String) (q : Nat × Nat × Nat) : Cond := match vwCl[q.2.1]? with
  | some r => Cond.fieldLink own q.1 (r.2.1 q.2.2).1 (r.2.1 q.2.2).2.1 (r.2.1 q.2.2).2.2.1
  | none => Cond.initialized own
theorem FO_all {own : String} {FL : List (Nat × Nat × Nat)} (ps : List Nat) (h : FL.map (wdF own) = ps.filterMap (fun i => lw_tbl[i]?)) (hg : (FL.map (wdF own)).all goodWord = true) (hv : FL.all (fun q => Nat.blt q.2.1 11) = true) : ∀ q ∈ FL, FO own q.1 q.2.1 q.2.2 := by
  intro q hq
  have h1 : wdF own q ∈ TBg := tb_all ps h hg _ (List.mem_map.mpr ⟨q, hq, rfl⟩)
  have h2 : q.2.1 < vwCl.length := blt_sp (List.all_eq_true.mp hv q hq)
  refine ⟨vwCl[q.2.1], List.getElem?_eq_getElem h2, ?_⟩
  unfold wdF at h1
  rw [List.getElem?_eq_getElem h2] at h1
  exact h1
theorem KI_all {own : String} {KI : List (Nat × Nat)} (ps : List Nat) (h : KI.map (fun q => Cond.constant own q.1 (nI q.2)) = ps.filterMap (fun i => lw_tbl[i]?)) (hg : (KI.map (fun q => Cond.constant own q.1 (nI q.2))).all goodWord = true) : ∀ q ∈ KI, Cond.constant own q.1 (nI q.2) ∈ TBg :=
  fun q hq => tb_all ps h hg _ (List.mem_map.mpr ⟨q, hq, rfl⟩)
theorem KL_all {own : String} {KL : List (Nat × Nat)} (ps : List Nat) (h : KL.map (fun q => Cond.constantLong own q.1 (lN q.2)) = ps.filterMap (fun i => lw_tbl[i]?)) (hg : (KL.map (fun q => Cond.constantLong own q.1 (lN q.2))).all goodWord = true) : ∀ q ∈ KL, Cond.constantLong own q.1 (lN q.2) ∈ TBg :=
  fun q hq => tb_all ps h hg _ (List.mem_map.mpr ⟨q, hq, rfl⟩)
/-- one class's part of CF -/
def CF1 (c : Nat) (q : vw_C) : Prop := q.2.2 = cN c ∧ c < 11 ∧ (∀ w ∈ u_ws q.1 q.2.1 q.2.2, w ∈ TBg) ∧ (∃ ty : Nat → FieldType, ∀ k, k < q.2.2 → parseFieldDescriptor (q.2.1 k).2.2.1 = some (ty k) ∧ tyK (ty k) = fk c k) ∧
  (∀ a, a < q.2.2 → ∀ d, d < q.2.2 → a ≠ d → (q.2.1 a).2.1 ≠ (q.2.1 d).2.1) ∧ ∀ k, k < q.2.2 → (q.2.1 k).2.2.2 = fFin c k
set_option maxRecDepth 20000 in
theorem cf_0 : CF1 0 (RX0, TX0, 8) := ⟨rfl, by decide, tb_all [506, 508, 510, 512, 514, 516, 518, 520] (by decide +kernel) (by decide +kernel), ⟨tyX0, fun k hk => ⟨tyX0_ok k hk, (by decide +kernel : ∀ k, k < 8 → tyK (tyX0 k) = fk 0 k) k hk⟩⟩, nmX0, (by decide +kernel : ∀ k, k < 8 → (TX0 k).2.2.2 = fFin 0 k)⟩
set_option maxRecDepth 20000 in
theorem cf_1 : CF1 1 (RX1, TX1, 6) := ⟨rfl, by decide, tb_all [291, 293, 295, 297, 299, 301] (by decide +kernel) (by decide +kernel), ⟨tyX1, fun k hk => ⟨tyX1_ok k hk, (by decide +kernel : ∀ k, k < 6 → tyK (tyX1 k) = fk 1 k) k hk⟩⟩, nmX1, (by decide +kernel : ∀ k, k < 6 → (TX1 k).2.2.2 = fFin 1 k)⟩
set_option maxRecDepth 20000 in
theorem cf_2 : CF1 2 (RX2, TX2, 7) := ⟨rfl, by decide, tb_all [476, 478, 480, 482, 484, 486, 488] (by decide +kernel) (by decide +kernel), ⟨tyX2, fun k hk => ⟨tyX2_ok k hk, (by decide +kernel : ∀ k, k < 7 → tyK (tyX2 k) = fk 2 k) k hk⟩⟩, nmX2, (by decide +kernel : ∀ k, k < 7 → (TX2 k).2.2.2 = fFin 2 k)⟩
set_option maxRecDepth 20000 in
theorem cf_3 : CF1 3 (RX3, TX3, 13) := ⟨rfl, by decide, tb_all [640, 642, 644, 646, 648, 650, 652, 654, 656, 658, 660, 662, 664] (by decide +kernel) (by decide +kernel), ⟨tyX3, fun k hk => ⟨tyX3_ok k hk, (by decide +kernel : ∀ k, k < 13 → tyK (tyX3 k) = fk 3 k) k hk⟩⟩, nmX3, (by decide +kernel : ∀ k, k < 13 → (TX3 k).2.2.2 = fFin 3 k)⟩
set_option maxRecDepth 20000 in
theorem cf_4 : CF1 4 (RX4, TX4, 3) := ⟨rfl, by decide, tb_all [609, 611, 613] (by decide +kernel) (by decide +kernel), ⟨tyX4, fun k hk => ⟨tyX4_ok k hk, (by decide +kernel : ∀ k, k < 3 → tyK (tyX4 k) = fk 4 k) k hk⟩⟩, nmX4, (by decide +kernel : ∀ k, k < 3 → (TX4 k).2.2.2 = fFin 4 k)⟩
set_option maxRecDepth 20000 in
theorem cf_5 : CF1 5 (RX5, TX5, 20) := ⟨rfl, by decide, tb_all [377, 379, 381, 383, 385, 387, 389, 391, 393, 395, 397, 399, 401, 403, 405, 407, 409, 411, 413, 415] (by decide +kernel) (by decide +kernel), ⟨tyX5, fun k hk => ⟨tyX5_ok k hk, (by decide +kernel : ∀ k, k < 20 → tyK (tyX5 k) = fk 5 k) k hk⟩⟩, nmX5, (by decide +kernel : ∀ k, k < 20 → (TX5 k).2.2.2 = fFin 5 k)⟩
set_option maxRecDepth 20000 in
theorem cf_6 : CF1 6 (RX6, TX6, 10) := ⟨rfl, by decide, tb_all [437, 439, 441, 443, 445, 447, 449, 451, 453, 455] (by decide +kernel) (by decide +kernel), ⟨tyX6, fun k hk => ⟨tyX6_ok k hk, (by decide +kernel : ∀ k, k < 10 → tyK (tyX6 k) = fk 6 k) k hk⟩⟩, nmX6, (by decide +kernel : ∀ k, k < 10 → (TX6 k).2.2.2 = fFin 6 k)⟩
set_option maxRecDepth 20000 in
theorem cf_7 : CF1 7 (RX7, TX7, 13) := ⟨rfl, by decide, tb_all [572, 574, 576, 578, 580, 582, 584, 586, 588, 590, 592, 594, 596] (by decide +kernel) (by decide +kernel), ⟨tyX7, fun k hk => ⟨tyX7_ok k hk, (by decide +kernel : ∀ k, k < 13 → tyK (tyX7 k) = fk 7 k) k hk⟩⟩, nmX7, (by decide +kernel : ∀ k, k < 13 → (TX7 k).2.2.2 = fFin 7 k)⟩
set_option maxRecDepth 20000 in
theorem cf_8 : CF1 8 (RX8, TX8, 12) := ⟨rfl, by decide, tb_all [237, 239, 241, 243, 245, 247, 249, 251, 253, 255, 257, 259] (by decide +kernel) (by decide +kernel), ⟨tyX8, fun k hk => ⟨tyX8_ok k hk, (by decide +kernel : ∀ k, k < 12 → tyK (tyX8 k) = fk 8 k) k hk⟩⟩, nmX8, (by decide +kernel : ∀ k, k < 12 → (TX8 k).2.2.2 = fFin 8 k)⟩
set_option maxRecDepth 20000 in
theorem cf_9 : CF1 9 (RX9, TX9, 14) := ⟨rfl, by decide, tb_all [681, 683, 685, 687, 689, 691, 693, 695, 697, 699, 701, 703, 705, 707] (by decide +kernel) (by decide +kernel), ⟨tyX9, fun k hk => ⟨tyX9_ok k hk, (by decide +kernel : ∀ k, k < 14 → tyK (tyX9 k) = fk 9 k) k hk⟩⟩, nmX9, (by decide +kernel : ∀ k, k < 14 → (TX9 k).2.2.2 = fFin 9 k)⟩
set_option maxRecDepth 20000 in
theorem cf_10 : CF1 10 (RX10, TX10, 91) := ⟨rfl, by decide, tb_all [1542, 1544, 1546, 1548, 1550, 1552, 1554, 1556, 1558, 1560, 1562, 1564, 1566, 1568, 1570, 1572, 1574, 1576, 1578, 1580, 1582, 1584, 1586, 1588, 1590, 1592, 1594, 1596, 1598, 1600, 1602, 1604, 1606, 1608, 1610, 1612, 1614, 1616, 1618, 1620, 1622, 1624, 1626, 1628, 1630, 1632, 1634, 1636, 1638, 1640, 1642, 1644, 1646, 1648, 1650, 1652, 1654, 1656, 1658, 1660, 1662, 1664, 1666, 1668, 1670, 1672, 1674, 1676, 1678, 1680, 1682, 1684, 1686, 1688, 1690, 1692, 1694, 1696, 1698, 1700, 1702, 1704, 1706, 1708, 1710, 1712, 1714, 1716, 1718, 1720, 1722] (by decide +kernel) (by decide +kernel), ⟨tyX10, fun k hk => ⟨tyX10_ok k hk, (by decide +kernel : ∀ k, k < 91 → tyK (tyX10 k) = fk 10 k) k hk⟩⟩, nmX10, (by decide +kernel : ∀ k, k < 91 → (TX10 k).2.2.2 = fFin 10 k)⟩
theorem cf_all : CF := by
  intro c q h
  match c, h with
  | 0, h => cases h; exact cf_0
  | 1, h => cases h; exact cf_1
  | 2, h => cases h; exact cf_2
  | 3, h => cases h; exact cf_3
  | 4, h => cases h; exact cf_4
  | 5, h => cases h; exact cf_5
  | 6, h => cases h; exact cf_6
  | 7, h => cases h; exact cf_7
  | 8, h => cases h; exact cf_8
  | 9, h => cases h; exact cf_9
  | 10, h => cases h; exact cf_10
  | c + 11, h => simp [vwCl] at h
def FL_GT : List (Nat × Nat × Nat) := [(14, 9, 0), (21, 9, 1), (30, 9, 2), (39, 9, 3), (48, 9, 4), (55, 9, 5), (59, 9, 6), (62, 9, 7), (68, 9, 8), (75, 9, 9), (79, 9, 10), (83, 9, 11), (87, 9, 12), (91, 9, 13), (94, 8, 8), (105, 6, 8), (106, 6, 9), (109, 2, 6), (115, 5, 19), (126, 6, 7), (129, 5, 0), (132, 5, 11), (139, 5, 3), (142, 5, 13), (156, 7, 7), (163, 7, 1), (166, 7, 2), (169, 7, 3), (180, 5, 1), (183, 5, 2), (186, 7, 8), (195, 2, 0), (202, 7, 4), (233, 7, 6), (250, 7, 9), (253, 7, 10), (256, 7, 0), (276, 5, 4), (279, 5, 12), (312, 5, 18), (322, 3, 8), (325, 3, 9), (334, 3, 10), (337, 3, 11), (340, 3, 12), (343, 7, 12), (350, 4, 2), (354, 5, 10), (358, 1, 4), (363, 7, 11)]
def KI_GT : List (Nat × Nat) := []
def KL_GT : List (Nat × Nat) := [(209, 9223372036854775808), (310, 18446744073709551615)]
set_option maxRecDepth 20000 in
theorem FL_GT_ok : ∀ q ∈ FL_GT, FO RX9 q.1 q.2.1 q.2.2 := FO_all [667, 668, 669, 670, 671, 672, 673, 674, 675, 676, 677, 678, 679, 680, 230, 434, 436, 473, 375, 432, 305, 343, 317, 354, 554, 534, 538, 542, 310, 314, 559, 465, 545, 552, 562, 565, 532, 321, 351, 373, 631, 633, 635, 637, 639, 571, 608, 340, 288, 568] (by decide +kernel) (by decide +kernel) (by decide +kernel)
theorem KI_GT_ok : ∀ q ∈ KI_GT, Cond.constant RX9 q.1 (nI q.2) ∈ TBg := KI_all [] (by decide +kernel) (by decide +kernel)
theorem KL_GT_ok : ∀ q ∈ KL_GT, Cond.constantLong RX9 q.1 (lN q.2) ∈ TBg := KL_all [1016, 1226] (by decide +kernel) (by decide +kernel)
def FL_Course : List (Nat × Nat × Nat) := [(9, 0, 1), (15, 0, 2), (18, 0, 3), (21, 0, 4), (25, 0, 5), (28, 0, 6), (32, 0, 7), (35, 0, 0), (43, 2, 6), (53, 7, 8), (71, 5, 11), (76, 5, 13), (83, 5, 15), (86, 5, 9), (89, 7, 6), (92, 5, 8), (99, 5, 14), (102, 5, 7), (105, 5, 5), (108, 5, 6), (114, 7, 7), (128, 7, 10), (144, 5, 17), (157, 5, 16), (164, 2, 0), (167, 7, 9), (170, 7, 0), (183, 7, 5), (186, 7, 11), (198, 5, 12), (205, 5, 18), (208, 7, 12), (214, 7, 1), (217, 7, 2), (220, 7, 3)]
def KI_Course : List (Nat × Nat) := [(211, 1103515245), (212, 2147483647), (213, 65536)]
def KL_Course : List (Nat × Nat) := [(142, 9223372036854775808), (146, 99)]
set_option maxRecDepth 20000 in
theorem FL_Course_ok : ∀ q ∈ FL_Course, FO RX0 q.1 q.2.1 q.2.2 := FO_all [499, 500, 501, 502, 503, 504, 505, 498, 474, 558, 345, 355, 361, 335, 550, 332, 358, 329, 323, 326, 555, 564, 368, 365, 466, 561, 531, 548, 567, 350, 371, 570, 536, 540, 543] (by decide +kernel) (by decide +kernel) (by decide +kernel)
theorem KI_Course_ok : ∀ q ∈ KI_Course, Cond.constant RX0 q.1 (nI q.2) ∈ TBg := KI_all [1073, 1074, 1075] (by decide +kernel) (by decide +kernel)
theorem KL_Course_ok : ∀ q ∈ KL_Course, Cond.constantLong RX0 q.1 (lN q.2) ∈ TBg := KL_all [1122, 1123] (by decide +kernel) (by decide +kernel)
def FL_Laws : List (Nat × Nat × Nat) := [(9, 1, 0), (15, 1, 1), (18, 1, 2), (21, 1, 3), (24, 1, 4), (28, 1, 5)]
def KI_Laws : List (Nat × Nat) := []
def KL_Laws : List (Nat × Nat) := []
set_option maxRecDepth 20000 in
theorem FL_Laws_ok : ∀ q ∈ FL_Laws, FO RX1 q.1 q.2.1 q.2.2 := FO_all [276, 278, 280, 283, 286, 289] (by decide +kernel) (by decide +kernel) (by decide +kernel)
theorem KI_Laws_ok : ∀ q ∈ KI_Laws, Cond.constant RX1 q.1 (nI q.2) ∈ TBg := KI_all [] (by decide +kernel) (by decide +kernel)
theorem KL_Laws_ok : ∀ q ∈ KL_Laws, Cond.constantLong RX1 q.1 (lN q.2) ∈ TBg := KL_all [] (by decide +kernel) (by decide +kernel)
def FL_Net : List (Nat × Nat × Nat) := [(9, 2, 0), (15, 2, 1), (18, 2, 2), (21, 2, 3), (25, 2, 4), (29, 2, 5), (33, 2, 6), (37, 5, 13), (42, 5, 1), (53, 5, 11), (60, 5, 12), (63, 5, 2), (73, 5, 10), (97, 5, 16), (100, 7, 5), (105, 7, 7), (108, 7, 0), (117, 1, 2), (120, 1, 3), (123, 1, 0), (126, 1, 1), (140, 7, 1), (143, 7, 2), (151, 7, 6)]
def KI_Net : List (Nat × Nat) := []
def KL_Net : List (Nat × Nat) := [(91, 9223372036854775808), (136, 1000000000000), (138, 18446743073709551616)]
set_option maxRecDepth 20000 in
theorem FL_Net_ok : ∀ q ∈ FL_Net, FO RX2 q.1 q.2.1 q.2.2 := FO_all [464, 467, 468, 469, 470, 471, 472, 353, 308, 342, 348, 313, 338, 364, 547, 556, 530, 281, 284, 277, 279, 535, 539, 551] (by decide +kernel) (by decide +kernel) (by decide +kernel)
theorem KI_Net_ok : ∀ q ∈ KI_Net, Cond.constant RX2 q.1 (nI q.2) ∈ TBg := KI_all [] (by decide +kernel) (by decide +kernel)
theorem KL_Net_ok : ∀ q ∈ KL_Net, Cond.constantLong RX2 q.1 (lN q.2) ∈ TBg := KL_all [994, 993, 995] (by decide +kernel) (by decide +kernel)
def FL_Notes : List (Nat × Nat × Nat) := [(9, 3, 1), (15, 3, 2), (18, 3, 3), (21, 3, 4), (24, 3, 5), (27, 3, 6), (30, 3, 7), (34, 3, 8), (37, 3, 9), (40, 3, 10), (43, 3, 11), (46, 3, 12), (49, 3, 0), (53, 2, 6), (59, 5, 1), (70, 5, 11)]
def KI_Notes : List (Nat × Nat) := []
def KL_Notes : List (Nat × Nat) := []
set_option maxRecDepth 20000 in
theorem FL_Notes_ok : ∀ q ∈ FL_Notes, FO RX3 q.1 q.2.1 q.2.2 := FO_all [623, 624, 625, 626, 627, 628, 629, 630, 632, 634, 636, 638, 622, 475, 309, 344] (by decide +kernel) (by decide +kernel) (by decide +kernel)
theorem KI_Notes_ok : ∀ q ∈ KI_Notes, Cond.constant RX3 q.1 (nI q.2) ∈ TBg := KI_all [] (by decide +kernel) (by decide +kernel)
theorem KL_Notes_ok : ∀ q ∈ KL_Notes, Cond.constantLong RX3 q.1 (lN q.2) ∈ TBg := KL_all [] (by decide +kernel) (by decide +kernel)
def FL_Past : List (Nat × Nat × Nat) := [(11, 4, 0), (17, 4, 1), (21, 4, 2)]
def KI_Past : List (Nat × Nat) := []
def KL_Past : List (Nat × Nat) := []
set_option maxRecDepth 20000 in
theorem FL_Past_ok : ∀ q ∈ FL_Past, FO RX4 q.1 q.2.1 q.2.2 := FO_all [605, 606, 607] (by decide +kernel) (by decide +kernel) (by decide +kernel)
theorem KI_Past_ok : ∀ q ∈ KI_Past, Cond.constant RX4 q.1 (nI q.2) ∈ TBg := KI_all [] (by decide +kernel) (by decide +kernel)
theorem KL_Past_ok : ∀ q ∈ KL_Past, Cond.constantLong RX4 q.1 (lN q.2) ∈ TBg := KL_all [] (by decide +kernel) (by decide +kernel)
def FL_Plan : List (Nat × Nat × Nat) := [(15, 5, 1), (18, 5, 2), (24, 5, 4), (45, 5, 10), (49, 5, 11), (53, 5, 12), (56, 5, 13), (59, 5, 14), (62, 5, 15), (65, 5, 16), (68, 5, 17), (71, 5, 18), (74, 5, 19)]
def KI_Plan : List (Nat × Nat) := []
def KL_Plan : List (Nat × Nat) := []
set_option maxRecDepth 20000 in
theorem FL_Plan_ok : ∀ q ∈ FL_Plan, FO RX5 q.1 q.2.1 q.2.2 := FO_all [307, 312, 319, 337, 341, 347, 352, 357, 360, 363, 367, 370, 374] (by decide +kernel) (by decide +kernel) (by decide +kernel)
theorem KI_Plan_ok : ∀ q ∈ KI_Plan, Cond.constant RX5 q.1 (nI q.2) ∈ TBg := KI_all [] (by decide +kernel) (by decide +kernel)
theorem KL_Plan_ok : ∀ q ∈ KL_Plan, Cond.constantLong RX5 q.1 (lN q.2) ∈ TBg := KL_all [] (by decide +kernel) (by decide +kernel)
def FL_Reader : List (Nat × Nat × Nat) := [(9, 6, 1), (15, 6, 2), (18, 6, 4), (22, 6, 5), (25, 6, 6), (28, 6, 7), (31, 6, 8), (34, 6, 9), (37, 6, 0), (41, 6, 3), (56, 8, 9), (91, 8, 10), (95, 8, 11), (102, 5, 11), (109, 5, 0), (116, 5, 12), (125, 5, 1), (128, 5, 2), (137, 5, 16), (140, 5, 13), (143, 5, 3), (146, 5, 4), (149, 5, 14), (155, 5, 5), (158, 5, 6), (161, 5, 7), (164, 5, 15), (167, 5, 8), (170, 5, 9), (174, 5, 17), (177, 5, 18), (180, 5, 19), (183, 5, 10), (187, 1, 2), (191, 1, 5), (197, 1, 3), (227, 1, 4)]
def KI_Reader : List (Nat × Nat) := [(173, 99999)]
def KL_Reader : List (Nat × Nat) := []
set_option maxRecDepth 20000 in
theorem FL_Reader_ok : ∀ q ∈ FL_Reader, FO RX6 q.1 q.2.1 q.2.2 := FO_all [425, 426, 428, 429, 430, 431, 433, 435, 424, 427, 232, 234, 236, 346, 306, 349, 311, 315, 366, 356, 318, 320, 359, 324, 327, 330, 362, 333, 336, 369, 372, 376, 339, 282, 290, 285, 287] (by decide +kernel) (by decide +kernel) (by decide +kernel)
theorem KI_Reader_ok : ∀ q ∈ KI_Reader, Cond.constant RX6 q.1 (nI q.2) ∈ TBg := KI_all [839] (by decide +kernel) (by decide +kernel)
theorem KL_Reader_ok : ∀ q ∈ KL_Reader, Cond.constantLong RX6 q.1 (lN q.2) ∈ TBg := KL_all [] (by decide +kernel) (by decide +kernel)
def FL_State : List (Nat × Nat × Nat) := [(9, 7, 0), (15, 7, 1), (18, 7, 2), (21, 7, 3), (24, 7, 4), (27, 7, 5), (30, 7, 6), (34, 7, 7), (37, 7, 8), (40, 7, 9), (43, 7, 10), (46, 7, 11), (49, 7, 12)]
def KI_State : List (Nat × Nat) := []
def KL_State : List (Nat × Nat) := []
set_option maxRecDepth 20000 in
theorem FL_State_ok : ∀ q ∈ FL_State, FO RX7 q.1 q.2.1 q.2.2 := FO_all [529, 533, 537, 541, 544, 546, 549, 553, 557, 560, 563, 566, 569] (by decide +kernel) (by decide +kernel) (by decide +kernel)
theorem KI_State_ok : ∀ q ∈ KI_State, Cond.constant RX7 q.1 (nI q.2) ∈ TBg := KI_all [] (by decide +kernel) (by decide +kernel)
theorem KL_State_ok : ∀ q ∈ KL_State, Cond.constantLong RX7 q.1 (lN q.2) ∈ TBg := KL_all [] (by decide +kernel) (by decide +kernel)
def FL_Tokens : List (Nat × Nat × Nat) := [(9, 8, 0), (15, 8, 1), (19, 8, 2), (22, 8, 3), (25, 8, 4), (28, 8, 5), (32, 8, 6), (35, 8, 7), (38, 8, 8), (41, 8, 9), (44, 8, 10), (47, 8, 11)]
def KI_Tokens : List (Nat × Nat) := [(99, 1000000)]
def KL_Tokens : List (Nat × Nat) := []
set_option maxRecDepth 20000 in
theorem FL_Tokens_ok : ∀ q ∈ FL_Tokens, FO RX8 q.1 q.2.1 q.2.2 := FO_all [221, 222, 223, 224, 225, 226, 227, 228, 229, 231, 233, 235] (by decide +kernel) (by decide +kernel) (by decide +kernel)
theorem KI_Tokens_ok : ∀ q ∈ KI_Tokens, Cond.constant RX8 q.1 (nI q.2) ∈ TBg := KI_all [765] (by decide +kernel) (by decide +kernel)
theorem KL_Tokens_ok : ∀ q ∈ KL_Tokens, Cond.constantLong RX8 q.1 (lN q.2) ∈ TBg := KL_all [] (by decide +kernel) (by decide +kernel)
def FL_Mo : List (Nat × Nat × Nat) := [(7, 10, 0), (13, 10, 3), (16, 10, 5), (20, 10, 24), (23, 10, 25), (27, 10, 26), (30, 10, 27), (33, 10, 28), (36, 10, 29), (39, 10, 30), (42, 10, 31), (45, 10, 32), (48, 10, 33), (51, 10, 34), (54, 10, 35), (57, 10, 36), (60, 10, 37), (63, 10, 38), (66, 10, 39), (69, 10, 40), (72, 10, 41), (75, 10, 42), (78, 10, 43), (81, 10, 44), (84, 10, 51), (88, 10, 52), (91, 10, 54), (94, 10, 55), (97, 10, 56), (100, 10, 57), (103, 10, 58), (106, 10, 59), (109, 10, 60), (112, 10, 61), (115, 10, 62), (118, 10, 63), (121, 10, 64), (124, 10, 75), (127, 10, 77), (130, 10, 78), (133, 10, 79), (136, 10, 81), (139, 10, 82), (142, 10, 83), (145, 10, 84), (148, 10, 86), (151, 10, 88), (160, 10, 2), (163, 10, 1), (166, 10, 4), (169, 10, 10), (172, 10, 6), (175, 10, 7), (178, 10, 8), (189, 10, 9), (209, 10, 11), (222, 10, 18), (225, 10, 19), (228, 10, 20), (231, 10, 21), (234, 10, 22), (237, 10, 23), (240, 10, 48), (243, 10, 12), (246, 10, 13), (249, 10, 14), (252, 10, 15), (255, 10, 16), (258, 10, 17), (310, 10, 46), (313, 10, 45), (328, 10, 47), (335, 10, 50), (348, 10, 49), (360, 10, 53), (379, 10, 65), (386, 10, 80), (389, 10, 85), (392, 10, 87), (395, 10, 66), (398, 10, 67), (401, 10, 68), (404, 10, 69), (407, 10, 70), (410, 10, 71), (413, 10, 72), (416, 10, 73), (419, 10, 74), (447, 10, 76), (586, 10, 89), (589, 10, 90)]
def KI_Mo : List (Nat × Nat) := [(198, 99999)]
def KL_Mo : List (Nat × Nat) := [(363, 1000000000000), (365, 18446743073709551616), (457, 1103515245), (459, 12345), (461, 2147483647), (463, 65536), (480, 99), (519, 9223372036854775808), (561, 18446744073709551615), (563, 100)]
set_option maxRecDepth 20000 in
theorem FL_Mo_ok : ∀ q ∈ FL_Mo, FO RX10 q.1 q.2.1 q.2.2 := FO_all [1451, 1454, 1456, 1475, 1476, 1477, 1478, 1479, 1480, 1481, 1482, 1483, 1484, 1485, 1486, 1487, 1488, 1489, 1490, 1491, 1492, 1493, 1494, 1495, 1502, 1503, 1505, 1506, 1507, 1508, 1509, 1510, 1511, 1512, 1513, 1514, 1515, 1526, 1528, 1529, 1530, 1532, 1533, 1534, 1535, 1537, 1539, 1453, 1452, 1455, 1461, 1457, 1458, 1459, 1460, 1462, 1469, 1470, 1471, 1472, 1473, 1474, 1499, 1463, 1464, 1465, 1466, 1467, 1468, 1497, 1496, 1498, 1501, 1500, 1504, 1516, 1531, 1536, 1538, 1517, 1518, 1519, 1520, 1521, 1522, 1523, 1524, 1525, 1527, 1540, 1541] (by decide +kernel) (by decide +kernel) (by decide +kernel)
theorem KI_Mo_ok : ∀ q ∈ KI_Mo, Cond.constant RX10 q.1 (nI q.2) ∈ TBg := KI_all [1758] (by decide +kernel) (by decide +kernel)
theorem KL_Mo_ok : ∀ q ∈ KL_Mo, Cond.constantLong RX10 q.1 (lN q.2) ∈ TBg := KL_all [1951, 1952, 2021, 2022, 2023, 2024, 2053, 1976, 2144, 2145] (by decide +kernel) (by decide +kernel)
def FL_Jint : List (Nat × Nat × Nat) := []
def KI_Jint : List (Nat × Nat) := [(265, 1431655765), (266, 858993459), (267, 252645135)]
def KL_Jint : List (Nat × Nat) := []
set_option maxRecDepth 20000 in
theorem FL_Jint_ok : ∀ q ∈ FL_Jint, FO RJ6 q.1 q.2.1 q.2.2 := FO_all [] (by decide +kernel) (by decide +kernel) (by decide +kernel)
theorem KI_Jint_ok : ∀ q ∈ KI_Jint, Cond.constant RJ6 q.1 (nI q.2) ∈ TBg := KI_all [984, 985, 986] (by decide +kernel) (by decide +kernel)
theorem KL_Jint_ok : ∀ q ∈ KL_Jint, Cond.constantLong RJ6 q.1 (lN q.2) ∈ TBg := KL_all [] (by decide +kernel) (by decide +kernel)
def FL_Jarr : List (Nat × Nat × Nat) := []
def KI_Jarr : List (Nat × Nat) := []
def KL_Jarr : List (Nat × Nat) := []
set_option maxRecDepth 20000 in
theorem FL_Jarr_ok : ∀ q ∈ FL_Jarr, FO RJ7 q.1 q.2.1 q.2.2 := FO_all [] (by decide +kernel) (by decide +kernel) (by decide +kernel)
theorem KI_Jarr_ok : ∀ q ∈ KI_Jarr, Cond.constant RJ7 q.1 (nI q.2) ∈ TBg := KI_all [] (by decide +kernel) (by decide +kernel)
theorem KL_Jarr_ok : ∀ q ∈ KL_Jarr, Cond.constantLong RJ7 q.1 (lN q.2) ∈ TBg := KL_all [] (by decide +kernel) (by decide +kernel)
