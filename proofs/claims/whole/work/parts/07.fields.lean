/-- what a program checks of the classes' field words -/
def am_clc (C : String) (T : u_T) (N : Nat) (pl : List Nat) : Bool := (List.range N).all (fun k => decide (lw_tbl[pl.getD k 0]? = some (u_lay C T k)) && goodWord (u_lay C T k))
theorem am_clc_ok {C : String} {T : u_T} {N : Nat} {pl : List Nat} (h : am_clc C T N pl = true) : ∀ w ∈ u_ws C T N, w ∈ gW := by
  intro w hw
  obtain ⟨k, hk, rfl⟩ := List.mem_map.mp hw
  have h1 := List.all_eq_true.mp h k hk
  rw [Bool.and_eq_true, decide_eq_true_eq] at h1
  exact gW_in (List.mem_of_getElem? h1.1) h1.2
def am_clF (C : String) (T : u_T) (N : Nat) : Prop := (∀ w ∈ u_ws C T N, w ∈ gW) ∧ (∃ ty : Nat → FieldType, ∀ j, j < N → parseFieldDescriptor (T j).2.2.1 = some (ty j)) ∧ (∀ a, a < N → ∀ b, b < N → a ≠ b → (T a).2.1 ≠ (T b).2.1)
theorem am_clF0 : am_clF RX0 TX0 7 := ⟨am_clc_ok (pl := [508, 510, 512, 514, 516, 518, 520]) (by decide +kernel), ⟨tyX0, tyX0_ok⟩, nmX0⟩
theorem am_clF1 : am_clF RX1 TX1 11 := ⟨am_clc_ok (pl := [308, 310, 312, 314, 316, 318, 320, 322, 324, 326, 328]) (by decide +kernel), ⟨tyX1, tyX1_ok⟩, nmX1⟩
theorem am_clF2 : am_clF RX2 TX2 16 := ⟨am_clc_ok (pl := [403, 405, 407, 409, 411, 413, 415, 417, 419, 421, 423, 425, 427, 429, 431, 433]) (by decide +kernel), ⟨tyX2, tyX2_ok⟩, nmX2⟩
theorem am_clF3 : am_clF RX3 TX3 10 := ⟨am_clc_ok (pl := [274, 276, 278, 280, 282, 284, 286, 288, 290, 292]) (by decide +kernel), ⟨tyX3, tyX3_ok⟩, nmX3⟩
theorem am_clF4 : am_clF RX4 TX4 16 := ⟨am_clc_ok (pl := [456, 458, 460, 462, 464, 466, 468, 470, 472, 474, 476, 478, 480, 482, 484, 486]) (by decide +kernel), ⟨tyX4, tyX4_ok⟩, nmX4⟩
theorem am_clF5 : am_clF RX5 TX5 7 := ⟨am_clc_ok (pl := [227, 229, 231, 233, 235, 237, 239]) (by decide +kernel), ⟨tyX5, tyX5_ok⟩, nmX5⟩
theorem am_clF6 : am_clF RX6 TX6 5 := ⟨am_clc_ok (pl := [366, 368, 370, 372, 374]) (by decide +kernel), ⟨tyX6, tyX6_ok⟩, nmX6⟩
theorem am_clF7 : am_clF RX7 TX7 12 := ⟨am_clc_ok (pl := [535, 537, 539, 541, 543, 545, 547, 549, 551, 553, 555, 557]) (by decide +kernel), ⟨tyX7, tyX7_ok⟩, nmX7⟩
theorem am_clF8 : am_clF RX8 TX8 70 := ⟨am_clc_ok (pl := [1417, 1419, 1421, 1423, 1425, 1427, 1429, 1431, 1433, 1435, 1437, 1439, 1441, 1443, 1445, 1447, 1449, 1451, 1453, 1455, 1457, 1459, 1461, 1463, 1465, 1467, 1469, 1471, 1473, 1475, 1477, 1479, 1481, 1483, 1485, 1487, 1489, 1491, 1493, 1495, 1497, 1499, 1501, 1503, 1505, 1507, 1509, 1511, 1513, 1515, 1517, 1519, 1521, 1523, 1525, 1527, 1529, 1531, 1533, 1535, 1537, 1539, 1541, 1543, 1545, 1547, 1549, 1551, 1553, 1555]) (by decide +kernel), ⟨tyX8, tyX8_ok⟩, nmX8⟩
theorem am_clall : ∀ (ci : Nat) (q : vw_C), vwCl[ci]? = some q → am_clF q.1 q.2.1 q.2.2 := by
  intro ci q h
  match ci, h with
  | 0, h => cases h; exact am_clF0
  | 1, h => cases h; exact am_clF1
  | 2, h => cases h; exact am_clF2
  | 3, h => cases h; exact am_clF3
  | 4, h => cases h; exact am_clF4
  | 5, h => cases h; exact am_clF5
  | 6, h => cases h; exact am_clF6
  | 7, h => cases h; exact am_clF7
  | 8, h => cases h; exact am_clF8
  | k + 9, h => simp [vwCl] at h
def am_tyc (t : Nat) (d : String) : Bool := match t, parseFieldDescriptor d with
  | 0, some .int => true
  | 1, some .boolean => true
  | 2, some .long => true
  | 3, some (.object _) => true
  | 3, some (.array _) => true
  | 9, some _ => true
  | _, _ => false
theorem am_tyc_ok {t : Nat} {d : String} {ty : FieldType} (h : am_tyc t d = true) (hp : parseFieldDescriptor d = some ty) : am_ty t ty := by
  unfold am_tyc at h
  rw [hp] at h
  split at h
  · rename_i h2; cases h2; rfl
  · rename_i h2; cases h2; rfl
  · rename_i h2; cases h2; rfl
  · rename_i h2; cases h2; exact Or.inl ⟨_, rfl⟩
  · rename_i h2; cases h2; exact Or.inr ⟨_, rfl⟩
  · exact trivial
  · cases h
/-- a row: index, class, place, kind, final; where its word stands; 1: a word of nest mates, whose host it is -/
abbrev am_fr : Type := (Nat × Nat × Nat × Nat × Bool) × Nat × Nat
def am_flc (own host : String) (q : am_fr) : Bool := match vwCl[q.1.2.1]? with
  | some (C, T, N) => decide (q.1.2.2.1 < N) && (decide ((T q.1.2.2.1).2.2.2 = q.1.2.2.2.2) && (decide ((T q.1.2.2.1).1 = C) && ((!q.1.2.2.2.2 || (decide (q.1.2.2.2.1 = 9) || (decide (C = own) && decide (q.2.2 = 0)))) && (am_tyc q.1.2.2.2.1 (T q.1.2.2.1).2.2.1 && (match q.2.2 with
    | 0 => decide (lw_tbl[q.2.1]? = some (Cond.fieldLink own q.1.1 C (T q.1.2.2.1).2.1 (T q.1.2.2.1).2.2.1)) && goodWord (Cond.fieldLink own q.1.1 C (T q.1.2.2.1).2.1 (T q.1.2.2.1).2.2.1)
    | _ => decide (tables_1[q.2.1]? = some (Cond.fieldLinkNest own q.1.1 C (T q.1.2.2.1).2.1 (T q.1.2.2.1).2.2.1 host)))))))
  | none => false
theorem am_flc_ok {own host : String} {q : am_fr} (h : am_flc own host q = true) : am_fl own q.1.1 q.1.2.1 q.1.2.2.1 q.1.2.2.2.1 q.1.2.2.2.2 := by
  obtain ⟨⟨idx, ci, k, t, fin⟩, pl, ne⟩ := q
  unfold am_flc at h
  dsimp only at h ⊢
  split at h
  · rename_i C T N hc
    simp only [Bool.and_eq_true, decide_eq_true_eq, Bool.or_eq_true, Bool.not_eq_true'] at h
    obtain ⟨h1, h2, h3, h4, h5, h6⟩ := h
    obtain ⟨c1, ⟨ty, c2⟩, c3⟩ := am_clall ci (C, T, N) hc
    refine ⟨C, T, N, ty, hc, h1, c1, c2, c3, h2, am_tyc_ok h5 (c2 k h1), h3, fun hf => ?_, ?_⟩
    · rcases h4 with h4 | h4 | ⟨h4, h7⟩
      · rw [hf] at h4; cases h4
      · exact Or.inl h4
      · subst h7
        have h6 : (decide (lw_tbl[pl]? = some (Cond.fieldLink own idx C (T k).2.1 (T k).2.2.1)) && goodWord (Cond.fieldLink own idx C (T k).2.1 (T k).2.2.1)) = true := h6
        rw [Bool.and_eq_true, decide_eq_true_eq] at h6
        exact Or.inr ⟨h4, gW_in (List.mem_of_getElem? h6.1) h6.2⟩
    · split at h6
      · rw [Bool.and_eq_true, decide_eq_true_eq] at h6
        exact Or.inl (gW_in (List.mem_of_getElem? h6.1) h6.2)
      · rw [decide_eq_true_eq] at h6
        exact Or.inr ⟨host, gN_in (List.mem_of_getElem? h6) rfl⟩
  · cases h
def am_rfL (l : List am_fr) : am_rfT := fun idx => (l.find? (fun q => q.1.1 == idx)).map (fun q => q.1.2)
theorem am_rfL_ok {own host : String} {l : List am_fr} (h : l.all (am_flc own host) = true) : am_rfok own (am_rfL l) := by
  intro idx ci k t fin hq
  unfold am_rfL at hq
  cases hf : l.find? (fun q => q.1.1 == idx) with
  | none => rw [hf] at hq; cases hq
  | some q =>
    rw [hf] at hq
    have h1 := am_flc_ok (List.all_eq_true.mp h q (List.mem_of_find?_eq_some hf))
    have h2 : q.1.1 = idx := by have := List.find?_some hf; simpa using this
    have h3 : q.1.2 = (ci, k, t, fin) := Option.some.inj hq
    rw [h2, h3] at h1
    exact h1
def rfX0 : List am_fr := [((12, 0, 0, 3, true), 497, 0), ((18, 0, 3, 3, true), 500, 0), ((22, 0, 5, 3, true), 504, 0), ((25, 0, 1, 0, false), 498, 0), ((29, 0, 2, 2, false), 499, 0), ((33, 0, 4, 0, false), 502, 0), ((55, 2, 1, 0, false), 205, 1), ((80, 2, 12, 0, false), 221, 1), ((83, 2, 14, 0, false), 225, 1), ((90, 0, 6, 0, false), 506, 0), ((116, 2, 9, 9, true), 216, 1), ((119, 2, 10, 9, true), 218, 1)]
theorem rfX0_ok : am_rfok RX0 (am_rfL rfX0) := am_rfL_ok (host := "SendHall") (by decide +kernel)
def rfX1 : List am_fr := [((12, 1, 0, 3, true), 295, 0), ((21, 1, 1, 3, false), 297, 0), ((25, 1, 3, 0, false), 299, 0), ((29, 1, 4, 3, true), 301, 0), ((33, 1, 5, 3, true), 302, 0), ((36, 1, 7, 3, true), 304, 0), ((46, 1, 2, 0, false), 298, 0), ((49, 1, 6, 0, false), 303, 0), ((68, 5, 3, 9, true), 48, 1), ((71, 5, 6, 0, false), 52, 1), ((81, 3, 7, 0, false), 92, 1), ((122, 3, 3, 9, true), 81, 1), ((125, 3, 4, 9, true), 84, 1), ((130, 3, 5, 9, true), 87, 1), ((133, 3, 9, 0, false), 98, 1), ((136, 1, 8, 0, false), 305, 0), ((139, 1, 9, 0, false), 306, 0), ((142, 1, 10, 0, false), 307, 0)]
theorem rfX1_ok : am_rfok RX1 (am_rfL rfX1) := am_rfL_ok (host := "SendHall") (by decide +kernel)
def rfX2 : List am_fr := [((12, 2, 0, 3, false), 377, 0), ((18, 2, 6, 3, true), 384, 0), ((25, 2, 7, 3, true), 386, 0), ((29, 2, 8, 3, true), 388, 0), ((32, 2, 9, 3, true), 389, 0), ((35, 2, 10, 3, true), 391, 0), ((38, 2, 11, 3, true), 393, 0), ((41, 2, 1, 0, false), 378, 0), ((45, 2, 2, 0, false), 380, 0), ((48, 2, 3, 0, false), 381, 0), ((51, 2, 4, 0, false), 382, 0), ((54, 2, 5, 2, false), 383, 0), ((64, 6, 4, 0, false), 189, 1), ((67, 2, 12, 0, false), 394, 0), ((70, 2, 15, 0, false), 402, 0), ((107, 3, 1, 9, true), 77, 1), ((117, 3, 3, 9, true), 82, 1), ((120, 3, 2, 9, true), 79, 1), ((123, 3, 7, 0, false), 94, 1), ((126, 3, 5, 9, true), 88, 1), ((129, 3, 9, 0, false), 99, 1), ((132, 3, 6, 9, true), 90, 1), ((184, 3, 4, 9, true), 85, 1), ((197, 6, 3, 9, true), 188, 1), ((208, 6, 2, 9, true), 185, 1), ((221, 2, 13, 0, false), 398, 0), ((224, 2, 14, 0, false), 401, 0)]
theorem rfX2_ok : am_rfok RX2 (am_rfL rfX2) := am_rfL_ok (host := "SendHall") (by decide +kernel)
def rfX3 : List am_fr := [((9, 3, 0, 3, true), 249, 0), ((15, 3, 1, 3, true), 250, 0), ((18, 3, 2, 3, true), 252, 0), ((21, 3, 3, 3, true), 254, 0), ((24, 3, 4, 3, true), 257, 0), ((27, 3, 5, 3, true), 260, 0), ((30, 3, 6, 3, true), 263, 0), ((33, 3, 7, 0, false), 265, 0), ((37, 3, 8, 0, false), 269, 0), ((40, 3, 9, 0, false), 271, 0)]
theorem rfX3_ok : am_rfok RX3 (am_rfL rfX3) := am_rfL_ok (host := "SendHall") (by decide +kernel)
def rfX4 : List am_fr := [((12, 4, 0, 3, true), 437, 0), ((18, 4, 1, 3, true), 438, 0), ((23, 4, 2, 3, true), 439, 0), ((26, 4, 3, 3, true), 440, 0), ((29, 4, 4, 3, true), 441, 0), ((32, 4, 5, 3, true), 442, 0), ((35, 4, 6, 3, true), 443, 0), ((38, 4, 7, 3, true), 444, 0), ((41, 4, 8, 3, true), 445, 0), ((44, 4, 12, 1, false), 452, 0), ((48, 4, 13, 0, false), 453, 0), ((52, 4, 14, 0, false), 454, 0), ((55, 4, 15, 2, false), 455, 0), ((59, 4, 9, 0, false), 446, 0), ((62, 4, 10, 0, false), 448, 0), ((65, 4, 11, 1, false), 450, 0), ((117, 2, 12, 0, false), 222, 1), ((120, 2, 13, 0, false), 223, 1), ((127, 2, 14, 0, false), 226, 1), ((130, 2, 6, 9, true), 211, 1), ((137, 2, 7, 9, true), 213, 1), ((141, 6, 4, 0, false), 190, 1), ((146, 6, 0, 9, true), 180, 1), ((149, 6, 1, 9, true), 182, 1), ((152, 6, 2, 9, true), 184, 1), ((155, 6, 3, 9, true), 187, 1)]
theorem rfX4_ok : am_rfok RX4 (am_rfL rfX4) := am_rfL_ok (host := "SendHall") (by decide +kernel)
def rfX5 : List am_fr := [((9, 5, 0, 3, true), 217, 0), ((15, 5, 2, 3, true), 220, 0), ((18, 5, 3, 3, true), 221, 0), ((21, 5, 4, 3, true), 223, 0), ((24, 5, 1, 0, false), 219, 0), ((32, 5, 5, 0, false), 224, 0), ((35, 5, 6, 0, false), 225, 0)]
theorem rfX5_ok : am_rfok RX5 (am_rfL rfX5) := am_rfL_ok (host := "SendHall") (by decide +kernel)
def rfX6 : List am_fr := [((9, 6, 0, 3, true), 353, 0), ((15, 6, 1, 3, true), 355, 0), ((18, 6, 2, 3, true), 357, 0), ((21, 6, 3, 3, true), 360, 0), ((36, 6, 4, 0, false), 365, 0)]
theorem rfX6_ok : am_rfok RX6 (am_rfL rfX6) := am_rfL_ok (host := "SendHall") (by decide +kernel)
def rfX7 : List am_fr := [((12, 7, 0, 3, true), 523, 0), ((19, 7, 1, 3, false), 524, 0), ((23, 7, 2, 0, false), 525, 0), ((30, 7, 6, 3, true), 529, 0), ((37, 7, 7, 3, true), 530, 0), ((41, 7, 8, 3, true), 531, 0), ((44, 1, 0, 9, true), 122, 1), ((48, 5, 1, 0, false), 44, 1), ((75, 7, 9, 1, false), 532, 0), ((79, 7, 10, 1, false), 533, 0), ((82, 1, 3, 0, false), 126, 1), ((89, 7, 3, 0, false), 526, 0), ((92, 7, 4, 0, false), 527, 0), ((95, 7, 5, 0, false), 528, 0), ((98, 3, 7, 0, false), 93, 1), ((101, 3, 8, 0, false), 96, 1), ((118, 4, 11, 1, false), 277, 1), ((121, 4, 9, 0, false), 273, 1), ((131, 4, 10, 0, false), 275, 1), ((155, 7, 11, 2, false), 534, 0), ((178, 0, 6, 0, false), 333, 1), ((183, 0, 5, 9, true), 331, 1), ((191, 0, 4, 0, false), 329, 1), ((196, 0, 3, 9, true), 327, 1)]
theorem rfX7_ok : am_rfok RX7 (am_rfL rfX7) := am_rfL_ok (host := "SendHall") (by decide +kernel)
def rfX8 : List am_fr := [((33, 8, 0, 3, true), 1347, 0), ((51, 8, 1, 3, true), 1348, 0), ((54, 8, 3, 0, false), 1350, 0), ((58, 8, 9, 3, true), 1356, 0), ((62, 8, 20, 0, false), 1367, 0), ((65, 8, 22, 3, true), 1369, 0), ((68, 8, 23, 3, true), 1370, 0), ((71, 8, 24, 3, true), 1371, 0), ((74, 8, 25, 3, true), 1372, 0), ((77, 8, 26, 3, true), 1373, 0), ((80, 8, 27, 3, true), 1374, 0), ((83, 8, 28, 3, true), 1375, 0), ((86, 8, 29, 3, true), 1376, 0), ((89, 8, 30, 3, true), 1377, 0), ((92, 8, 31, 3, true), 1378, 0), ((95, 8, 32, 3, true), 1379, 0), ((99, 8, 33, 3, true), 1380, 0), ((102, 8, 34, 3, true), 1381, 0), ((105, 8, 35, 0, false), 1382, 0), ((108, 8, 36, 3, true), 1383, 0), ((111, 8, 37, 3, true), 1384, 0), ((114, 8, 38, 3, true), 1385, 0), ((117, 8, 39, 3, true), 1386, 0), ((121, 8, 43, 3, true), 1390, 0), ((124, 8, 44, 3, true), 1391, 0), ((127, 8, 45, 3, true), 1392, 0), ((130, 8, 47, 0, false), 1394, 0), ((133, 8, 49, 3, true), 1396, 0), ((136, 8, 50, 3, true), 1397, 0), ((139, 8, 54, 3, true), 1401, 0), ((142, 8, 55, 3, true), 1402, 0), ((145, 8, 56, 0, false), 1403, 0), ((148, 8, 57, 0, false), 1404, 0), ((151, 8, 61, 3, true), 1408, 0), ((154, 8, 62, 3, true), 1409, 0), ((157, 8, 63, 3, true), 1410, 0), ((160, 8, 64, 3, true), 1411, 0), ((163, 8, 65, 3, true), 1412, 0), ((166, 8, 66, 3, true), 1413, 0), ((169, 8, 67, 3, true), 1414, 0), ((172, 8, 69, 3, true), 1416, 0), ((175, 8, 2, 0, false), 1349, 0), ((178, 8, 10, 0, false), 1357, 0), ((181, 8, 12, 0, false), 1359, 0), ((184, 8, 11, 0, false), 1358, 0), ((191, 8, 16, 0, false), 1363, 0), ((194, 8, 14, 0, false), 1361, 0), ((197, 8, 13, 0, false), 1360, 0), ((207, 8, 15, 0, false), 1362, 0), ((217, 8, 17, 0, false), 1364, 0), ((220, 8, 18, 0, false), 1365, 0), ((223, 8, 19, 0, false), 1366, 0), ((248, 8, 21, 0, false), 1368, 0), ((316, 8, 7, 0, false), 1354, 0), ((319, 8, 8, 0, false), 1355, 0), ((322, 8, 4, 0, false), 1351, 0), ((325, 8, 5, 0, false), 1352, 0), ((328, 8, 6, 0, false), 1353, 0), ((412, 8, 40, 0, false), 1387, 0), ((415, 8, 41, 0, false), 1388, 0), ((418, 8, 42, 0, false), 1389, 0), ((434, 8, 46, 0, false), 1393, 0), ((440, 8, 48, 1, false), 1395, 0), ((463, 8, 51, 0, false), 1398, 0), ((477, 8, 52, 1, false), 1399, 0), ((480, 8, 53, 0, false), 1400, 0), ((494, 8, 59, 0, false), 1406, 0), ((497, 8, 60, 0, false), 1407, 0), ((510, 8, 68, 0, false), 1415, 0), ((513, 8, 58, 0, false), 1405, 0)]
theorem rfX8_ok : am_rfok RX8 (am_rfL rfX8) := am_rfL_ok (host := "SendHall") (by decide +kernel)
