/-! ===== the law: its calls ===== -/
def gLL : List (Nat × Nat × Nat × Nat × Nat × Nat) := [(9, 108, 93, 94, 0, 71), (12, 156, 1189, 1190, 0, 84), (13, 109, 541, 542, 543, 71), (17, 164, 1389, 1390, 1391, 84), (18, 110, 546, 547, 548, 71), (22, 167, 1397, 1398, 1399, 84), (23, 111, 565, 566, 567, 71), (26, 168, 1415, 1416, 1417, 84), (27, 112, 572, 573, 574, 71), (30, 170, 1423, 1424, 1425, 84), (31, 113, 583, 584, 585, 71), (35, 178, 1437, 1438, 1439, 84), (36, 114, 655, 656, 657, 71), (39, 179, 1473, 1474, 1475, 84), (40, 115, 659, 660, 661, 71), (43, 180, 1477, 1478, 1479, 84), (44, 116, 667, 668, 669, 71), (48, 181, 1485, 1486, 1487, 84), (49, 117, 675, 676, 677, 71), (52, 183, 1490, 1491, 1492, 84), (53, 118, 687, 688, 689, 71), (57, 185, 1498, 1499, 1500, 84), (58, 119, 696, 697, 698, 71), (61, 186, 1506, 1507, 1508, 84), (62, 120, 749, 750, 751, 71), (66, 192, 1526, 1527, 1528, 84), (67, 121, 793, 794, 795, 71), (70, 193, 1551, 1552, 1553, 84), (71, 122, 797, 798, 799, 71), (74, 194, 1555, 1556, 1557, 84), (75, 123, 805, 806, 807, 71), (79, 195, 1563, 1564, 1565, 84), (80, 124, 809, 810, 811, 71), (83, 200, 1567, 1568, 1569, 84), (84, 125, 814, 815, 816, 71), (87, 201, 1571, 1572, 1573, 84), (88, 126, 820, 821, 822, 71), (91, 203, 1577, 1578, 1579, 84), (92, 127, 834, 835, 836, 71), (95, 204, 1585, 1586, 1587, 84), (98, 128, 839, 840, 841, 71), (102, 205, 1589, 1590, 1591, 84), (103, 129, 847, 848, 849, 71), (106, 206, 1593, 1594, 1595, 84), (107, 130, 851, 852, 853, 71), (110, 214, 1597, 1598, 1599, 84), (111, 131, 978, 979, 980, 71), (114, 215, 1633, 1634, 1635, 84), (115, 132, 982, 983, 984, 71), (118, 217, 1637, 1638, 1639, 84), (119, 133, 986, 987, 988, 71), (122, 218, 1641, 1642, 1643, 84), (123, 134, 996, 997, 998, 71), (126, 219, 1651, 1652, 1653, 84), (127, 135, 1002, 1003, 1004, 71), (130, 226, 1679, 1680, 1681, 84), (131, 136, 1006, 1007, 1008, 71), (135, 230, 1683, 1684, 1685, 84), (136, 137, 1054, 1055, 1056, 71), (139, 234, 1701, 1702, 1703, 84), (140, 138, 1084, 1085, 1086, 71), (143, 235, 1718, 1719, 1720, 84), (144, 139, 1092, 1093, 1094, 71), (147, 224, 1655, 1656, 1657, 84), (148, 140, 1121, 1122, 1123, 71), (151, 225, 1675, 1676, 1677, 84), (152, 141, 1125, 1126, 1127, 71), (155, 236, 1722, 1723, 1724, 84), (156, 142, 1140, 1141, 1142, 71), (159, 237, 1726, 1727, 1728, 84), (160, 143, 1148, 1149, 1150, 71), (163, 238, 1730, 1731, 1732, 84), (164, 144, 1160, 1161, 1162, 71), (167, 239, 1734, 1735, 1736, 84)]
def gLLb (e : Nat × Nat × Nat × Nat × Nat × Nat) : Bool := match gnth gtab e.2.1 with
  | some x => gix e.2.2.1 (.methodLink "OilTownLaw" e.1 x.1.1) && (gix e.2.2.2.1 (.instanceMethod x.1.1) && (gix e.2.2.2.2.2 (.initialized x.1.1.cls) && (x.2.1.2 || (gix e.2.2.2.2.1 (.selects x.1.1.cls x.1.1 x.1.1) && decide ((gnth gcl x.2.2.1.1).map (fun r => r.1) = some x.1.1.cls)))))
  | none => false
set_option maxRecDepth 100000 in
theorem gLL_all : gLL.all gLLb = true := by decide +kernel
section GLAW
variable {p : Program} {l : Launch} {e : Env} {R : Room} {s : State} {m : MethodId} {args : Array Value} {below : List Frame} {meth : Method} {c : Code} {H : Heap} {locs : List Loc} {cells slots : Nat} {Q : State → Prop} {cc : ByteArray} {pc : Nat} {als : Array Slot} {rest : List Value}
variable {mx d : Nat} {D : va_G} {ax : Nat → ClassId} {str : Nat → Nat} {b : Nat} {q : gS} {r : Option Value × gS} {as : List Value} {n i nn c1 c2 a : Nat}
theorem gstr_nowA {str : Nat → Nat} {b : Nat} {s U : State} {H : Heap} {locs : List Loc} (hW : s.WarmedH U.vm) (hZ : gstr str b s s.heap) (hS : va_S (fun x => b ≤ x) s.heap H locs) : gstr str b U H := by
  obtain ⟨⟨adV, h⟩, h5, h6⟩ := hZ
  have hk : ∀ a : Nat, a < s.heap.size → ¬ b ≤ a → H[a]? = s.heap[a]? := fun a h1 h2 => hS.2.1 a h1 h2
  exact ⟨⟨adV, vk_S.moved hW.alike (h.kept hk)⟩, va_Z.moved hW.alike (h5.kept hk), va_Zq.moved hW.alike (h6.kept hk)⟩
theorem gcallL {ci : Nat} {fs : List (Option (Option Nat))} {ps : Nat × Nat × Nat × Nat} (hx : p.tables.exec = Jvm.exec) (hb : c.code = cc) (hml : c.maxLocals = mx) (hts : ∀ w ∈ gT, w.before args s = true) (hown : s.vm.findClass "OilTownLaw" = some m.cls) (hE : genv D ax str s) (hZ : gstr str b s s.heap) (hRf : d + 1 ≤ R.frames ∧ 40 * d + 40 ≤ R.locals) (hM : gMet l D ax str b d n (.ref a :: as) q r) (hd : decode cc pc = .ok (.invokevirtual i, 3)) (hq : (i, n, ps) ∈ gLL) (hini : ∀ x, gnth gtab n = some x → x.2.1.2 = false)
    (hmi : gmi n = some (ci, nn, c1, c2)) (hln : as.length = nn) (hsa : q.1.1 a = some (.inr (.inr (ci, fs)))) (hw8 : (rest.map fun v => v.category).sum ≤ 8) (hls : als.size = mx) (hR : gRep D ax str b q H) (hS : va_S (fun x => b ≤ x) s.heap H locs) (hc : cells + c1 ≤ R.cells) (hs : slots + c2 ≤ R.slots)
    (kk : ∀ (H9 : Heap) (locs9 : List Loc), gRep D ax str b r.2 H9 → va_S (fun x => b ≤ x) s.heap H9 locs9 → W p l e R s m args below meth c H9 locs9 (cells + c1) (slots + c2) Q (F0 m (pc + 3) als ((r.1.map (genc b str)).toList ++ rest))) : W p l e R s m args below meth c H locs cells slots Q (F0 m pc als ((as.map (genc b str)).reverse ++ .ref (b + a) :: rest)) := by
  obtain ⟨x, hnx, hx9⟩ := gmi_of hmi
  have hP := gtab_ok x (gnth_mem hnx)
  have hw := List.all_eq_true.mp gLL_all _ hq
  have hi0 := hini x hnx
  unfold gLLb at hw
  dsimp only at hw
  rw [hnx] at hw
  simp only [Bool.and_eq_true, hi0, Bool.false_or, decide_eq_true_eq] at hw
  obtain ⟨w1, w2, w4, w3, w5⟩ := hw
  have hM := hM x hnx
  obtain ⟨⟨y, by', mxx, rtt⟩, ⟨oo, inn⟩, mm, code⟩ := x
  dsimp only at hx9
  subst hx9
  obtain ⟨p1, p2, p3, p4, p5, -⟩ := hP
  have hrec : ∃ cellB : Cell, H[b + a]? = some cellB ∧ cellB.vm.isStatics = false ∧ s.vm.findClass y.cls = some cellB.cls := by
    obtain ⟨rr, z1, -, cell, z2, z3, z4, -⟩ := hR.2 a _ hsa
    rw [gnth_get, z1] at w5
    have e5 : rr.1 = y.cls := Option.some.inj w5
    exact ⟨cell, z2, by rw [z4]; rfl, by rw [z3, ← e5]; exact (hE.1.1 ci rr z1).2.1⟩
  refine g_run (A := fun x => b ≤ x) (va_runV (C := y.cls) (b := b + a) (As := as.map (genc b str)) (rest := rest) ⟨hx, hb, hml, hown, hts⟩ hM (cwV nn hts (gGood (fun w hw => ?_)) rfl rfl rfl ⟨rfl, p3⟩ ⟨hRf.1, ?_⟩) ⟨gPc.blind, hrec, fun U hU hW => ⟨rfl, by rw [hU]; exact hR, hE.warm hW, by rw [hU]; exact gstr_nowA hW hZ hS⟩⟩ rfl (by rw [List.length_map]; exact hln) hls rfl (lv_room hw8) hd ⟨hc, hs⟩) hS (fun x h => gA_b h) (fun H9 locs9 hR9 hS9 _ => kk H9 locs9 hR9 hS9)
  · unfold wsV at hw
    rcases List.mem_append.mp hw with hw | hw
    · simp only [List.mem_cons, List.not_mem_nil, or_false] at hw
      rcases hw with rfl | rfl | rfl | rfl
      · exact gix_mem w1
      · exact gix_mem w2
      · exact gix_mem w3
      · exact gix_mem w4
    · rcases List.mem_cons.mp hw with rfl | hw
      · exact p1
      · exact hw
  · show 8 + (mxx + 11) + 40 * d ≤ _
    have : mxx ≤ 20 := p5
    omega
/-- script[i + j] onto the stack: five instructions -/
theorem lw_arg {sb L : Nat} {xs : Nat → Int32} {i0 j : Nat} (hx : p.tables.exec = Jvm.exec) (hb : c.code = cc) (hX : va_X sb L xs s s.heap) (hbl : sb < s.heap.size) (hbA : ¬ b ≤ sb) (hS : va_S (fun x => b ≤ x) s.heap H locs) (h0 : als[0]? = some (.val (.ref sb))) (h3 : als[3]? = some (.val (.int (nI i0))))
    (d1 : decode cc pc = .ok (.aload_n 0, 1)) (d2 : decode cc (pc + 1) = .ok (.iload_n 3, 1)) {jc : Int} (d3 : decode cc (pc + 1 + 1) = .ok (.iconst jc, 1)) (hj : Int32.ofInt jc = nI j) (d4 : decode cc (pc + 1 + 1 + 1) = .ok (.iadd, 1)) (d5 : decode cc (pc + 1 + 1 + 1 + 1) = .ok (.iaload, 1)) (hL : L < 2 ^ 31) (hi : i0 + j < L)
    (kk : W p l e R s m args below meth c H locs cells slots Q (F0 m (pc + 1 + 1 + 1 + 1 + 1) als (.int (xs (i0 + j)) :: rest))) : W p l e R s m args below meth c H locs cells slots Q (F0 m pc als rest) := by
  refine lv_aload_n hx hb d1 rfl h0 ?_
  refine lv_iload_n hx hb d2 rfl h3 ?_
  refine lv_iconst hx hb d3 hj ?_
  refine lv_iadd hx hb d4 ?_
  rw [nI_add]
  refine va_sld hx hb hX hbl hbA hS (vp_in_nI hi hL) d5 ?_
  rw [nI_clamp (by omega)]
  exact kk
end GLAW
