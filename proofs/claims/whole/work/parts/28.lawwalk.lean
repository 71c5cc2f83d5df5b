/-! ===== the law: its walk (by program) ===== -/
section GWALK
variable {p : Program} {l : Launch} {e : Env} {s : State} {m : MethodId} {args : Array Value} {below : List Frame} {meth : Method} {c : Code} {H : Heap} {locs : List Loc} {cells slots : Nat} {Q : State → Prop} {als : Array Slot}
variable {D : va_G} {ax : Nat → ClassId} {str : Nat → Nat} {q q1 q2 : gS} {v : Int32} {sb L k : Nat} {xs : Nat → Int32}
/-- what the law's walk takes along -/
def gLc (p : Program) (s : State) (m : MethodId) (args : Array Value) (c : Code) (D : va_G) (ax : Nat → ClassId) (str : Nat → Nat) (sb L : Nat) (xs : Nat → Int32) : Prop := p.tables.exec = Jvm.exec ∧ c.code = code ∧ c.maxLocals = 4 ∧ (∀ w ∈ gT, w.before args s = true) ∧ s.vm.findClass "OilTownLaw" = some m.cls ∧ genv D ax str s ∧ gstr str s.heap.size s s.heap ∧ va_X sb L xs s s.heap ∧ sb < s.heap.size ∧ L ≤ 3584
def gLls (b sb k : Nat) : List (Nat × Value) := [(0, .ref sb), (1, .ref (b + 0)), (2, .ref (b + 81)), (3, .int (nI (7 * k)))]
theorem lw_arg6 {R : Room} {cc : ByteArray} {pc b : Nat} {rest : List Value} {i0 j : Nat} {jc : Int} (hx : p.tables.exec = Jvm.exec) (hb : c.code = cc) (hX : va_X sb L xs s s.heap) (hbl : sb < s.heap.size) (hbA : ¬ b ≤ sb) (hS : va_S (fun x => b ≤ x) s.heap H locs) (h0 : als[0]? = some (.val (.ref sb))) (h3 : als[3]? = some (.val (.int (nI i0))))
    (d1 : decode cc pc = .ok (.aload_n 0, 1)) (d2 : decode cc (pc + 1) = .ok (.iload_n 3, 1)) (d3 : decode cc (pc + 1 + 1) = .ok (.bipush jc, 2)) (hj : (Int8.ofInt jc).toInt32 = nI j) (d4 : decode cc (pc + 1 + 1 + 2) = .ok (.iadd, 1)) (d5 : decode cc (pc + 1 + 1 + 2 + 1) = .ok (.iaload, 1)) (hL : L < 2 ^ 31) (hi : i0 + j < L)
    (kk : W p l e R s m args below meth c H locs cells slots Q (F0 m (pc + 1 + 1 + 2 + 1 + 1) als (.int (xs (i0 + j)) :: rest))) : W p l e R s m args below meth c H locs cells slots Q (F0 m pc als rest) := by
  refine lv_aload_n hx hb d1 rfl h0 ?_
  refine lv_iload_n hx hb d2 rfl h3 ?_
  refine lv_bipush hx hb d3 hj ?_
  refine lv_iadd hx hb d4 ?_
  rw [nI_add]
  refine va_sld hx hb hX hbl hbA hS (vp_in_nI hi hL) d5 ?_
  rw [nI_clamp (by omega)]
  exact kk
set_option maxRecDepth 100000 in
set_option maxHeartbeats 4000000 in
theorem law_case_0 (C : gLc p s m args c D ax str sb L xs) (hl : lv_has als 4 (gLls s.heap.size sb k)) (hk : 7 * k + 7 ≤ L) (hR : gRep D ax str s.heap.size q H) (hS : va_S (fun x => s.heap.size ≤ x) s.heap H locs) (g1 : gR gmi gdf gcd 10 109 [.ref 0, .int (xs (7 * k + 1)), .int (xs (7 * k + 2))] q (some (.int v), q1)) (g2 : gR gmi gdf gcd 10 164 [.ref 81, .int (xs (7 * k + 1)), .int (xs (7 * k + 2))] q1 (some (.int v), q2)) {fs1 fs2 : List (Option (Option Nat))} (f1 : q.1.1 0 = some (.inr (.inr (11, fs1)))) (f2 : q1.1.1 81 = some (.inr (.inr (12, fs2)))) (hc : cells + 100 ≤ 600000) (hs : slots + 5000 ≤ 7302250)
    (kk : ∀ (H9 : Heap) (locs9 : List Loc) (cells9 slots9 : Nat), gRep D ax str s.heap.size q2 H9 → va_S (fun x => s.heap.size ≤ x) s.heap H9 locs9 → cells9 ≤ cells + 40 + 0 → slots9 ≤ slots + 2000 + 0 → W p l e room_1 s m args below meth c H9 locs9 cells9 slots9 Q (F0 m 1468 als [])) : W p l e room_1 s m args below meth c H locs cells slots Q (F0 m 192 als []) := by
  obtain ⟨hx, hb, hml, hts, hown, hE, hZ, hX, hbl, hL⟩ := C
  have hbA : ¬ s.heap.size ≤ sb := by omega
  have hc0 : cells + 50 ≤ room_1.cells := by show cells + 50 ≤ 600000; omega
  have hs0 : slots + 2500 ≤ room_1.slots := by show slots + 2500 ≤ 7302250; omega
  have hl : lv_has als 4 [(0, .ref sb), (1, .ref (s.heap.size + 0)), (2, .ref (s.heap.size + 81)), (3, .int (nI (7 * k)))] := hl
  have hc1 : cells + 0 + 0 ≤ room_1.cells := by show cells + 0 + 0 ≤ 600000; omega
  have hs1 : slots + 0 + 0 ≤ room_1.slots := by show slots + 0 + 0 ≤ 7302250; omega
  refine lv_aload_n hx hb (gfind_ok glw_ok_0 rfl) rfl (lv_at hl 1 rfl) ?_
  refine lw_arg (b := s.heap.size) (i0 := 7 * k) (j := 1) (L := L) hx hb hX hbl hbA hS (lv_at hl 0 rfl) (lv_at hl 3 rfl) (gfind_ok glw_ok_0 rfl) (gfind_ok glw_ok_0 rfl) (gfind_ok glw_ok_0 rfl) rfl (gfind_ok glw_ok_0 rfl) (gfind_ok glw_ok_0 rfl) (by omega) (by omega) ?_
  refine lw_arg (b := s.heap.size) (i0 := 7 * k) (j := 2) (L := L) hx hb hX hbl hbA hS (lv_at hl 0 rfl) (lv_at hl 3 rfl) (gfind_ok glw_ok_0 rfl) (gfind_ok glw_ok_0 rfl) (gfind_ok glw_ok_0 rfl) rfl (gfind_ok glw_ok_0 rfl) (gfind_ok glw_ok_0 rfl) (by omega) (by omega) ?_
  refine gcallL (als := als) (b := s.heap.size) (d := 10) (n := 109) (ps := (541, 542, 543, 71)) (a := 0) (as := [.int (xs (7 * k + 1)), .int (xs (7 * k + 2))]) (rest := []) hx hb hml hts hown hE hZ ⟨by decide, by decide⟩ ((gsound l D ax str s.heap.size 10 _ _ _ _ g1).1) (gfind_ok glw_ok_0 rfl) (by decide +kernel) (fun x h => by cases (Option.some.inj h); rfl) rfl rfl f1 (Nat.le_of_ble_eq_true rfl) hl.1 hR hS (Nat.le_trans (Nat.add_le_add_left (Nat.le_of_ble_eq_true rfl) _) hc0) (Nat.le_trans (Nat.add_le_add_left (Nat.le_of_ble_eq_true rfl) _) hs0) (fun H1 locs1 hR1 hS1 => ?_)
  have hR := hR1; have hS := hS1
  refine lv_aload_n hx hb (gfind_ok glw_ok_0 rfl) rfl (lv_at hl 2 rfl) ?_
  refine lw_arg (b := s.heap.size) (i0 := 7 * k) (j := 1) (L := L) hx hb hX hbl hbA hS (lv_at hl 0 rfl) (lv_at hl 3 rfl) (gfind_ok glw_ok_0 rfl) (gfind_ok glw_ok_0 rfl) (gfind_ok glw_ok_0 rfl) rfl (gfind_ok glw_ok_0 rfl) (gfind_ok glw_ok_0 rfl) (by omega) (by omega) ?_
  refine lw_arg (b := s.heap.size) (i0 := 7 * k) (j := 2) (L := L) hx hb hX hbl hbA hS (lv_at hl 0 rfl) (lv_at hl 3 rfl) (gfind_ok glw_ok_0 rfl) (gfind_ok glw_ok_0 rfl) (gfind_ok glw_ok_0 rfl) rfl (gfind_ok glw_ok_0 rfl) (gfind_ok glw_ok_0 rfl) (by omega) (by omega) ?_
  refine gcallL (als := als) (b := s.heap.size) (d := 10) (n := 164) (ps := (1389, 1390, 1391, 84)) (a := 81) (as := [.int (xs (7 * k + 1)), .int (xs (7 * k + 2))]) (rest := [.int v]) hx hb hml hts hown hE hZ ⟨by decide, by decide⟩ ((gsound l D ax str s.heap.size 10 _ _ _ _ g2).1) (gfind_ok glw_ok_0 rfl) (by decide +kernel) (fun x h => by cases (Option.some.inj h); rfl) rfl rfl f2 (Nat.le_of_ble_eq_true rfl) hl.1 hR hS (Nat.le_trans (Nat.add_le_add_left (Nat.le_of_ble_eq_true rfl) _) hc1) (Nat.le_trans (Nat.add_le_add_left (Nat.le_of_ble_eq_true rfl) _) hs1) (fun H2 locs2 hR2 hS2 => ?_)
  refine lv_icmp_eq hx hb (gfind_ok glw_ok_0 rfl) (tgt := 1468) rfl (fun _ => ?_) (fun z => absurd rfl z)
  exact kk H2 locs2 _ _ hR2 hS2 (Nat.add_le_add (Nat.add_le_add_left (Nat.le_of_ble_eq_true rfl) _) (Nat.le_of_ble_eq_true rfl)) (Nat.add_le_add (Nat.add_le_add_left (Nat.le_of_ble_eq_true rfl) _) (Nat.le_of_ble_eq_true rfl))
set_option maxRecDepth 100000 in
set_option maxHeartbeats 4000000 in
theorem law_case_1 (C : gLc p s m args c D ax str sb L xs) (hl : lv_has als 4 (gLls s.heap.size sb k)) (hk : 7 * k + 7 ≤ L) (hR : gRep D ax str s.heap.size q H) (hS : va_S (fun x => s.heap.size ≤ x) s.heap H locs) (g1 : gR gmi gdf gcd 10 110 [.ref 0, .int (xs (7 * k + 1)), .int (xs (7 * k + 2)), .int (xs (7 * k + 3)), .int (xs (7 * k + 4)), .int (xs (7 * k + 5))] q (some (.int v), q1)) (g2 : gR gmi gdf gcd 10 167 [.ref 81, .int (xs (7 * k + 1)), .int (xs (7 * k + 2)), .int (xs (7 * k + 3)), .int (xs (7 * k + 4)), .int (xs (7 * k + 5))] q1 (some (.int v), q2)) {fs1 fs2 : List (Option (Option Nat))} (f1 : q.1.1 0 = some (.inr (.inr (11, fs1)))) (f2 : q1.1.1 81 = some (.inr (.inr (12, fs2)))) (hc : cells + 100 ≤ 600000) (hs : slots + 5000 ≤ 7302250)
    (kk : ∀ (H9 : Heap) (locs9 : List Loc) (cells9 slots9 : Nat), gRep D ax str s.heap.size q2 H9 → va_S (fun x => s.heap.size ≤ x) s.heap H9 locs9 → cells9 ≤ cells + 40 + 0 → slots9 ≤ slots + 2000 + 0 → W p l e room_1 s m args below meth c H9 locs9 cells9 slots9 Q (F0 m 1468 als [])) : W p l e room_1 s m args below meth c H locs cells slots Q (F0 m 225 als []) := by
  obtain ⟨hx, hb, hml, hts, hown, hE, hZ, hX, hbl, hL⟩ := C
  have hbA : ¬ s.heap.size ≤ sb := by omega
  have hc0 : cells + 50 ≤ room_1.cells := by show cells + 50 ≤ 600000; omega
  have hs0 : slots + 2500 ≤ room_1.slots := by show slots + 2500 ≤ 7302250; omega
  have hl : lv_has als 4 [(0, .ref sb), (1, .ref (s.heap.size + 0)), (2, .ref (s.heap.size + 81)), (3, .int (nI (7 * k)))] := hl
  have hc1 : cells + 0 + 0 ≤ room_1.cells := by show cells + 0 + 0 ≤ 600000; omega
  have hs1 : slots + 0 + 0 ≤ room_1.slots := by show slots + 0 + 0 ≤ 7302250; omega
  refine lv_aload_n hx hb (gfind_ok glw_ok_0 rfl) rfl (lv_at hl 1 rfl) ?_
  refine lw_arg (b := s.heap.size) (i0 := 7 * k) (j := 1) (L := L) hx hb hX hbl hbA hS (lv_at hl 0 rfl) (lv_at hl 3 rfl) (gfind_ok glw_ok_0 rfl) (gfind_ok glw_ok_0 rfl) (gfind_ok glw_ok_0 rfl) rfl (gfind_ok glw_ok_0 rfl) (gfind_ok glw_ok_0 rfl) (by omega) (by omega) ?_
  refine lw_arg (b := s.heap.size) (i0 := 7 * k) (j := 2) (L := L) hx hb hX hbl hbA hS (lv_at hl 0 rfl) (lv_at hl 3 rfl) (gfind_ok glw_ok_0 rfl) (gfind_ok glw_ok_0 rfl) (gfind_ok glw_ok_0 rfl) rfl (gfind_ok glw_ok_0 rfl) (gfind_ok glw_ok_0 rfl) (by omega) (by omega) ?_
  refine lw_arg (b := s.heap.size) (i0 := 7 * k) (j := 3) (L := L) hx hb hX hbl hbA hS (lv_at hl 0 rfl) (lv_at hl 3 rfl) (gfind_ok glw_ok_1 rfl) (gfind_ok glw_ok_1 rfl) (gfind_ok glw_ok_1 rfl) rfl (gfind_ok glw_ok_1 rfl) (gfind_ok glw_ok_1 rfl) (by omega) (by omega) ?_
  refine lw_arg (b := s.heap.size) (i0 := 7 * k) (j := 4) (L := L) hx hb hX hbl hbA hS (lv_at hl 0 rfl) (lv_at hl 3 rfl) (gfind_ok glw_ok_1 rfl) (gfind_ok glw_ok_1 rfl) (gfind_ok glw_ok_1 rfl) rfl (gfind_ok glw_ok_1 rfl) (gfind_ok glw_ok_1 rfl) (by omega) (by omega) ?_
  refine lw_arg (b := s.heap.size) (i0 := 7 * k) (j := 5) (L := L) hx hb hX hbl hbA hS (lv_at hl 0 rfl) (lv_at hl 3 rfl) (gfind_ok glw_ok_1 rfl) (gfind_ok glw_ok_1 rfl) (gfind_ok glw_ok_1 rfl) rfl (gfind_ok glw_ok_1 rfl) (gfind_ok glw_ok_1 rfl) (by omega) (by omega) ?_
  refine gcallL (als := als) (b := s.heap.size) (d := 10) (n := 110) (ps := (546, 547, 548, 71)) (a := 0) (as := [.int (xs (7 * k + 1)), .int (xs (7 * k + 2)), .int (xs (7 * k + 3)), .int (xs (7 * k + 4)), .int (xs (7 * k + 5))]) (rest := []) hx hb hml hts hown hE hZ ⟨by decide, by decide⟩ ((gsound l D ax str s.heap.size 10 _ _ _ _ g1).1) (gfind_ok glw_ok_1 rfl) (by decide +kernel) (fun x h => by cases (Option.some.inj h); rfl) rfl rfl f1 (Nat.le_of_ble_eq_true rfl) hl.1 hR hS (Nat.le_trans (Nat.add_le_add_left (Nat.le_of_ble_eq_true rfl) _) hc0) (Nat.le_trans (Nat.add_le_add_left (Nat.le_of_ble_eq_true rfl) _) hs0) (fun H1 locs1 hR1 hS1 => ?_)
  have hR := hR1; have hS := hS1
  refine lv_aload_n hx hb (gfind_ok glw_ok_1 rfl) rfl (lv_at hl 2 rfl) ?_
  refine lw_arg (b := s.heap.size) (i0 := 7 * k) (j := 1) (L := L) hx hb hX hbl hbA hS (lv_at hl 0 rfl) (lv_at hl 3 rfl) (gfind_ok glw_ok_1 rfl) (gfind_ok glw_ok_1 rfl) (gfind_ok glw_ok_1 rfl) rfl (gfind_ok glw_ok_1 rfl) (gfind_ok glw_ok_1 rfl) (by omega) (by omega) ?_
  refine lw_arg (b := s.heap.size) (i0 := 7 * k) (j := 2) (L := L) hx hb hX hbl hbA hS (lv_at hl 0 rfl) (lv_at hl 3 rfl) (gfind_ok glw_ok_1 rfl) (gfind_ok glw_ok_1 rfl) (gfind_ok glw_ok_1 rfl) rfl (gfind_ok glw_ok_1 rfl) (gfind_ok glw_ok_1 rfl) (by omega) (by omega) ?_
  refine lw_arg (b := s.heap.size) (i0 := 7 * k) (j := 3) (L := L) hx hb hX hbl hbA hS (lv_at hl 0 rfl) (lv_at hl 3 rfl) (gfind_ok glw_ok_1 rfl) (gfind_ok glw_ok_1 rfl) (gfind_ok glw_ok_1 rfl) rfl (gfind_ok glw_ok_1 rfl) (gfind_ok glw_ok_1 rfl) (by omega) (by omega) ?_
  refine lw_arg (b := s.heap.size) (i0 := 7 * k) (j := 4) (L := L) hx hb hX hbl hbA hS (lv_at hl 0 rfl) (lv_at hl 3 rfl) (gfind_ok glw_ok_1 rfl) (gfind_ok glw_ok_1 rfl) (gfind_ok glw_ok_1 rfl) rfl (gfind_ok glw_ok_1 rfl) (gfind_ok glw_ok_1 rfl) (by omega) (by omega) ?_
  refine lw_arg (b := s.heap.size) (i0 := 7 * k) (j := 5) (L := L) hx hb hX hbl hbA hS (lv_at hl 0 rfl) (lv_at hl 3 rfl) (gfind_ok glw_ok_1 rfl) (gfind_ok glw_ok_1 rfl) (gfind_ok glw_ok_1 rfl) rfl (gfind_ok glw_ok_1 rfl) (gfind_ok glw_ok_1 rfl) (by omega) (by omega) ?_
  refine gcallL (als := als) (b := s.heap.size) (d := 10) (n := 167) (ps := (1397, 1398, 1399, 84)) (a := 81) (as := [.int (xs (7 * k + 1)), .int (xs (7 * k + 2)), .int (xs (7 * k + 3)), .int (xs (7 * k + 4)), .int (xs (7 * k + 5))]) (rest := [.int v]) hx hb hml hts hown hE hZ ⟨by decide, by decide⟩ ((gsound l D ax str s.heap.size 10 _ _ _ _ g2).1) (gfind_ok glw_ok_1 rfl) (by decide +kernel) (fun x h => by cases (Option.some.inj h); rfl) rfl rfl f2 (Nat.le_of_ble_eq_true rfl) hl.1 hR hS (Nat.le_trans (Nat.add_le_add_left (Nat.le_of_ble_eq_true rfl) _) hc1) (Nat.le_trans (Nat.add_le_add_left (Nat.le_of_ble_eq_true rfl) _) hs1) (fun H2 locs2 hR2 hS2 => ?_)
  refine lv_icmp_eq hx hb (gfind_ok glw_ok_1 rfl) (tgt := 1468) rfl (fun _ => ?_) (fun z => absurd rfl z)
  exact kk H2 locs2 _ _ hR2 hS2 (Nat.add_le_add (Nat.add_le_add_left (Nat.le_of_ble_eq_true rfl) _) (Nat.le_of_ble_eq_true rfl)) (Nat.add_le_add (Nat.add_le_add_left (Nat.le_of_ble_eq_true rfl) _) (Nat.le_of_ble_eq_true rfl))
set_option maxRecDepth 100000 in
set_option maxHeartbeats 4000000 in
theorem law_case_2 (C : gLc p s m args c D ax str sb L xs) (hl : lv_has als 4 (gLls s.heap.size sb k)) (hk : 7 * k + 7 ≤ L) (hR : gRep D ax str s.heap.size q H) (hS : va_S (fun x => s.heap.size ≤ x) s.heap H locs) (g1 : gR gmi gdf gcd 10 111 [.ref 0, .int (xs (7 * k + 1)), .int (xs (7 * k + 2))] q (some (.int v), q1)) (g2 : gR gmi gdf gcd 10 168 [.ref 81, .int (xs (7 * k + 1)), .int (xs (7 * k + 2))] q1 (some (.int v), q2)) {fs1 fs2 : List (Option (Option Nat))} (f1 : q.1.1 0 = some (.inr (.inr (11, fs1)))) (f2 : q1.1.1 81 = some (.inr (.inr (12, fs2)))) (hc : cells + 100 ≤ 600000) (hs : slots + 5000 ≤ 7302250)
    (kk : ∀ (H9 : Heap) (locs9 : List Loc) (cells9 slots9 : Nat), gRep D ax str s.heap.size q2 H9 → va_S (fun x => s.heap.size ≤ x) s.heap H9 locs9 → cells9 ≤ cells + 40 + 0 → slots9 ≤ slots + 2000 + 0 → W p l e room_1 s m args below meth c H9 locs9 cells9 slots9 Q (F0 m 1468 als [])) : W p l e room_1 s m args below meth c H locs cells slots Q (F0 m 288 als []) := by
  obtain ⟨hx, hb, hml, hts, hown, hE, hZ, hX, hbl, hL⟩ := C
  have hbA : ¬ s.heap.size ≤ sb := by omega
  have hc0 : cells + 50 ≤ room_1.cells := by show cells + 50 ≤ 600000; omega
  have hs0 : slots + 2500 ≤ room_1.slots := by show slots + 2500 ≤ 7302250; omega
  have hl : lv_has als 4 [(0, .ref sb), (1, .ref (s.heap.size + 0)), (2, .ref (s.heap.size + 81)), (3, .int (nI (7 * k)))] := hl
  have hc1 : cells + 0 + 0 ≤ room_1.cells := by show cells + 0 + 0 ≤ 600000; omega
  have hs1 : slots + 0 + 0 ≤ room_1.slots := by show slots + 0 + 0 ≤ 7302250; omega
  refine lv_aload_n hx hb (gfind_ok glw_ok_1 rfl) rfl (lv_at hl 1 rfl) ?_
  refine lw_arg (b := s.heap.size) (i0 := 7 * k) (j := 1) (L := L) hx hb hX hbl hbA hS (lv_at hl 0 rfl) (lv_at hl 3 rfl) (gfind_ok glw_ok_1 rfl) (gfind_ok glw_ok_1 rfl) (gfind_ok glw_ok_1 rfl) rfl (gfind_ok glw_ok_1 rfl) (gfind_ok glw_ok_1 rfl) (by omega) (by omega) ?_
  refine lw_arg (b := s.heap.size) (i0 := 7 * k) (j := 2) (L := L) hx hb hX hbl hbA hS (lv_at hl 0 rfl) (lv_at hl 3 rfl) (gfind_ok glw_ok_1 rfl) (gfind_ok glw_ok_1 rfl) (gfind_ok glw_ok_1 rfl) rfl (gfind_ok glw_ok_1 rfl) (gfind_ok glw_ok_1 rfl) (by omega) (by omega) ?_
  refine gcallL (als := als) (b := s.heap.size) (d := 10) (n := 111) (ps := (565, 566, 567, 71)) (a := 0) (as := [.int (xs (7 * k + 1)), .int (xs (7 * k + 2))]) (rest := []) hx hb hml hts hown hE hZ ⟨by decide, by decide⟩ ((gsound l D ax str s.heap.size 10 _ _ _ _ g1).1) (gfind_ok glw_ok_1 rfl) (by decide +kernel) (fun x h => by cases (Option.some.inj h); rfl) rfl rfl f1 (Nat.le_of_ble_eq_true rfl) hl.1 hR hS (Nat.le_trans (Nat.add_le_add_left (Nat.le_of_ble_eq_true rfl) _) hc0) (Nat.le_trans (Nat.add_le_add_left (Nat.le_of_ble_eq_true rfl) _) hs0) (fun H1 locs1 hR1 hS1 => ?_)
  have hR := hR1; have hS := hS1
  refine lv_aload_n hx hb (gfind_ok glw_ok_1 rfl) rfl (lv_at hl 2 rfl) ?_
  refine lw_arg (b := s.heap.size) (i0 := 7 * k) (j := 1) (L := L) hx hb hX hbl hbA hS (lv_at hl 0 rfl) (lv_at hl 3 rfl) (gfind_ok glw_ok_1 rfl) (gfind_ok glw_ok_2 rfl) (gfind_ok glw_ok_2 rfl) rfl (gfind_ok glw_ok_2 rfl) (gfind_ok glw_ok_2 rfl) (by omega) (by omega) ?_
  refine lw_arg (b := s.heap.size) (i0 := 7 * k) (j := 2) (L := L) hx hb hX hbl hbA hS (lv_at hl 0 rfl) (lv_at hl 3 rfl) (gfind_ok glw_ok_2 rfl) (gfind_ok glw_ok_2 rfl) (gfind_ok glw_ok_2 rfl) rfl (gfind_ok glw_ok_2 rfl) (gfind_ok glw_ok_2 rfl) (by omega) (by omega) ?_
  refine gcallL (als := als) (b := s.heap.size) (d := 10) (n := 168) (ps := (1415, 1416, 1417, 84)) (a := 81) (as := [.int (xs (7 * k + 1)), .int (xs (7 * k + 2))]) (rest := [.int v]) hx hb hml hts hown hE hZ ⟨by decide, by decide⟩ ((gsound l D ax str s.heap.size 10 _ _ _ _ g2).1) (gfind_ok glw_ok_2 rfl) (by decide +kernel) (fun x h => by cases (Option.some.inj h); rfl) rfl rfl f2 (Nat.le_of_ble_eq_true rfl) hl.1 hR hS (Nat.le_trans (Nat.add_le_add_left (Nat.le_of_ble_eq_true rfl) _) hc1) (Nat.le_trans (Nat.add_le_add_left (Nat.le_of_ble_eq_true rfl) _) hs1) (fun H2 locs2 hR2 hS2 => ?_)
  refine lv_icmp_eq hx hb (gfind_ok glw_ok_2 rfl) (tgt := 1468) rfl (fun _ => ?_) (fun z => absurd rfl z)
  exact kk H2 locs2 _ _ hR2 hS2 (Nat.add_le_add (Nat.add_le_add_left (Nat.le_of_ble_eq_true rfl) _) (Nat.le_of_ble_eq_true rfl)) (Nat.add_le_add (Nat.add_le_add_left (Nat.le_of_ble_eq_true rfl) _) (Nat.le_of_ble_eq_true rfl))
set_option maxRecDepth 100000 in
set_option maxHeartbeats 4000000 in
theorem law_case_3 (C : gLc p s m args c D ax str sb L xs) (hl : lv_has als 4 (gLls s.heap.size sb k)) (hk : 7 * k + 7 ≤ L) (hR : gRep D ax str s.heap.size q H) (hS : va_S (fun x => s.heap.size ≤ x) s.heap H locs) (g1 : gR gmi gdf gcd 10 112 [.ref 0, .int (xs (7 * k + 1)), .int (xs (7 * k + 2))] q (some (.int v), q1)) (g2 : gR gmi gdf gcd 10 170 [.ref 81, .int (xs (7 * k + 1)), .int (xs (7 * k + 2))] q1 (some (.int v), q2)) {fs1 fs2 : List (Option (Option Nat))} (f1 : q.1.1 0 = some (.inr (.inr (11, fs1)))) (f2 : q1.1.1 81 = some (.inr (.inr (12, fs2)))) (hc : cells + 100 ≤ 600000) (hs : slots + 5000 ≤ 7302250)
    (kk : ∀ (H9 : Heap) (locs9 : List Loc) (cells9 slots9 : Nat), gRep D ax str s.heap.size q2 H9 → va_S (fun x => s.heap.size ≤ x) s.heap H9 locs9 → cells9 ≤ cells + 40 + 0 → slots9 ≤ slots + 2000 + 0 → W p l e room_1 s m args below meth c H9 locs9 cells9 slots9 Q (F0 m 1468 als [])) : W p l e room_1 s m args below meth c H locs cells slots Q (F0 m 321 als []) := by
  obtain ⟨hx, hb, hml, hts, hown, hE, hZ, hX, hbl, hL⟩ := C
  have hbA : ¬ s.heap.size ≤ sb := by omega
  have hc0 : cells + 50 ≤ room_1.cells := by show cells + 50 ≤ 600000; omega
  have hs0 : slots + 2500 ≤ room_1.slots := by show slots + 2500 ≤ 7302250; omega
  have hl : lv_has als 4 [(0, .ref sb), (1, .ref (s.heap.size + 0)), (2, .ref (s.heap.size + 81)), (3, .int (nI (7 * k)))] := hl
  have hc1 : cells + 0 + 0 ≤ room_1.cells := by show cells + 0 + 0 ≤ 600000; omega
  have hs1 : slots + 0 + 0 ≤ room_1.slots := by show slots + 0 + 0 ≤ 7302250; omega
  refine lv_aload_n hx hb (gfind_ok glw_ok_2 rfl) rfl (lv_at hl 1 rfl) ?_
  refine lw_arg (b := s.heap.size) (i0 := 7 * k) (j := 1) (L := L) hx hb hX hbl hbA hS (lv_at hl 0 rfl) (lv_at hl 3 rfl) (gfind_ok glw_ok_2 rfl) (gfind_ok glw_ok_2 rfl) (gfind_ok glw_ok_2 rfl) rfl (gfind_ok glw_ok_2 rfl) (gfind_ok glw_ok_2 rfl) (by omega) (by omega) ?_
  refine lw_arg (b := s.heap.size) (i0 := 7 * k) (j := 2) (L := L) hx hb hX hbl hbA hS (lv_at hl 0 rfl) (lv_at hl 3 rfl) (gfind_ok glw_ok_2 rfl) (gfind_ok glw_ok_2 rfl) (gfind_ok glw_ok_2 rfl) rfl (gfind_ok glw_ok_2 rfl) (gfind_ok glw_ok_2 rfl) (by omega) (by omega) ?_
  refine gcallL (als := als) (b := s.heap.size) (d := 10) (n := 112) (ps := (572, 573, 574, 71)) (a := 0) (as := [.int (xs (7 * k + 1)), .int (xs (7 * k + 2))]) (rest := []) hx hb hml hts hown hE hZ ⟨by decide, by decide⟩ ((gsound l D ax str s.heap.size 10 _ _ _ _ g1).1) (gfind_ok glw_ok_2 rfl) (by decide +kernel) (fun x h => by cases (Option.some.inj h); rfl) rfl rfl f1 (Nat.le_of_ble_eq_true rfl) hl.1 hR hS (Nat.le_trans (Nat.add_le_add_left (Nat.le_of_ble_eq_true rfl) _) hc0) (Nat.le_trans (Nat.add_le_add_left (Nat.le_of_ble_eq_true rfl) _) hs0) (fun H1 locs1 hR1 hS1 => ?_)
  have hR := hR1; have hS := hS1
  refine lv_aload_n hx hb (gfind_ok glw_ok_2 rfl) rfl (lv_at hl 2 rfl) ?_
  refine lw_arg (b := s.heap.size) (i0 := 7 * k) (j := 1) (L := L) hx hb hX hbl hbA hS (lv_at hl 0 rfl) (lv_at hl 3 rfl) (gfind_ok glw_ok_2 rfl) (gfind_ok glw_ok_2 rfl) (gfind_ok glw_ok_2 rfl) rfl (gfind_ok glw_ok_2 rfl) (gfind_ok glw_ok_2 rfl) (by omega) (by omega) ?_
  refine lw_arg (b := s.heap.size) (i0 := 7 * k) (j := 2) (L := L) hx hb hX hbl hbA hS (lv_at hl 0 rfl) (lv_at hl 3 rfl) (gfind_ok glw_ok_2 rfl) (gfind_ok glw_ok_2 rfl) (gfind_ok glw_ok_2 rfl) rfl (gfind_ok glw_ok_2 rfl) (gfind_ok glw_ok_2 rfl) (by omega) (by omega) ?_
  refine gcallL (als := als) (b := s.heap.size) (d := 10) (n := 170) (ps := (1423, 1424, 1425, 84)) (a := 81) (as := [.int (xs (7 * k + 1)), .int (xs (7 * k + 2))]) (rest := [.int v]) hx hb hml hts hown hE hZ ⟨by decide, by decide⟩ ((gsound l D ax str s.heap.size 10 _ _ _ _ g2).1) (gfind_ok glw_ok_2 rfl) (by decide +kernel) (fun x h => by cases (Option.some.inj h); rfl) rfl rfl f2 (Nat.le_of_ble_eq_true rfl) hl.1 hR hS (Nat.le_trans (Nat.add_le_add_left (Nat.le_of_ble_eq_true rfl) _) hc1) (Nat.le_trans (Nat.add_le_add_left (Nat.le_of_ble_eq_true rfl) _) hs1) (fun H2 locs2 hR2 hS2 => ?_)
  refine lv_icmp_eq hx hb (gfind_ok glw_ok_2 rfl) (tgt := 1468) rfl (fun _ => ?_) (fun z => absurd rfl z)
  exact kk H2 locs2 _ _ hR2 hS2 (Nat.add_le_add (Nat.add_le_add_left (Nat.le_of_ble_eq_true rfl) _) (Nat.le_of_ble_eq_true rfl)) (Nat.add_le_add (Nat.add_le_add_left (Nat.le_of_ble_eq_true rfl) _) (Nat.le_of_ble_eq_true rfl))
set_option maxRecDepth 100000 in
set_option maxHeartbeats 4000000 in
theorem law_case_4 (C : gLc p s m args c D ax str sb L xs) (hl : lv_has als 4 (gLls s.heap.size sb k)) (hk : 7 * k + 7 ≤ L) (hR : gRep D ax str s.heap.size q H) (hS : va_S (fun x => s.heap.size ≤ x) s.heap H locs) (g1 : gR gmi gdf gcd 10 113 [.ref 0] q (some (.int v), q1)) (g2 : gR gmi gdf gcd 10 178 [.ref 81] q1 (some (.int v), q2)) {fs1 fs2 : List (Option (Option Nat))} (f1 : q.1.1 0 = some (.inr (.inr (11, fs1)))) (f2 : q1.1.1 81 = some (.inr (.inr (12, fs2)))) (hc : cells + 100 ≤ 600000) (hs : slots + 5000 ≤ 7302250)
    (kk : ∀ (H9 : Heap) (locs9 : List Loc) (cells9 slots9 : Nat), gRep D ax str s.heap.size q2 H9 → va_S (fun x => s.heap.size ≤ x) s.heap H9 locs9 → cells9 ≤ cells + 40 + 0 → slots9 ≤ slots + 2000 + 0 → W p l e room_1 s m args below meth c H9 locs9 cells9 slots9 Q (F0 m 1468 als [])) : W p l e room_1 s m args below meth c H locs cells slots Q (F0 m 354 als []) := by
  obtain ⟨hx, hb, hml, hts, hown, hE, hZ, hX, hbl, hL⟩ := C
  have hbA : ¬ s.heap.size ≤ sb := by omega
  have hc0 : cells + 50 ≤ room_1.cells := by show cells + 50 ≤ 600000; omega
  have hs0 : slots + 2500 ≤ room_1.slots := by show slots + 2500 ≤ 7302250; omega
  have hl : lv_has als 4 [(0, .ref sb), (1, .ref (s.heap.size + 0)), (2, .ref (s.heap.size + 81)), (3, .int (nI (7 * k)))] := hl
  have hc1 : cells + 0 + 0 ≤ room_1.cells := by show cells + 0 + 0 ≤ 600000; omega
  have hs1 : slots + 0 + 0 ≤ room_1.slots := by show slots + 0 + 0 ≤ 7302250; omega
  refine lv_aload_n hx hb (gfind_ok glw_ok_2 rfl) rfl (lv_at hl 1 rfl) ?_
  refine gcallL (als := als) (b := s.heap.size) (d := 10) (n := 113) (ps := (583, 584, 585, 71)) (a := 0) (as := []) (rest := []) hx hb hml hts hown hE hZ ⟨by decide, by decide⟩ ((gsound l D ax str s.heap.size 10 _ _ _ _ g1).1) (gfind_ok glw_ok_2 rfl) (by decide +kernel) (fun x h => by cases (Option.some.inj h); rfl) rfl rfl f1 (Nat.le_of_ble_eq_true rfl) hl.1 hR hS (Nat.le_trans (Nat.add_le_add_left (Nat.le_of_ble_eq_true rfl) _) hc0) (Nat.le_trans (Nat.add_le_add_left (Nat.le_of_ble_eq_true rfl) _) hs0) (fun H1 locs1 hR1 hS1 => ?_)
  have hR := hR1; have hS := hS1
  refine lv_aload_n hx hb (gfind_ok glw_ok_2 rfl) rfl (lv_at hl 2 rfl) ?_
  refine gcallL (als := als) (b := s.heap.size) (d := 10) (n := 178) (ps := (1437, 1438, 1439, 84)) (a := 81) (as := []) (rest := [.int v]) hx hb hml hts hown hE hZ ⟨by decide, by decide⟩ ((gsound l D ax str s.heap.size 10 _ _ _ _ g2).1) (gfind_ok glw_ok_2 rfl) (by decide +kernel) (fun x h => by cases (Option.some.inj h); rfl) rfl rfl f2 (Nat.le_of_ble_eq_true rfl) hl.1 hR hS (Nat.le_trans (Nat.add_le_add_left (Nat.le_of_ble_eq_true rfl) _) hc1) (Nat.le_trans (Nat.add_le_add_left (Nat.le_of_ble_eq_true rfl) _) hs1) (fun H2 locs2 hR2 hS2 => ?_)
  refine lv_icmp_eq hx hb (gfind_ok glw_ok_2 rfl) (tgt := 1468) rfl (fun _ => ?_) (fun z => absurd rfl z)
  exact kk H2 locs2 _ _ hR2 hS2 (Nat.add_le_add (Nat.add_le_add_left (Nat.le_of_ble_eq_true rfl) _) (Nat.le_of_ble_eq_true rfl)) (Nat.add_le_add (Nat.add_le_add_left (Nat.le_of_ble_eq_true rfl) _) (Nat.le_of_ble_eq_true rfl))
set_option maxRecDepth 100000 in
set_option maxHeartbeats 4000000 in
theorem law_case_5 (C : gLc p s m args c D ax str sb L xs) (hl : lv_has als 4 (gLls s.heap.size sb k)) (hk : 7 * k + 7 ≤ L) (hR : gRep D ax str s.heap.size q H) (hS : va_S (fun x => s.heap.size ≤ x) s.heap H locs) (g1 : gR gmi gdf gcd 10 114 [.ref 0] q (some (.int v), q1)) (g2 : gR gmi gdf gcd 10 179 [.ref 81] q1 (some (.int v), q2)) {fs1 fs2 : List (Option (Option Nat))} (f1 : q.1.1 0 = some (.inr (.inr (11, fs1)))) (f2 : q1.1.1 81 = some (.inr (.inr (12, fs2)))) (hc : cells + 100 ≤ 600000) (hs : slots + 5000 ≤ 7302250)
    (kk : ∀ (H9 : Heap) (locs9 : List Loc) (cells9 slots9 : Nat), gRep D ax str s.heap.size q2 H9 → va_S (fun x => s.heap.size ≤ x) s.heap H9 locs9 → cells9 ≤ cells + 40 + 0 → slots9 ≤ slots + 2000 + 0 → W p l e room_1 s m args below meth c H9 locs9 cells9 slots9 Q (F0 m 1468 als [])) : W p l e room_1 s m args below meth c H locs cells slots Q (F0 m 367 als []) := by
  obtain ⟨hx, hb, hml, hts, hown, hE, hZ, hX, hbl, hL⟩ := C
  have hbA : ¬ s.heap.size ≤ sb := by omega
  have hc0 : cells + 50 ≤ room_1.cells := by show cells + 50 ≤ 600000; omega
  have hs0 : slots + 2500 ≤ room_1.slots := by show slots + 2500 ≤ 7302250; omega
  have hl : lv_has als 4 [(0, .ref sb), (1, .ref (s.heap.size + 0)), (2, .ref (s.heap.size + 81)), (3, .int (nI (7 * k)))] := hl
  have hc1 : cells + 0 + 0 ≤ room_1.cells := by show cells + 0 + 0 ≤ 600000; omega
  have hs1 : slots + 0 + 0 ≤ room_1.slots := by show slots + 0 + 0 ≤ 7302250; omega
  refine lv_aload_n hx hb (gfind_ok glw_ok_2 rfl) rfl (lv_at hl 1 rfl) ?_
  refine gcallL (als := als) (b := s.heap.size) (d := 10) (n := 114) (ps := (655, 656, 657, 71)) (a := 0) (as := []) (rest := []) hx hb hml hts hown hE hZ ⟨by decide, by decide⟩ ((gsound l D ax str s.heap.size 10 _ _ _ _ g1).1) (gfind_ok glw_ok_2 rfl) (by decide +kernel) (fun x h => by cases (Option.some.inj h); rfl) rfl rfl f1 (Nat.le_of_ble_eq_true rfl) hl.1 hR hS (Nat.le_trans (Nat.add_le_add_left (Nat.le_of_ble_eq_true rfl) _) hc0) (Nat.le_trans (Nat.add_le_add_left (Nat.le_of_ble_eq_true rfl) _) hs0) (fun H1 locs1 hR1 hS1 => ?_)
  have hR := hR1; have hS := hS1
  refine lv_aload_n hx hb (gfind_ok glw_ok_2 rfl) rfl (lv_at hl 2 rfl) ?_
  refine gcallL (als := als) (b := s.heap.size) (d := 10) (n := 179) (ps := (1473, 1474, 1475, 84)) (a := 81) (as := []) (rest := [.int v]) hx hb hml hts hown hE hZ ⟨by decide, by decide⟩ ((gsound l D ax str s.heap.size 10 _ _ _ _ g2).1) (gfind_ok glw_ok_2 rfl) (by decide +kernel) (fun x h => by cases (Option.some.inj h); rfl) rfl rfl f2 (Nat.le_of_ble_eq_true rfl) hl.1 hR hS (Nat.le_trans (Nat.add_le_add_left (Nat.le_of_ble_eq_true rfl) _) hc1) (Nat.le_trans (Nat.add_le_add_left (Nat.le_of_ble_eq_true rfl) _) hs1) (fun H2 locs2 hR2 hS2 => ?_)
  refine lv_icmp_eq hx hb (gfind_ok glw_ok_2 rfl) (tgt := 1468) rfl (fun _ => ?_) (fun z => absurd rfl z)
  exact kk H2 locs2 _ _ hR2 hS2 (Nat.add_le_add (Nat.add_le_add_left (Nat.le_of_ble_eq_true rfl) _) (Nat.le_of_ble_eq_true rfl)) (Nat.add_le_add (Nat.add_le_add_left (Nat.le_of_ble_eq_true rfl) _) (Nat.le_of_ble_eq_true rfl))
set_option maxRecDepth 100000 in
set_option maxHeartbeats 4000000 in
theorem law_case_6 (C : gLc p s m args c D ax str sb L xs) (hl : lv_has als 4 (gLls s.heap.size sb k)) (hk : 7 * k + 7 ≤ L) (hR : gRep D ax str s.heap.size q H) (hS : va_S (fun x => s.heap.size ≤ x) s.heap H locs) (g1 : gR gmi gdf gcd 10 115 [.ref 0, .int (xs (7 * k + 1)), .int (xs (7 * k + 2))] q (some (.int v), q1)) (g2 : gR gmi gdf gcd 10 180 [.ref 81, .int (xs (7 * k + 1)), .int (xs (7 * k + 2))] q1 (some (.int v), q2)) {fs1 fs2 : List (Option (Option Nat))} (f1 : q.1.1 0 = some (.inr (.inr (11, fs1)))) (f2 : q1.1.1 81 = some (.inr (.inr (12, fs2)))) (hc : cells + 100 ≤ 600000) (hs : slots + 5000 ≤ 7302250)
    (kk : ∀ (H9 : Heap) (locs9 : List Loc) (cells9 slots9 : Nat), gRep D ax str s.heap.size q2 H9 → va_S (fun x => s.heap.size ≤ x) s.heap H9 locs9 → cells9 ≤ cells + 40 + 0 → slots9 ≤ slots + 2000 + 0 → W p l e room_1 s m args below meth c H9 locs9 cells9 slots9 Q (F0 m 1468 als [])) : W p l e room_1 s m args below meth c H locs cells slots Q (F0 m 380 als []) := by
  obtain ⟨hx, hb, hml, hts, hown, hE, hZ, hX, hbl, hL⟩ := C
  have hbA : ¬ s.heap.size ≤ sb := by omega
  have hc0 : cells + 50 ≤ room_1.cells := by show cells + 50 ≤ 600000; omega
  have hs0 : slots + 2500 ≤ room_1.slots := by show slots + 2500 ≤ 7302250; omega
  have hl : lv_has als 4 [(0, .ref sb), (1, .ref (s.heap.size + 0)), (2, .ref (s.heap.size + 81)), (3, .int (nI (7 * k)))] := hl
  have hc1 : cells + 0 + 0 ≤ room_1.cells := by show cells + 0 + 0 ≤ 600000; omega
  have hs1 : slots + 0 + 0 ≤ room_1.slots := by show slots + 0 + 0 ≤ 7302250; omega
  refine lv_aload_n hx hb (gfind_ok glw_ok_2 rfl) rfl (lv_at hl 1 rfl) ?_
  refine lw_arg (b := s.heap.size) (i0 := 7 * k) (j := 1) (L := L) hx hb hX hbl hbA hS (lv_at hl 0 rfl) (lv_at hl 3 rfl) (gfind_ok glw_ok_2 rfl) (gfind_ok glw_ok_2 rfl) (gfind_ok glw_ok_2 rfl) rfl (gfind_ok glw_ok_2 rfl) (gfind_ok glw_ok_2 rfl) (by omega) (by omega) ?_
  refine lw_arg (b := s.heap.size) (i0 := 7 * k) (j := 2) (L := L) hx hb hX hbl hbA hS (lv_at hl 0 rfl) (lv_at hl 3 rfl) (gfind_ok glw_ok_3 rfl) (gfind_ok glw_ok_3 rfl) (gfind_ok glw_ok_3 rfl) rfl (gfind_ok glw_ok_3 rfl) (gfind_ok glw_ok_3 rfl) (by omega) (by omega) ?_
  refine gcallL (als := als) (b := s.heap.size) (d := 10) (n := 115) (ps := (659, 660, 661, 71)) (a := 0) (as := [.int (xs (7 * k + 1)), .int (xs (7 * k + 2))]) (rest := []) hx hb hml hts hown hE hZ ⟨by decide, by decide⟩ ((gsound l D ax str s.heap.size 10 _ _ _ _ g1).1) (gfind_ok glw_ok_3 rfl) (by decide +kernel) (fun x h => by cases (Option.some.inj h); rfl) rfl rfl f1 (Nat.le_of_ble_eq_true rfl) hl.1 hR hS (Nat.le_trans (Nat.add_le_add_left (Nat.le_of_ble_eq_true rfl) _) hc0) (Nat.le_trans (Nat.add_le_add_left (Nat.le_of_ble_eq_true rfl) _) hs0) (fun H1 locs1 hR1 hS1 => ?_)
  have hR := hR1; have hS := hS1
  refine lv_aload_n hx hb (gfind_ok glw_ok_3 rfl) rfl (lv_at hl 2 rfl) ?_
  refine lw_arg (b := s.heap.size) (i0 := 7 * k) (j := 1) (L := L) hx hb hX hbl hbA hS (lv_at hl 0 rfl) (lv_at hl 3 rfl) (gfind_ok glw_ok_3 rfl) (gfind_ok glw_ok_3 rfl) (gfind_ok glw_ok_3 rfl) rfl (gfind_ok glw_ok_3 rfl) (gfind_ok glw_ok_3 rfl) (by omega) (by omega) ?_
  refine lw_arg (b := s.heap.size) (i0 := 7 * k) (j := 2) (L := L) hx hb hX hbl hbA hS (lv_at hl 0 rfl) (lv_at hl 3 rfl) (gfind_ok glw_ok_3 rfl) (gfind_ok glw_ok_3 rfl) (gfind_ok glw_ok_3 rfl) rfl (gfind_ok glw_ok_3 rfl) (gfind_ok glw_ok_3 rfl) (by omega) (by omega) ?_
  refine gcallL (als := als) (b := s.heap.size) (d := 10) (n := 180) (ps := (1477, 1478, 1479, 84)) (a := 81) (as := [.int (xs (7 * k + 1)), .int (xs (7 * k + 2))]) (rest := [.int v]) hx hb hml hts hown hE hZ ⟨by decide, by decide⟩ ((gsound l D ax str s.heap.size 10 _ _ _ _ g2).1) (gfind_ok glw_ok_3 rfl) (by decide +kernel) (fun x h => by cases (Option.some.inj h); rfl) rfl rfl f2 (Nat.le_of_ble_eq_true rfl) hl.1 hR hS (Nat.le_trans (Nat.add_le_add_left (Nat.le_of_ble_eq_true rfl) _) hc1) (Nat.le_trans (Nat.add_le_add_left (Nat.le_of_ble_eq_true rfl) _) hs1) (fun H2 locs2 hR2 hS2 => ?_)
  refine lv_icmp_eq hx hb (gfind_ok glw_ok_3 rfl) (tgt := 1468) rfl (fun _ => ?_) (fun z => absurd rfl z)
  exact kk H2 locs2 _ _ hR2 hS2 (Nat.add_le_add (Nat.add_le_add_left (Nat.le_of_ble_eq_true rfl) _) (Nat.le_of_ble_eq_true rfl)) (Nat.add_le_add (Nat.add_le_add_left (Nat.le_of_ble_eq_true rfl) _) (Nat.le_of_ble_eq_true rfl))
set_option maxRecDepth 100000 in
set_option maxHeartbeats 4000000 in
theorem law_case_7 (C : gLc p s m args c D ax str sb L xs) (hl : lv_has als 4 (gLls s.heap.size sb k)) (hk : 7 * k + 7 ≤ L) (hR : gRep D ax str s.heap.size q H) (hS : va_S (fun x => s.heap.size ≤ x) s.heap H locs) (g1 : gR gmi gdf gcd 10 116 [.ref 0, .int (xs (7 * k + 1)), .int (xs (7 * k + 2)), .int (xs (7 * k + 3)), .int (xs (7 * k + 4))] q (some (.int v), q1)) (g2 : gR gmi gdf gcd 10 181 [.ref 81, .int (xs (7 * k + 1)), .int (xs (7 * k + 2)), .int (xs (7 * k + 3)), .int (xs (7 * k + 4))] q1 (some (.int v), q2)) {fs1 fs2 : List (Option (Option Nat))} (f1 : q.1.1 0 = some (.inr (.inr (11, fs1)))) (f2 : q1.1.1 81 = some (.inr (.inr (12, fs2)))) (hc : cells + 100 ≤ 600000) (hs : slots + 5000 ≤ 7302250)
    (kk : ∀ (H9 : Heap) (locs9 : List Loc) (cells9 slots9 : Nat), gRep D ax str s.heap.size q2 H9 → va_S (fun x => s.heap.size ≤ x) s.heap H9 locs9 → cells9 ≤ cells + 40 + 0 → slots9 ≤ slots + 2000 + 0 → W p l e room_1 s m args below meth c H9 locs9 cells9 slots9 Q (F0 m 1468 als [])) : W p l e room_1 s m args below meth c H locs cells slots Q (F0 m 413 als []) := by
  obtain ⟨hx, hb, hml, hts, hown, hE, hZ, hX, hbl, hL⟩ := C
  have hbA : ¬ s.heap.size ≤ sb := by omega
  have hc0 : cells + 50 ≤ room_1.cells := by show cells + 50 ≤ 600000; omega
  have hs0 : slots + 2500 ≤ room_1.slots := by show slots + 2500 ≤ 7302250; omega
  have hl : lv_has als 4 [(0, .ref sb), (1, .ref (s.heap.size + 0)), (2, .ref (s.heap.size + 81)), (3, .int (nI (7 * k)))] := hl
  have hc1 : cells + 0 + 0 ≤ room_1.cells := by show cells + 0 + 0 ≤ 600000; omega
  have hs1 : slots + 0 + 0 ≤ room_1.slots := by show slots + 0 + 0 ≤ 7302250; omega
  refine lv_aload_n hx hb (gfind_ok glw_ok_3 rfl) rfl (lv_at hl 1 rfl) ?_
  refine lw_arg (b := s.heap.size) (i0 := 7 * k) (j := 1) (L := L) hx hb hX hbl hbA hS (lv_at hl 0 rfl) (lv_at hl 3 rfl) (gfind_ok glw_ok_3 rfl) (gfind_ok glw_ok_3 rfl) (gfind_ok glw_ok_3 rfl) rfl (gfind_ok glw_ok_3 rfl) (gfind_ok glw_ok_3 rfl) (by omega) (by omega) ?_
  refine lw_arg (b := s.heap.size) (i0 := 7 * k) (j := 2) (L := L) hx hb hX hbl hbA hS (lv_at hl 0 rfl) (lv_at hl 3 rfl) (gfind_ok glw_ok_3 rfl) (gfind_ok glw_ok_3 rfl) (gfind_ok glw_ok_3 rfl) rfl (gfind_ok glw_ok_3 rfl) (gfind_ok glw_ok_3 rfl) (by omega) (by omega) ?_
  refine lw_arg (b := s.heap.size) (i0 := 7 * k) (j := 3) (L := L) hx hb hX hbl hbA hS (lv_at hl 0 rfl) (lv_at hl 3 rfl) (gfind_ok glw_ok_3 rfl) (gfind_ok glw_ok_3 rfl) (gfind_ok glw_ok_3 rfl) rfl (gfind_ok glw_ok_3 rfl) (gfind_ok glw_ok_3 rfl) (by omega) (by omega) ?_
  refine lw_arg (b := s.heap.size) (i0 := 7 * k) (j := 4) (L := L) hx hb hX hbl hbA hS (lv_at hl 0 rfl) (lv_at hl 3 rfl) (gfind_ok glw_ok_3 rfl) (gfind_ok glw_ok_3 rfl) (gfind_ok glw_ok_3 rfl) rfl (gfind_ok glw_ok_3 rfl) (gfind_ok glw_ok_3 rfl) (by omega) (by omega) ?_
  refine gcallL (als := als) (b := s.heap.size) (d := 10) (n := 116) (ps := (667, 668, 669, 71)) (a := 0) (as := [.int (xs (7 * k + 1)), .int (xs (7 * k + 2)), .int (xs (7 * k + 3)), .int (xs (7 * k + 4))]) (rest := []) hx hb hml hts hown hE hZ ⟨by decide, by decide⟩ ((gsound l D ax str s.heap.size 10 _ _ _ _ g1).1) (gfind_ok glw_ok_3 rfl) (by decide +kernel) (fun x h => by cases (Option.some.inj h); rfl) rfl rfl f1 (Nat.le_of_ble_eq_true rfl) hl.1 hR hS (Nat.le_trans (Nat.add_le_add_left (Nat.le_of_ble_eq_true rfl) _) hc0) (Nat.le_trans (Nat.add_le_add_left (Nat.le_of_ble_eq_true rfl) _) hs0) (fun H1 locs1 hR1 hS1 => ?_)
  have hR := hR1; have hS := hS1
  refine lv_aload_n hx hb (gfind_ok glw_ok_3 rfl) rfl (lv_at hl 2 rfl) ?_
  refine lw_arg (b := s.heap.size) (i0 := 7 * k) (j := 1) (L := L) hx hb hX hbl hbA hS (lv_at hl 0 rfl) (lv_at hl 3 rfl) (gfind_ok glw_ok_3 rfl) (gfind_ok glw_ok_3 rfl) (gfind_ok glw_ok_3 rfl) rfl (gfind_ok glw_ok_3 rfl) (gfind_ok glw_ok_3 rfl) (by omega) (by omega) ?_
  refine lw_arg (b := s.heap.size) (i0 := 7 * k) (j := 2) (L := L) hx hb hX hbl hbA hS (lv_at hl 0 rfl) (lv_at hl 3 rfl) (gfind_ok glw_ok_3 rfl) (gfind_ok glw_ok_3 rfl) (gfind_ok glw_ok_3 rfl) rfl (gfind_ok glw_ok_3 rfl) (gfind_ok glw_ok_3 rfl) (by omega) (by omega) ?_
  refine lw_arg (b := s.heap.size) (i0 := 7 * k) (j := 3) (L := L) hx hb hX hbl hbA hS (lv_at hl 0 rfl) (lv_at hl 3 rfl) (gfind_ok glw_ok_3 rfl) (gfind_ok glw_ok_3 rfl) (gfind_ok glw_ok_3 rfl) rfl (gfind_ok glw_ok_3 rfl) (gfind_ok glw_ok_3 rfl) (by omega) (by omega) ?_
  refine lw_arg (b := s.heap.size) (i0 := 7 * k) (j := 4) (L := L) hx hb hX hbl hbA hS (lv_at hl 0 rfl) (lv_at hl 3 rfl) (gfind_ok glw_ok_3 rfl) (gfind_ok glw_ok_4 rfl) (gfind_ok glw_ok_4 rfl) rfl (gfind_ok glw_ok_4 rfl) (gfind_ok glw_ok_4 rfl) (by omega) (by omega) ?_
  refine gcallL (als := als) (b := s.heap.size) (d := 10) (n := 181) (ps := (1485, 1486, 1487, 84)) (a := 81) (as := [.int (xs (7 * k + 1)), .int (xs (7 * k + 2)), .int (xs (7 * k + 3)), .int (xs (7 * k + 4))]) (rest := [.int v]) hx hb hml hts hown hE hZ ⟨by decide, by decide⟩ ((gsound l D ax str s.heap.size 10 _ _ _ _ g2).1) (gfind_ok glw_ok_4 rfl) (by decide +kernel) (fun x h => by cases (Option.some.inj h); rfl) rfl rfl f2 (Nat.le_of_ble_eq_true rfl) hl.1 hR hS (Nat.le_trans (Nat.add_le_add_left (Nat.le_of_ble_eq_true rfl) _) hc1) (Nat.le_trans (Nat.add_le_add_left (Nat.le_of_ble_eq_true rfl) _) hs1) (fun H2 locs2 hR2 hS2 => ?_)
  refine lv_icmp_eq hx hb (gfind_ok glw_ok_4 rfl) (tgt := 1468) rfl (fun _ => ?_) (fun z => absurd rfl z)
  exact kk H2 locs2 _ _ hR2 hS2 (Nat.add_le_add (Nat.add_le_add_left (Nat.le_of_ble_eq_true rfl) _) (Nat.le_of_ble_eq_true rfl)) (Nat.add_le_add (Nat.add_le_add_left (Nat.le_of_ble_eq_true rfl) _) (Nat.le_of_ble_eq_true rfl))
set_option maxRecDepth 100000 in
set_option maxHeartbeats 4000000 in
theorem law_case_8 (C : gLc p s m args c D ax str sb L xs) (hl : lv_has als 4 (gLls s.heap.size sb k)) (hk : 7 * k + 7 ≤ L) (hR : gRep D ax str s.heap.size q H) (hS : va_S (fun x => s.heap.size ≤ x) s.heap H locs) (g1 : gR gmi gdf gcd 10 117 [.ref 0, .int (xs (7 * k + 1)), .int (xs (7 * k + 2))] q (some (.int v), q1)) (g2 : gR gmi gdf gcd 10 183 [.ref 81, .int (xs (7 * k + 1)), .int (xs (7 * k + 2))] q1 (some (.int v), q2)) {fs1 fs2 : List (Option (Option Nat))} (f1 : q.1.1 0 = some (.inr (.inr (11, fs1)))) (f2 : q1.1.1 81 = some (.inr (.inr (12, fs2)))) (hc : cells + 100 ≤ 600000) (hs : slots + 5000 ≤ 7302250)
    (kk : ∀ (H9 : Heap) (locs9 : List Loc) (cells9 slots9 : Nat), gRep D ax str s.heap.size q2 H9 → va_S (fun x => s.heap.size ≤ x) s.heap H9 locs9 → cells9 ≤ cells + 40 + 0 → slots9 ≤ slots + 2000 + 0 → W p l e room_1 s m args below meth c H9 locs9 cells9 slots9 Q (F0 m 1468 als [])) : W p l e room_1 s m args below meth c H locs cells slots Q (F0 m 466 als []) := by
  obtain ⟨hx, hb, hml, hts, hown, hE, hZ, hX, hbl, hL⟩ := C
  have hbA : ¬ s.heap.size ≤ sb := by omega
  have hc0 : cells + 50 ≤ room_1.cells := by show cells + 50 ≤ 600000; omega
  have hs0 : slots + 2500 ≤ room_1.slots := by show slots + 2500 ≤ 7302250; omega
  have hl : lv_has als 4 [(0, .ref sb), (1, .ref (s.heap.size + 0)), (2, .ref (s.heap.size + 81)), (3, .int (nI (7 * k)))] := hl
  have hc1 : cells + 0 + 0 ≤ room_1.cells := by show cells + 0 + 0 ≤ 600000; omega
  have hs1 : slots + 0 + 0 ≤ room_1.slots := by show slots + 0 + 0 ≤ 7302250; omega
  refine lv_aload_n hx hb (gfind_ok glw_ok_4 rfl) rfl (lv_at hl 1 rfl) ?_
  refine lw_arg (b := s.heap.size) (i0 := 7 * k) (j := 1) (L := L) hx hb hX hbl hbA hS (lv_at hl 0 rfl) (lv_at hl 3 rfl) (gfind_ok glw_ok_4 rfl) (gfind_ok glw_ok_4 rfl) (gfind_ok glw_ok_4 rfl) rfl (gfind_ok glw_ok_4 rfl) (gfind_ok glw_ok_4 rfl) (by omega) (by omega) ?_
  refine lw_arg (b := s.heap.size) (i0 := 7 * k) (j := 2) (L := L) hx hb hX hbl hbA hS (lv_at hl 0 rfl) (lv_at hl 3 rfl) (gfind_ok glw_ok_4 rfl) (gfind_ok glw_ok_4 rfl) (gfind_ok glw_ok_4 rfl) rfl (gfind_ok glw_ok_4 rfl) (gfind_ok glw_ok_4 rfl) (by omega) (by omega) ?_
  refine gcallL (als := als) (b := s.heap.size) (d := 10) (n := 117) (ps := (675, 676, 677, 71)) (a := 0) (as := [.int (xs (7 * k + 1)), .int (xs (7 * k + 2))]) (rest := []) hx hb hml hts hown hE hZ ⟨by decide, by decide⟩ ((gsound l D ax str s.heap.size 10 _ _ _ _ g1).1) (gfind_ok glw_ok_4 rfl) (by decide +kernel) (fun x h => by cases (Option.some.inj h); rfl) rfl rfl f1 (Nat.le_of_ble_eq_true rfl) hl.1 hR hS (Nat.le_trans (Nat.add_le_add_left (Nat.le_of_ble_eq_true rfl) _) hc0) (Nat.le_trans (Nat.add_le_add_left (Nat.le_of_ble_eq_true rfl) _) hs0) (fun H1 locs1 hR1 hS1 => ?_)
  have hR := hR1; have hS := hS1
  refine lv_aload_n hx hb (gfind_ok glw_ok_4 rfl) rfl (lv_at hl 2 rfl) ?_
  refine lw_arg (b := s.heap.size) (i0 := 7 * k) (j := 1) (L := L) hx hb hX hbl hbA hS (lv_at hl 0 rfl) (lv_at hl 3 rfl) (gfind_ok glw_ok_4 rfl) (gfind_ok glw_ok_4 rfl) (gfind_ok glw_ok_4 rfl) rfl (gfind_ok glw_ok_4 rfl) (gfind_ok glw_ok_4 rfl) (by omega) (by omega) ?_
  refine lw_arg (b := s.heap.size) (i0 := 7 * k) (j := 2) (L := L) hx hb hX hbl hbA hS (lv_at hl 0 rfl) (lv_at hl 3 rfl) (gfind_ok glw_ok_4 rfl) (gfind_ok glw_ok_4 rfl) (gfind_ok glw_ok_4 rfl) rfl (gfind_ok glw_ok_4 rfl) (gfind_ok glw_ok_4 rfl) (by omega) (by omega) ?_
  refine gcallL (als := als) (b := s.heap.size) (d := 10) (n := 183) (ps := (1490, 1491, 1492, 84)) (a := 81) (as := [.int (xs (7 * k + 1)), .int (xs (7 * k + 2))]) (rest := [.int v]) hx hb hml hts hown hE hZ ⟨by decide, by decide⟩ ((gsound l D ax str s.heap.size 10 _ _ _ _ g2).1) (gfind_ok glw_ok_4 rfl) (by decide +kernel) (fun x h => by cases (Option.some.inj h); rfl) rfl rfl f2 (Nat.le_of_ble_eq_true rfl) hl.1 hR hS (Nat.le_trans (Nat.add_le_add_left (Nat.le_of_ble_eq_true rfl) _) hc1) (Nat.le_trans (Nat.add_le_add_left (Nat.le_of_ble_eq_true rfl) _) hs1) (fun H2 locs2 hR2 hS2 => ?_)
  refine lv_icmp_eq hx hb (gfind_ok glw_ok_4 rfl) (tgt := 1468) rfl (fun _ => ?_) (fun z => absurd rfl z)
  exact kk H2 locs2 _ _ hR2 hS2 (Nat.add_le_add (Nat.add_le_add_left (Nat.le_of_ble_eq_true rfl) _) (Nat.le_of_ble_eq_true rfl)) (Nat.add_le_add (Nat.add_le_add_left (Nat.le_of_ble_eq_true rfl) _) (Nat.le_of_ble_eq_true rfl))
set_option maxRecDepth 100000 in
set_option maxHeartbeats 4000000 in
theorem law_case_9 (C : gLc p s m args c D ax str sb L xs) (hl : lv_has als 4 (gLls s.heap.size sb k)) (hk : 7 * k + 7 ≤ L) (hR : gRep D ax str s.heap.size q H) (hS : va_S (fun x => s.heap.size ≤ x) s.heap H locs) (g1 : gR gmi gdf gcd 10 118 [.ref 0, .int (xs (7 * k + 1))] q (some (.int v), q1)) (g2 : gR gmi gdf gcd 10 185 [.ref 81, .int (xs (7 * k + 1))] q1 (some (.int v), q2)) {fs1 fs2 : List (Option (Option Nat))} (f1 : q.1.1 0 = some (.inr (.inr (11, fs1)))) (f2 : q1.1.1 81 = some (.inr (.inr (12, fs2)))) (hc : cells + 100 ≤ 600000) (hs : slots + 5000 ≤ 7302250)
    (kk : ∀ (H9 : Heap) (locs9 : List Loc) (cells9 slots9 : Nat), gRep D ax str s.heap.size q2 H9 → va_S (fun x => s.heap.size ≤ x) s.heap H9 locs9 → cells9 ≤ cells + 40 + 0 → slots9 ≤ slots + 2000 + 0 → W p l e room_1 s m args below meth c H9 locs9 cells9 slots9 Q (F0 m 1468 als [])) : W p l e room_1 s m args below meth c H locs cells slots Q (F0 m 499 als []) := by
  obtain ⟨hx, hb, hml, hts, hown, hE, hZ, hX, hbl, hL⟩ := C
  have hbA : ¬ s.heap.size ≤ sb := by omega
  have hc0 : cells + 50 ≤ room_1.cells := by show cells + 50 ≤ 600000; omega
  have hs0 : slots + 2500 ≤ room_1.slots := by show slots + 2500 ≤ 7302250; omega
  have hl : lv_has als 4 [(0, .ref sb), (1, .ref (s.heap.size + 0)), (2, .ref (s.heap.size + 81)), (3, .int (nI (7 * k)))] := hl
  have hc1 : cells + 0 + 0 ≤ room_1.cells := by show cells + 0 + 0 ≤ 600000; omega
  have hs1 : slots + 0 + 0 ≤ room_1.slots := by show slots + 0 + 0 ≤ 7302250; omega
  refine lv_aload_n hx hb (gfind_ok glw_ok_4 rfl) rfl (lv_at hl 1 rfl) ?_
  refine lw_arg (b := s.heap.size) (i0 := 7 * k) (j := 1) (L := L) hx hb hX hbl hbA hS (lv_at hl 0 rfl) (lv_at hl 3 rfl) (gfind_ok glw_ok_4 rfl) (gfind_ok glw_ok_4 rfl) (gfind_ok glw_ok_4 rfl) rfl (gfind_ok glw_ok_4 rfl) (gfind_ok glw_ok_4 rfl) (by omega) (by omega) ?_
  refine gcallL (als := als) (b := s.heap.size) (d := 10) (n := 118) (ps := (687, 688, 689, 71)) (a := 0) (as := [.int (xs (7 * k + 1))]) (rest := []) hx hb hml hts hown hE hZ ⟨by decide, by decide⟩ ((gsound l D ax str s.heap.size 10 _ _ _ _ g1).1) (gfind_ok glw_ok_4 rfl) (by decide +kernel) (fun x h => by cases (Option.some.inj h); rfl) rfl rfl f1 (Nat.le_of_ble_eq_true rfl) hl.1 hR hS (Nat.le_trans (Nat.add_le_add_left (Nat.le_of_ble_eq_true rfl) _) hc0) (Nat.le_trans (Nat.add_le_add_left (Nat.le_of_ble_eq_true rfl) _) hs0) (fun H1 locs1 hR1 hS1 => ?_)
  have hR := hR1; have hS := hS1
  refine lv_aload_n hx hb (gfind_ok glw_ok_4 rfl) rfl (lv_at hl 2 rfl) ?_
  refine lw_arg (b := s.heap.size) (i0 := 7 * k) (j := 1) (L := L) hx hb hX hbl hbA hS (lv_at hl 0 rfl) (lv_at hl 3 rfl) (gfind_ok glw_ok_4 rfl) (gfind_ok glw_ok_4 rfl) (gfind_ok glw_ok_4 rfl) rfl (gfind_ok glw_ok_4 rfl) (gfind_ok glw_ok_4 rfl) (by omega) (by omega) ?_
  refine gcallL (als := als) (b := s.heap.size) (d := 10) (n := 185) (ps := (1498, 1499, 1500, 84)) (a := 81) (as := [.int (xs (7 * k + 1))]) (rest := [.int v]) hx hb hml hts hown hE hZ ⟨by decide, by decide⟩ ((gsound l D ax str s.heap.size 10 _ _ _ _ g2).1) (gfind_ok glw_ok_4 rfl) (by decide +kernel) (fun x h => by cases (Option.some.inj h); rfl) rfl rfl f2 (Nat.le_of_ble_eq_true rfl) hl.1 hR hS (Nat.le_trans (Nat.add_le_add_left (Nat.le_of_ble_eq_true rfl) _) hc1) (Nat.le_trans (Nat.add_le_add_left (Nat.le_of_ble_eq_true rfl) _) hs1) (fun H2 locs2 hR2 hS2 => ?_)
  refine lv_icmp_eq hx hb (gfind_ok glw_ok_4 rfl) (tgt := 1468) rfl (fun _ => ?_) (fun z => absurd rfl z)
  exact kk H2 locs2 _ _ hR2 hS2 (Nat.add_le_add (Nat.add_le_add_left (Nat.le_of_ble_eq_true rfl) _) (Nat.le_of_ble_eq_true rfl)) (Nat.add_le_add (Nat.add_le_add_left (Nat.le_of_ble_eq_true rfl) _) (Nat.le_of_ble_eq_true rfl))
set_option maxRecDepth 100000 in
set_option maxHeartbeats 4000000 in
theorem law_case_10 (C : gLc p s m args c D ax str sb L xs) (hl : lv_has als 4 (gLls s.heap.size sb k)) (hk : 7 * k + 7 ≤ L) (hR : gRep D ax str s.heap.size q H) (hS : va_S (fun x => s.heap.size ≤ x) s.heap H locs) (g1 : gR gmi gdf gcd 10 119 [.ref 0, .int (xs (7 * k + 1)), .int (xs (7 * k + 2))] q (some (.int v), q1)) (g2 : gR gmi gdf gcd 10 186 [.ref 81, .int (xs (7 * k + 1)), .int (xs (7 * k + 2))] q1 (some (.int v), q2)) {fs1 fs2 : List (Option (Option Nat))} (f1 : q.1.1 0 = some (.inr (.inr (11, fs1)))) (f2 : q1.1.1 81 = some (.inr (.inr (12, fs2)))) (hc : cells + 100 ≤ 600000) (hs : slots + 5000 ≤ 7302250)
    (kk : ∀ (H9 : Heap) (locs9 : List Loc) (cells9 slots9 : Nat), gRep D ax str s.heap.size q2 H9 → va_S (fun x => s.heap.size ≤ x) s.heap H9 locs9 → cells9 ≤ cells + 40 + 0 → slots9 ≤ slots + 2000 + 0 → W p l e room_1 s m args below meth c H9 locs9 cells9 slots9 Q (F0 m 1468 als [])) : W p l e room_1 s m args below meth c H locs cells slots Q (F0 m 522 als []) := by
  obtain ⟨hx, hb, hml, hts, hown, hE, hZ, hX, hbl, hL⟩ := C
  have hbA : ¬ s.heap.size ≤ sb := by omega
  have hc0 : cells + 50 ≤ room_1.cells := by show cells + 50 ≤ 600000; omega
  have hs0 : slots + 2500 ≤ room_1.slots := by show slots + 2500 ≤ 7302250; omega
  have hl : lv_has als 4 [(0, .ref sb), (1, .ref (s.heap.size + 0)), (2, .ref (s.heap.size + 81)), (3, .int (nI (7 * k)))] := hl
  have hc1 : cells + 0 + 0 ≤ room_1.cells := by show cells + 0 + 0 ≤ 600000; omega
  have hs1 : slots + 0 + 0 ≤ room_1.slots := by show slots + 0 + 0 ≤ 7302250; omega
  refine lv_aload_n hx hb (gfind_ok glw_ok_4 rfl) rfl (lv_at hl 1 rfl) ?_
  refine lw_arg (b := s.heap.size) (i0 := 7 * k) (j := 1) (L := L) hx hb hX hbl hbA hS (lv_at hl 0 rfl) (lv_at hl 3 rfl) (gfind_ok glw_ok_4 rfl) (gfind_ok glw_ok_4 rfl) (gfind_ok glw_ok_4 rfl) rfl (gfind_ok glw_ok_4 rfl) (gfind_ok glw_ok_4 rfl) (by omega) (by omega) ?_
  refine lw_arg (b := s.heap.size) (i0 := 7 * k) (j := 2) (L := L) hx hb hX hbl hbA hS (lv_at hl 0 rfl) (lv_at hl 3 rfl) (gfind_ok glw_ok_4 rfl) (gfind_ok glw_ok_4 rfl) (gfind_ok glw_ok_5 rfl) rfl (gfind_ok glw_ok_5 rfl) (gfind_ok glw_ok_5 rfl) (by omega) (by omega) ?_
  refine gcallL (als := als) (b := s.heap.size) (d := 10) (n := 119) (ps := (696, 697, 698, 71)) (a := 0) (as := [.int (xs (7 * k + 1)), .int (xs (7 * k + 2))]) (rest := []) hx hb hml hts hown hE hZ ⟨by decide, by decide⟩ ((gsound l D ax str s.heap.size 10 _ _ _ _ g1).1) (gfind_ok glw_ok_5 rfl) (by decide +kernel) (fun x h => by cases (Option.some.inj h); rfl) rfl rfl f1 (Nat.le_of_ble_eq_true rfl) hl.1 hR hS (Nat.le_trans (Nat.add_le_add_left (Nat.le_of_ble_eq_true rfl) _) hc0) (Nat.le_trans (Nat.add_le_add_left (Nat.le_of_ble_eq_true rfl) _) hs0) (fun H1 locs1 hR1 hS1 => ?_)
  have hR := hR1; have hS := hS1
  refine lv_aload_n hx hb (gfind_ok glw_ok_5 rfl) rfl (lv_at hl 2 rfl) ?_
  refine lw_arg (b := s.heap.size) (i0 := 7 * k) (j := 1) (L := L) hx hb hX hbl hbA hS (lv_at hl 0 rfl) (lv_at hl 3 rfl) (gfind_ok glw_ok_5 rfl) (gfind_ok glw_ok_5 rfl) (gfind_ok glw_ok_5 rfl) rfl (gfind_ok glw_ok_5 rfl) (gfind_ok glw_ok_5 rfl) (by omega) (by omega) ?_
  refine lw_arg (b := s.heap.size) (i0 := 7 * k) (j := 2) (L := L) hx hb hX hbl hbA hS (lv_at hl 0 rfl) (lv_at hl 3 rfl) (gfind_ok glw_ok_5 rfl) (gfind_ok glw_ok_5 rfl) (gfind_ok glw_ok_5 rfl) rfl (gfind_ok glw_ok_5 rfl) (gfind_ok glw_ok_5 rfl) (by omega) (by omega) ?_
  refine gcallL (als := als) (b := s.heap.size) (d := 10) (n := 186) (ps := (1506, 1507, 1508, 84)) (a := 81) (as := [.int (xs (7 * k + 1)), .int (xs (7 * k + 2))]) (rest := [.int v]) hx hb hml hts hown hE hZ ⟨by decide, by decide⟩ ((gsound l D ax str s.heap.size 10 _ _ _ _ g2).1) (gfind_ok glw_ok_5 rfl) (by decide +kernel) (fun x h => by cases (Option.some.inj h); rfl) rfl rfl f2 (Nat.le_of_ble_eq_true rfl) hl.1 hR hS (Nat.le_trans (Nat.add_le_add_left (Nat.le_of_ble_eq_true rfl) _) hc1) (Nat.le_trans (Nat.add_le_add_left (Nat.le_of_ble_eq_true rfl) _) hs1) (fun H2 locs2 hR2 hS2 => ?_)
  refine lv_icmp_eq hx hb (gfind_ok glw_ok_5 rfl) (tgt := 1468) rfl (fun _ => ?_) (fun z => absurd rfl z)
  exact kk H2 locs2 _ _ hR2 hS2 (Nat.add_le_add (Nat.add_le_add_left (Nat.le_of_ble_eq_true rfl) _) (Nat.le_of_ble_eq_true rfl)) (Nat.add_le_add (Nat.add_le_add_left (Nat.le_of_ble_eq_true rfl) _) (Nat.le_of_ble_eq_true rfl))
set_option maxRecDepth 100000 in
set_option maxHeartbeats 4000000 in
theorem law_case_11 (C : gLc p s m args c D ax str sb L xs) (hl : lv_has als 4 (gLls s.heap.size sb k)) (hk : 7 * k + 7 ≤ L) (hR : gRep D ax str s.heap.size q H) (hS : va_S (fun x => s.heap.size ≤ x) s.heap H locs) (g1 : gR gmi gdf gcd 10 120 [.ref 0, .int (xs (7 * k + 1)), .int (xs (7 * k + 2)), .int (xs (7 * k + 3))] q (some (.int v), q1)) (g2 : gR gmi gdf gcd 10 192 [.ref 81, .int (xs (7 * k + 1)), .int (xs (7 * k + 2)), .int (xs (7 * k + 3))] q1 (some (.int v), q2)) {fs1 fs2 : List (Option (Option Nat))} (f1 : q.1.1 0 = some (.inr (.inr (11, fs1)))) (f2 : q1.1.1 81 = some (.inr (.inr (12, fs2)))) (hc : cells + 100 ≤ 600000) (hs : slots + 5000 ≤ 7302250)
    (kk : ∀ (H9 : Heap) (locs9 : List Loc) (cells9 slots9 : Nat), gRep D ax str s.heap.size q2 H9 → va_S (fun x => s.heap.size ≤ x) s.heap H9 locs9 → cells9 ≤ cells + 40 + 0 → slots9 ≤ slots + 2000 + 0 → W p l e room_1 s m args below meth c H9 locs9 cells9 slots9 Q (F0 m 1468 als [])) : W p l e room_1 s m args below meth c H locs cells slots Q (F0 m 555 als []) := by
  obtain ⟨hx, hb, hml, hts, hown, hE, hZ, hX, hbl, hL⟩ := C
  have hbA : ¬ s.heap.size ≤ sb := by omega
  have hc0 : cells + 50 ≤ room_1.cells := by show cells + 50 ≤ 600000; omega
  have hs0 : slots + 2500 ≤ room_1.slots := by show slots + 2500 ≤ 7302250; omega
  have hl : lv_has als 4 [(0, .ref sb), (1, .ref (s.heap.size + 0)), (2, .ref (s.heap.size + 81)), (3, .int (nI (7 * k)))] := hl
  have hc1 : cells + 0 + 0 ≤ room_1.cells := by show cells + 0 + 0 ≤ 600000; omega
  have hs1 : slots + 0 + 0 ≤ room_1.slots := by show slots + 0 + 0 ≤ 7302250; omega
  refine lv_aload_n hx hb (gfind_ok glw_ok_5 rfl) rfl (lv_at hl 1 rfl) ?_
  refine lw_arg (b := s.heap.size) (i0 := 7 * k) (j := 1) (L := L) hx hb hX hbl hbA hS (lv_at hl 0 rfl) (lv_at hl 3 rfl) (gfind_ok glw_ok_5 rfl) (gfind_ok glw_ok_5 rfl) (gfind_ok glw_ok_5 rfl) rfl (gfind_ok glw_ok_5 rfl) (gfind_ok glw_ok_5 rfl) (by omega) (by omega) ?_
  refine lw_arg (b := s.heap.size) (i0 := 7 * k) (j := 2) (L := L) hx hb hX hbl hbA hS (lv_at hl 0 rfl) (lv_at hl 3 rfl) (gfind_ok glw_ok_5 rfl) (gfind_ok glw_ok_5 rfl) (gfind_ok glw_ok_5 rfl) rfl (gfind_ok glw_ok_5 rfl) (gfind_ok glw_ok_5 rfl) (by omega) (by omega) ?_
  refine lw_arg (b := s.heap.size) (i0 := 7 * k) (j := 3) (L := L) hx hb hX hbl hbA hS (lv_at hl 0 rfl) (lv_at hl 3 rfl) (gfind_ok glw_ok_5 rfl) (gfind_ok glw_ok_5 rfl) (gfind_ok glw_ok_5 rfl) rfl (gfind_ok glw_ok_5 rfl) (gfind_ok glw_ok_5 rfl) (by omega) (by omega) ?_
  refine gcallL (als := als) (b := s.heap.size) (d := 10) (n := 120) (ps := (749, 750, 751, 71)) (a := 0) (as := [.int (xs (7 * k + 1)), .int (xs (7 * k + 2)), .int (xs (7 * k + 3))]) (rest := []) hx hb hml hts hown hE hZ ⟨by decide, by decide⟩ ((gsound l D ax str s.heap.size 10 _ _ _ _ g1).1) (gfind_ok glw_ok_5 rfl) (by decide +kernel) (fun x h => by cases (Option.some.inj h); rfl) rfl rfl f1 (Nat.le_of_ble_eq_true rfl) hl.1 hR hS (Nat.le_trans (Nat.add_le_add_left (Nat.le_of_ble_eq_true rfl) _) hc0) (Nat.le_trans (Nat.add_le_add_left (Nat.le_of_ble_eq_true rfl) _) hs0) (fun H1 locs1 hR1 hS1 => ?_)
  have hR := hR1; have hS := hS1
  refine lv_aload_n hx hb (gfind_ok glw_ok_5 rfl) rfl (lv_at hl 2 rfl) ?_
  refine lw_arg (b := s.heap.size) (i0 := 7 * k) (j := 1) (L := L) hx hb hX hbl hbA hS (lv_at hl 0 rfl) (lv_at hl 3 rfl) (gfind_ok glw_ok_5 rfl) (gfind_ok glw_ok_5 rfl) (gfind_ok glw_ok_5 rfl) rfl (gfind_ok glw_ok_5 rfl) (gfind_ok glw_ok_5 rfl) (by omega) (by omega) ?_
  refine lw_arg (b := s.heap.size) (i0 := 7 * k) (j := 2) (L := L) hx hb hX hbl hbA hS (lv_at hl 0 rfl) (lv_at hl 3 rfl) (gfind_ok glw_ok_5 rfl) (gfind_ok glw_ok_5 rfl) (gfind_ok glw_ok_5 rfl) rfl (gfind_ok glw_ok_5 rfl) (gfind_ok glw_ok_5 rfl) (by omega) (by omega) ?_
  refine lw_arg (b := s.heap.size) (i0 := 7 * k) (j := 3) (L := L) hx hb hX hbl hbA hS (lv_at hl 0 rfl) (lv_at hl 3 rfl) (gfind_ok glw_ok_5 rfl) (gfind_ok glw_ok_5 rfl) (gfind_ok glw_ok_5 rfl) rfl (gfind_ok glw_ok_5 rfl) (gfind_ok glw_ok_5 rfl) (by omega) (by omega) ?_
  refine gcallL (als := als) (b := s.heap.size) (d := 10) (n := 192) (ps := (1526, 1527, 1528, 84)) (a := 81) (as := [.int (xs (7 * k + 1)), .int (xs (7 * k + 2)), .int (xs (7 * k + 3))]) (rest := [.int v]) hx hb hml hts hown hE hZ ⟨by decide, by decide⟩ ((gsound l D ax str s.heap.size 10 _ _ _ _ g2).1) (gfind_ok glw_ok_5 rfl) (by decide +kernel) (fun x h => by cases (Option.some.inj h); rfl) rfl rfl f2 (Nat.le_of_ble_eq_true rfl) hl.1 hR hS (Nat.le_trans (Nat.add_le_add_left (Nat.le_of_ble_eq_true rfl) _) hc1) (Nat.le_trans (Nat.add_le_add_left (Nat.le_of_ble_eq_true rfl) _) hs1) (fun H2 locs2 hR2 hS2 => ?_)
  refine lv_icmp_eq hx hb (gfind_ok glw_ok_5 rfl) (tgt := 1468) rfl (fun _ => ?_) (fun z => absurd rfl z)
  exact kk H2 locs2 _ _ hR2 hS2 (Nat.add_le_add (Nat.add_le_add_left (Nat.le_of_ble_eq_true rfl) _) (Nat.le_of_ble_eq_true rfl)) (Nat.add_le_add (Nat.add_le_add_left (Nat.le_of_ble_eq_true rfl) _) (Nat.le_of_ble_eq_true rfl))
set_option maxRecDepth 100000 in
set_option maxHeartbeats 4000000 in
theorem law_case_12 (C : gLc p s m args c D ax str sb L xs) (hl : lv_has als 4 (gLls s.heap.size sb k)) (hk : 7 * k + 7 ≤ L) (hR : gRep D ax str s.heap.size q H) (hS : va_S (fun x => s.heap.size ≤ x) s.heap H locs) (g1 : gR gmi gdf gcd 10 121 [.ref 0, .int (xs (7 * k + 1)), .int (xs (7 * k + 2))] q (some (.int v), q1)) (g2 : gR gmi gdf gcd 10 193 [.ref 81, .int (xs (7 * k + 1)), .int (xs (7 * k + 2))] q1 (some (.int v), q2)) {fs1 fs2 : List (Option (Option Nat))} (f1 : q.1.1 0 = some (.inr (.inr (11, fs1)))) (f2 : q1.1.1 81 = some (.inr (.inr (12, fs2)))) (hc : cells + 100 ≤ 600000) (hs : slots + 5000 ≤ 7302250)
    (kk : ∀ (H9 : Heap) (locs9 : List Loc) (cells9 slots9 : Nat), gRep D ax str s.heap.size q2 H9 → va_S (fun x => s.heap.size ≤ x) s.heap H9 locs9 → cells9 ≤ cells + 40 + 0 → slots9 ≤ slots + 2000 + 0 → W p l e room_1 s m args below meth c H9 locs9 cells9 slots9 Q (F0 m 1468 als [])) : W p l e room_1 s m args below meth c H locs cells slots Q (F0 m 598 als []) := by
  obtain ⟨hx, hb, hml, hts, hown, hE, hZ, hX, hbl, hL⟩ := C
  have hbA : ¬ s.heap.size ≤ sb := by omega
  have hc0 : cells + 50 ≤ room_1.cells := by show cells + 50 ≤ 600000; omega
  have hs0 : slots + 2500 ≤ room_1.slots := by show slots + 2500 ≤ 7302250; omega
  have hl : lv_has als 4 [(0, .ref sb), (1, .ref (s.heap.size + 0)), (2, .ref (s.heap.size + 81)), (3, .int (nI (7 * k)))] := hl
  have hc1 : cells + 0 + 0 ≤ room_1.cells := by show cells + 0 + 0 ≤ 600000; omega
  have hs1 : slots + 0 + 0 ≤ room_1.slots := by show slots + 0 + 0 ≤ 7302250; omega
  refine lv_aload_n hx hb (gfind_ok glw_ok_5 rfl) rfl (lv_at hl 1 rfl) ?_
  refine lw_arg (b := s.heap.size) (i0 := 7 * k) (j := 1) (L := L) hx hb hX hbl hbA hS (lv_at hl 0 rfl) (lv_at hl 3 rfl) (gfind_ok glw_ok_5 rfl) (gfind_ok glw_ok_5 rfl) (gfind_ok glw_ok_5 rfl) rfl (gfind_ok glw_ok_6 rfl) (gfind_ok glw_ok_6 rfl) (by omega) (by omega) ?_
  refine lw_arg (b := s.heap.size) (i0 := 7 * k) (j := 2) (L := L) hx hb hX hbl hbA hS (lv_at hl 0 rfl) (lv_at hl 3 rfl) (gfind_ok glw_ok_6 rfl) (gfind_ok glw_ok_6 rfl) (gfind_ok glw_ok_6 rfl) rfl (gfind_ok glw_ok_6 rfl) (gfind_ok glw_ok_6 rfl) (by omega) (by omega) ?_
  refine gcallL (als := als) (b := s.heap.size) (d := 10) (n := 121) (ps := (793, 794, 795, 71)) (a := 0) (as := [.int (xs (7 * k + 1)), .int (xs (7 * k + 2))]) (rest := []) hx hb hml hts hown hE hZ ⟨by decide, by decide⟩ ((gsound l D ax str s.heap.size 10 _ _ _ _ g1).1) (gfind_ok glw_ok_6 rfl) (by decide +kernel) (fun x h => by cases (Option.some.inj h); rfl) rfl rfl f1 (Nat.le_of_ble_eq_true rfl) hl.1 hR hS (Nat.le_trans (Nat.add_le_add_left (Nat.le_of_ble_eq_true rfl) _) hc0) (Nat.le_trans (Nat.add_le_add_left (Nat.le_of_ble_eq_true rfl) _) hs0) (fun H1 locs1 hR1 hS1 => ?_)
  have hR := hR1; have hS := hS1
  refine lv_aload_n hx hb (gfind_ok glw_ok_6 rfl) rfl (lv_at hl 2 rfl) ?_
  refine lw_arg (b := s.heap.size) (i0 := 7 * k) (j := 1) (L := L) hx hb hX hbl hbA hS (lv_at hl 0 rfl) (lv_at hl 3 rfl) (gfind_ok glw_ok_6 rfl) (gfind_ok glw_ok_6 rfl) (gfind_ok glw_ok_6 rfl) rfl (gfind_ok glw_ok_6 rfl) (gfind_ok glw_ok_6 rfl) (by omega) (by omega) ?_
  refine lw_arg (b := s.heap.size) (i0 := 7 * k) (j := 2) (L := L) hx hb hX hbl hbA hS (lv_at hl 0 rfl) (lv_at hl 3 rfl) (gfind_ok glw_ok_6 rfl) (gfind_ok glw_ok_6 rfl) (gfind_ok glw_ok_6 rfl) rfl (gfind_ok glw_ok_6 rfl) (gfind_ok glw_ok_6 rfl) (by omega) (by omega) ?_
  refine gcallL (als := als) (b := s.heap.size) (d := 10) (n := 193) (ps := (1551, 1552, 1553, 84)) (a := 81) (as := [.int (xs (7 * k + 1)), .int (xs (7 * k + 2))]) (rest := [.int v]) hx hb hml hts hown hE hZ ⟨by decide, by decide⟩ ((gsound l D ax str s.heap.size 10 _ _ _ _ g2).1) (gfind_ok glw_ok_6 rfl) (by decide +kernel) (fun x h => by cases (Option.some.inj h); rfl) rfl rfl f2 (Nat.le_of_ble_eq_true rfl) hl.1 hR hS (Nat.le_trans (Nat.add_le_add_left (Nat.le_of_ble_eq_true rfl) _) hc1) (Nat.le_trans (Nat.add_le_add_left (Nat.le_of_ble_eq_true rfl) _) hs1) (fun H2 locs2 hR2 hS2 => ?_)
  refine lv_icmp_eq hx hb (gfind_ok glw_ok_6 rfl) (tgt := 1468) rfl (fun _ => ?_) (fun z => absurd rfl z)
  exact kk H2 locs2 _ _ hR2 hS2 (Nat.add_le_add (Nat.add_le_add_left (Nat.le_of_ble_eq_true rfl) _) (Nat.le_of_ble_eq_true rfl)) (Nat.add_le_add (Nat.add_le_add_left (Nat.le_of_ble_eq_true rfl) _) (Nat.le_of_ble_eq_true rfl))
set_option maxRecDepth 100000 in
set_option maxHeartbeats 4000000 in
theorem law_case_13 (C : gLc p s m args c D ax str sb L xs) (hl : lv_has als 4 (gLls s.heap.size sb k)) (hk : 7 * k + 7 ≤ L) (hR : gRep D ax str s.heap.size q H) (hS : va_S (fun x => s.heap.size ≤ x) s.heap H locs) (g1 : gR gmi gdf gcd 10 122 [.ref 0, .int (xs (7 * k + 1)), .int (xs (7 * k + 2))] q (some (.int v), q1)) (g2 : gR gmi gdf gcd 10 194 [.ref 81, .int (xs (7 * k + 1)), .int (xs (7 * k + 2))] q1 (some (.int v), q2)) {fs1 fs2 : List (Option (Option Nat))} (f1 : q.1.1 0 = some (.inr (.inr (11, fs1)))) (f2 : q1.1.1 81 = some (.inr (.inr (12, fs2)))) (hc : cells + 100 ≤ 600000) (hs : slots + 5000 ≤ 7302250)
    (kk : ∀ (H9 : Heap) (locs9 : List Loc) (cells9 slots9 : Nat), gRep D ax str s.heap.size q2 H9 → va_S (fun x => s.heap.size ≤ x) s.heap H9 locs9 → cells9 ≤ cells + 40 + 0 → slots9 ≤ slots + 2000 + 0 → W p l e room_1 s m args below meth c H9 locs9 cells9 slots9 Q (F0 m 1468 als [])) : W p l e room_1 s m args below meth c H locs cells slots Q (F0 m 631 als []) := by
  obtain ⟨hx, hb, hml, hts, hown, hE, hZ, hX, hbl, hL⟩ := C
  have hbA : ¬ s.heap.size ≤ sb := by omega
  have hc0 : cells + 50 ≤ room_1.cells := by show cells + 50 ≤ 600000; omega
  have hs0 : slots + 2500 ≤ room_1.slots := by show slots + 2500 ≤ 7302250; omega
  have hl : lv_has als 4 [(0, .ref sb), (1, .ref (s.heap.size + 0)), (2, .ref (s.heap.size + 81)), (3, .int (nI (7 * k)))] := hl
  have hc1 : cells + 0 + 0 ≤ room_1.cells := by show cells + 0 + 0 ≤ 600000; omega
  have hs1 : slots + 0 + 0 ≤ room_1.slots := by show slots + 0 + 0 ≤ 7302250; omega
  refine lv_aload_n hx hb (gfind_ok glw_ok_6 rfl) rfl (lv_at hl 1 rfl) ?_
  refine lw_arg (b := s.heap.size) (i0 := 7 * k) (j := 1) (L := L) hx hb hX hbl hbA hS (lv_at hl 0 rfl) (lv_at hl 3 rfl) (gfind_ok glw_ok_6 rfl) (gfind_ok glw_ok_6 rfl) (gfind_ok glw_ok_6 rfl) rfl (gfind_ok glw_ok_6 rfl) (gfind_ok glw_ok_6 rfl) (by omega) (by omega) ?_
  refine lw_arg (b := s.heap.size) (i0 := 7 * k) (j := 2) (L := L) hx hb hX hbl hbA hS (lv_at hl 0 rfl) (lv_at hl 3 rfl) (gfind_ok glw_ok_6 rfl) (gfind_ok glw_ok_6 rfl) (gfind_ok glw_ok_6 rfl) rfl (gfind_ok glw_ok_6 rfl) (gfind_ok glw_ok_6 rfl) (by omega) (by omega) ?_
  refine gcallL (als := als) (b := s.heap.size) (d := 10) (n := 122) (ps := (797, 798, 799, 71)) (a := 0) (as := [.int (xs (7 * k + 1)), .int (xs (7 * k + 2))]) (rest := []) hx hb hml hts hown hE hZ ⟨by decide, by decide⟩ ((gsound l D ax str s.heap.size 10 _ _ _ _ g1).1) (gfind_ok glw_ok_6 rfl) (by decide +kernel) (fun x h => by cases (Option.some.inj h); rfl) rfl rfl f1 (Nat.le_of_ble_eq_true rfl) hl.1 hR hS (Nat.le_trans (Nat.add_le_add_left (Nat.le_of_ble_eq_true rfl) _) hc0) (Nat.le_trans (Nat.add_le_add_left (Nat.le_of_ble_eq_true rfl) _) hs0) (fun H1 locs1 hR1 hS1 => ?_)
  have hR := hR1; have hS := hS1
  refine lv_aload_n hx hb (gfind_ok glw_ok_6 rfl) rfl (lv_at hl 2 rfl) ?_
  refine lw_arg (b := s.heap.size) (i0 := 7 * k) (j := 1) (L := L) hx hb hX hbl hbA hS (lv_at hl 0 rfl) (lv_at hl 3 rfl) (gfind_ok glw_ok_6 rfl) (gfind_ok glw_ok_6 rfl) (gfind_ok glw_ok_6 rfl) rfl (gfind_ok glw_ok_6 rfl) (gfind_ok glw_ok_6 rfl) (by omega) (by omega) ?_
  refine lw_arg (b := s.heap.size) (i0 := 7 * k) (j := 2) (L := L) hx hb hX hbl hbA hS (lv_at hl 0 rfl) (lv_at hl 3 rfl) (gfind_ok glw_ok_6 rfl) (gfind_ok glw_ok_6 rfl) (gfind_ok glw_ok_6 rfl) rfl (gfind_ok glw_ok_6 rfl) (gfind_ok glw_ok_6 rfl) (by omega) (by omega) ?_
  refine gcallL (als := als) (b := s.heap.size) (d := 10) (n := 194) (ps := (1555, 1556, 1557, 84)) (a := 81) (as := [.int (xs (7 * k + 1)), .int (xs (7 * k + 2))]) (rest := [.int v]) hx hb hml hts hown hE hZ ⟨by decide, by decide⟩ ((gsound l D ax str s.heap.size 10 _ _ _ _ g2).1) (gfind_ok glw_ok_6 rfl) (by decide +kernel) (fun x h => by cases (Option.some.inj h); rfl) rfl rfl f2 (Nat.le_of_ble_eq_true rfl) hl.1 hR hS (Nat.le_trans (Nat.add_le_add_left (Nat.le_of_ble_eq_true rfl) _) hc1) (Nat.le_trans (Nat.add_le_add_left (Nat.le_of_ble_eq_true rfl) _) hs1) (fun H2 locs2 hR2 hS2 => ?_)
  refine lv_icmp_eq hx hb (gfind_ok glw_ok_6 rfl) (tgt := 1468) rfl (fun _ => ?_) (fun z => absurd rfl z)
  exact kk H2 locs2 _ _ hR2 hS2 (Nat.add_le_add (Nat.add_le_add_left (Nat.le_of_ble_eq_true rfl) _) (Nat.le_of_ble_eq_true rfl)) (Nat.add_le_add (Nat.add_le_add_left (Nat.le_of_ble_eq_true rfl) _) (Nat.le_of_ble_eq_true rfl))
set_option maxRecDepth 100000 in
set_option maxHeartbeats 4000000 in
theorem law_case_14 (C : gLc p s m args c D ax str sb L xs) (hl : lv_has als 4 (gLls s.heap.size sb k)) (hk : 7 * k + 7 ≤ L) (hR : gRep D ax str s.heap.size q H) (hS : va_S (fun x => s.heap.size ≤ x) s.heap H locs) (g1 : gR gmi gdf gcd 10 123 [.ref 0, .int (xs (7 * k + 1)), .int (if xs (7 * k + 2) = 0 then 0 else 1)] q (some (.int v), q1)) (g2 : gR gmi gdf gcd 10 195 [.ref 81, .int (xs (7 * k + 1)), .int (if xs (7 * k + 2) = 0 then 0 else 1)] q1 (some (.int v), q2)) {fs1 fs2 : List (Option (Option Nat))} (f1 : q.1.1 0 = some (.inr (.inr (11, fs1)))) (f2 : q1.1.1 81 = some (.inr (.inr (12, fs2)))) (hc : cells + 100 ≤ 600000) (hs : slots + 5000 ≤ 7302250)
    (kk : ∀ (H9 : Heap) (locs9 : List Loc) (cells9 slots9 : Nat), gRep D ax str s.heap.size q2 H9 → va_S (fun x => s.heap.size ≤ x) s.heap H9 locs9 → cells9 ≤ cells + 40 + 0 → slots9 ≤ slots + 2000 + 0 → W p l e room_1 s m args below meth c H9 locs9 cells9 slots9 Q (F0 m 1468 als [])) : W p l e room_1 s m args below meth c H locs cells slots Q (F0 m 664 als []) := by
  obtain ⟨hx, hb, hml, hts, hown, hE, hZ, hX, hbl, hL⟩ := C
  have hbA : ¬ s.heap.size ≤ sb := by omega
  have hc0 : cells + 50 ≤ room_1.cells := by show cells + 50 ≤ 600000; omega
  have hs0 : slots + 2500 ≤ room_1.slots := by show slots + 2500 ≤ 7302250; omega
  have hl : lv_has als 4 [(0, .ref sb), (1, .ref (s.heap.size + 0)), (2, .ref (s.heap.size + 81)), (3, .int (nI (7 * k)))] := hl
  have hc1 : cells + 0 + 0 ≤ room_1.cells := by show cells + 0 + 0 ≤ 600000; omega
  have hs1 : slots + 0 + 0 ≤ room_1.slots := by show slots + 0 + 0 ≤ 7302250; omega
  by_cases z2 : xs (7 * k + 2) = 0
  · rw [if_pos z2] at g1 g2
    refine lv_aload_n hx hb (gfind_ok glw_ok_6 rfl) rfl (lv_at hl 1 rfl) ?_
    refine lw_arg (b := s.heap.size) (i0 := 7 * k) (j := 1) (L := L) hx hb hX hbl hbA hS (lv_at hl 0 rfl) (lv_at hl 3 rfl) (gfind_ok glw_ok_6 rfl) (gfind_ok glw_ok_6 rfl) (gfind_ok glw_ok_6 rfl) rfl (gfind_ok glw_ok_6 rfl) (gfind_ok glw_ok_6 rfl) (by omega) (by omega) ?_
    refine lw_arg (b := s.heap.size) (i0 := 7 * k) (j := 2) (L := L) hx hb hX hbl hbA hS (lv_at hl 0 rfl) (lv_at hl 3 rfl) (gfind_ok glw_ok_6 rfl) (gfind_ok glw_ok_6 rfl) (gfind_ok glw_ok_6 rfl) rfl (gfind_ok glw_ok_6 rfl) (gfind_ok glw_ok_7 rfl) (by omega) (by omega) ?_
    refine lv_if_eq hx hb (gfind_ok glw_ok_7 rfl) (tgt := 682) rfl (fun _ => ?_) (fun z => absurd z2 z)
    refine lv_iconst (v := 0) hx hb (gfind_ok glw_ok_7 rfl) rfl ?_
    refine gcallL (als := als) (b := s.heap.size) (d := 10) (n := 123) (ps := (805, 806, 807, 71)) (a := 0) (as := [.int (xs (7 * k + 1)), .int 0]) (rest := []) hx hb hml hts hown hE hZ ⟨by decide, by decide⟩ ((gsound l D ax str s.heap.size 10 _ _ _ _ g1).1) (gfind_ok glw_ok_7 rfl) (by decide +kernel) (fun x h => by cases (Option.some.inj h); rfl) rfl rfl f1 (Nat.le_of_ble_eq_true rfl) hl.1 hR hS (Nat.le_trans (Nat.add_le_add_left (Nat.le_of_ble_eq_true rfl) _) hc0) (Nat.le_trans (Nat.add_le_add_left (Nat.le_of_ble_eq_true rfl) _) hs0) (fun H1 locs1 hR1 hS1 => ?_)
    have hR := hR1; have hS := hS1
    refine lv_aload_n hx hb (gfind_ok glw_ok_7 rfl) rfl (lv_at hl 2 rfl) ?_
    refine lw_arg (b := s.heap.size) (i0 := 7 * k) (j := 1) (L := L) hx hb hX hbl hbA hS (lv_at hl 0 rfl) (lv_at hl 3 rfl) (gfind_ok glw_ok_7 rfl) (gfind_ok glw_ok_7 rfl) (gfind_ok glw_ok_7 rfl) rfl (gfind_ok glw_ok_7 rfl) (gfind_ok glw_ok_7 rfl) (by omega) (by omega) ?_
    refine lw_arg (b := s.heap.size) (i0 := 7 * k) (j := 2) (L := L) hx hb hX hbl hbA hS (lv_at hl 0 rfl) (lv_at hl 3 rfl) (gfind_ok glw_ok_7 rfl) (gfind_ok glw_ok_7 rfl) (gfind_ok glw_ok_7 rfl) rfl (gfind_ok glw_ok_7 rfl) (gfind_ok glw_ok_7 rfl) (by omega) (by omega) ?_
    refine lv_if_eq hx hb (gfind_ok glw_ok_7 rfl) (tgt := 704) rfl (fun _ => ?_) (fun z => absurd z2 z)
    refine lv_iconst (v := 0) hx hb (gfind_ok glw_ok_7 rfl) rfl ?_
    refine gcallL (als := als) (b := s.heap.size) (d := 10) (n := 195) (ps := (1563, 1564, 1565, 84)) (a := 81) (as := [.int (xs (7 * k + 1)), .int 0]) (rest := [.int v]) hx hb hml hts hown hE hZ ⟨by decide, by decide⟩ ((gsound l D ax str s.heap.size 10 _ _ _ _ g2).1) (gfind_ok glw_ok_7 rfl) (by decide +kernel) (fun x h => by cases (Option.some.inj h); rfl) rfl rfl f2 (Nat.le_of_ble_eq_true rfl) hl.1 hR hS (Nat.le_trans (Nat.add_le_add_left (Nat.le_of_ble_eq_true rfl) _) hc1) (Nat.le_trans (Nat.add_le_add_left (Nat.le_of_ble_eq_true rfl) _) hs1) (fun H2 locs2 hR2 hS2 => ?_)
    refine lv_icmp_eq hx hb (gfind_ok glw_ok_7 rfl) (tgt := 1468) rfl (fun _ => ?_) (fun z => absurd rfl z)
    exact kk H2 locs2 _ _ hR2 hS2 (Nat.add_le_add (Nat.add_le_add_left (Nat.le_of_ble_eq_true rfl) _) (Nat.le_of_ble_eq_true rfl)) (Nat.add_le_add (Nat.add_le_add_left (Nat.le_of_ble_eq_true rfl) _) (Nat.le_of_ble_eq_true rfl))
  · rw [if_neg z2] at g1 g2
    refine lv_aload_n hx hb (gfind_ok glw_ok_6 rfl) rfl (lv_at hl 1 rfl) ?_
    refine lw_arg (b := s.heap.size) (i0 := 7 * k) (j := 1) (L := L) hx hb hX hbl hbA hS (lv_at hl 0 rfl) (lv_at hl 3 rfl) (gfind_ok glw_ok_6 rfl) (gfind_ok glw_ok_6 rfl) (gfind_ok glw_ok_6 rfl) rfl (gfind_ok glw_ok_6 rfl) (gfind_ok glw_ok_6 rfl) (by omega) (by omega) ?_
    refine lw_arg (b := s.heap.size) (i0 := 7 * k) (j := 2) (L := L) hx hb hX hbl hbA hS (lv_at hl 0 rfl) (lv_at hl 3 rfl) (gfind_ok glw_ok_6 rfl) (gfind_ok glw_ok_6 rfl) (gfind_ok glw_ok_6 rfl) rfl (gfind_ok glw_ok_6 rfl) (gfind_ok glw_ok_7 rfl) (by omega) (by omega) ?_
    refine lv_if_eq hx hb (gfind_ok glw_ok_7 rfl) (tgt := 682) rfl (fun z => absurd z z2) (fun _ => ?_)
    refine lv_iconst (v := 1) hx hb (gfind_ok glw_ok_7 rfl) rfl ?_
    refine lv_goto hx hb (gfind_ok glw_ok_7 rfl) (tgt := 683) rfl ?_
    refine gcallL (als := als) (b := s.heap.size) (d := 10) (n := 123) (ps := (805, 806, 807, 71)) (a := 0) (as := [.int (xs (7 * k + 1)), .int 1]) (rest := []) hx hb hml hts hown hE hZ ⟨by decide, by decide⟩ ((gsound l D ax str s.heap.size 10 _ _ _ _ g1).1) (gfind_ok glw_ok_7 rfl) (by decide +kernel) (fun x h => by cases (Option.some.inj h); rfl) rfl rfl f1 (Nat.le_of_ble_eq_true rfl) hl.1 hR hS (Nat.le_trans (Nat.add_le_add_left (Nat.le_of_ble_eq_true rfl) _) hc0) (Nat.le_trans (Nat.add_le_add_left (Nat.le_of_ble_eq_true rfl) _) hs0) (fun H1 locs1 hR1 hS1 => ?_)
    have hR := hR1; have hS := hS1
    refine lv_aload_n hx hb (gfind_ok glw_ok_7 rfl) rfl (lv_at hl 2 rfl) ?_
    refine lw_arg (b := s.heap.size) (i0 := 7 * k) (j := 1) (L := L) hx hb hX hbl hbA hS (lv_at hl 0 rfl) (lv_at hl 3 rfl) (gfind_ok glw_ok_7 rfl) (gfind_ok glw_ok_7 rfl) (gfind_ok glw_ok_7 rfl) rfl (gfind_ok glw_ok_7 rfl) (gfind_ok glw_ok_7 rfl) (by omega) (by omega) ?_
    refine lw_arg (b := s.heap.size) (i0 := 7 * k) (j := 2) (L := L) hx hb hX hbl hbA hS (lv_at hl 0 rfl) (lv_at hl 3 rfl) (gfind_ok glw_ok_7 rfl) (gfind_ok glw_ok_7 rfl) (gfind_ok glw_ok_7 rfl) rfl (gfind_ok glw_ok_7 rfl) (gfind_ok glw_ok_7 rfl) (by omega) (by omega) ?_
    refine lv_if_eq hx hb (gfind_ok glw_ok_7 rfl) (tgt := 704) rfl (fun z => absurd z z2) (fun _ => ?_)
    refine lv_iconst (v := 1) hx hb (gfind_ok glw_ok_7 rfl) rfl ?_
    refine lv_goto hx hb (gfind_ok glw_ok_7 rfl) (tgt := 705) rfl ?_
    refine gcallL (als := als) (b := s.heap.size) (d := 10) (n := 195) (ps := (1563, 1564, 1565, 84)) (a := 81) (as := [.int (xs (7 * k + 1)), .int 1]) (rest := [.int v]) hx hb hml hts hown hE hZ ⟨by decide, by decide⟩ ((gsound l D ax str s.heap.size 10 _ _ _ _ g2).1) (gfind_ok glw_ok_7 rfl) (by decide +kernel) (fun x h => by cases (Option.some.inj h); rfl) rfl rfl f2 (Nat.le_of_ble_eq_true rfl) hl.1 hR hS (Nat.le_trans (Nat.add_le_add_left (Nat.le_of_ble_eq_true rfl) _) hc1) (Nat.le_trans (Nat.add_le_add_left (Nat.le_of_ble_eq_true rfl) _) hs1) (fun H2 locs2 hR2 hS2 => ?_)
    refine lv_icmp_eq hx hb (gfind_ok glw_ok_7 rfl) (tgt := 1468) rfl (fun _ => ?_) (fun z => absurd rfl z)
    exact kk H2 locs2 _ _ hR2 hS2 (Nat.add_le_add (Nat.add_le_add_left (Nat.le_of_ble_eq_true rfl) _) (Nat.le_of_ble_eq_true rfl)) (Nat.add_le_add (Nat.add_le_add_left (Nat.le_of_ble_eq_true rfl) _) (Nat.le_of_ble_eq_true rfl))
set_option maxRecDepth 100000 in
set_option maxHeartbeats 4000000 in
theorem law_case_15 (C : gLc p s m args c D ax str sb L xs) (hl : lv_has als 4 (gLls s.heap.size sb k)) (hk : 7 * k + 7 ≤ L) (hR : gRep D ax str s.heap.size q H) (hS : va_S (fun x => s.heap.size ≤ x) s.heap H locs) (g1 : gR gmi gdf gcd 10 124 [.ref 0, .int (xs (7 * k + 1)), .int (xs (7 * k + 2))] q (some (.int v), q1)) (g2 : gR gmi gdf gcd 10 200 [.ref 81, .int (xs (7 * k + 1)), .int (xs (7 * k + 2))] q1 (some (.int v), q2)) {fs1 fs2 : List (Option (Option Nat))} (f1 : q.1.1 0 = some (.inr (.inr (11, fs1)))) (f2 : q1.1.1 81 = some (.inr (.inr (12, fs2)))) (hc : cells + 100 ≤ 600000) (hs : slots + 5000 ≤ 7302250)
    (kk : ∀ (H9 : Heap) (locs9 : List Loc) (cells9 slots9 : Nat), gRep D ax str s.heap.size q2 H9 → va_S (fun x => s.heap.size ≤ x) s.heap H9 locs9 → cells9 ≤ cells + 40 + 0 → slots9 ≤ slots + 2000 + 0 → W p l e room_1 s m args below meth c H9 locs9 cells9 slots9 Q (F0 m 1468 als [])) : W p l e room_1 s m args below meth c H locs cells slots Q (F0 m 713 als []) := by
  obtain ⟨hx, hb, hml, hts, hown, hE, hZ, hX, hbl, hL⟩ := C
  have hbA : ¬ s.heap.size ≤ sb := by omega
  have hc0 : cells + 50 ≤ room_1.cells := by show cells + 50 ≤ 600000; omega
  have hs0 : slots + 2500 ≤ room_1.slots := by show slots + 2500 ≤ 7302250; omega
  have hl : lv_has als 4 [(0, .ref sb), (1, .ref (s.heap.size + 0)), (2, .ref (s.heap.size + 81)), (3, .int (nI (7 * k)))] := hl
  have hc1 : cells + 0 + 0 ≤ room_1.cells := by show cells + 0 + 0 ≤ 600000; omega
  have hs1 : slots + 0 + 0 ≤ room_1.slots := by show slots + 0 + 0 ≤ 7302250; omega
  refine lv_aload_n hx hb (gfind_ok glw_ok_7 rfl) rfl (lv_at hl 1 rfl) ?_
  refine lw_arg (b := s.heap.size) (i0 := 7 * k) (j := 1) (L := L) hx hb hX hbl hbA hS (lv_at hl 0 rfl) (lv_at hl 3 rfl) (gfind_ok glw_ok_7 rfl) (gfind_ok glw_ok_7 rfl) (gfind_ok glw_ok_7 rfl) rfl (gfind_ok glw_ok_7 rfl) (gfind_ok glw_ok_7 rfl) (by omega) (by omega) ?_
  refine lw_arg (b := s.heap.size) (i0 := 7 * k) (j := 2) (L := L) hx hb hX hbl hbA hS (lv_at hl 0 rfl) (lv_at hl 3 rfl) (gfind_ok glw_ok_7 rfl) (gfind_ok glw_ok_7 rfl) (gfind_ok glw_ok_7 rfl) rfl (gfind_ok glw_ok_7 rfl) (gfind_ok glw_ok_7 rfl) (by omega) (by omega) ?_
  refine gcallL (als := als) (b := s.heap.size) (d := 10) (n := 124) (ps := (809, 810, 811, 71)) (a := 0) (as := [.int (xs (7 * k + 1)), .int (xs (7 * k + 2))]) (rest := []) hx hb hml hts hown hE hZ ⟨by decide, by decide⟩ ((gsound l D ax str s.heap.size 10 _ _ _ _ g1).1) (gfind_ok glw_ok_7 rfl) (by decide +kernel) (fun x h => by cases (Option.some.inj h); rfl) rfl rfl f1 (Nat.le_of_ble_eq_true rfl) hl.1 hR hS (Nat.le_trans (Nat.add_le_add_left (Nat.le_of_ble_eq_true rfl) _) hc0) (Nat.le_trans (Nat.add_le_add_left (Nat.le_of_ble_eq_true rfl) _) hs0) (fun H1 locs1 hR1 hS1 => ?_)
  have hR := hR1; have hS := hS1
  refine lv_aload_n hx hb (gfind_ok glw_ok_7 rfl) rfl (lv_at hl 2 rfl) ?_
  refine lw_arg (b := s.heap.size) (i0 := 7 * k) (j := 1) (L := L) hx hb hX hbl hbA hS (lv_at hl 0 rfl) (lv_at hl 3 rfl) (gfind_ok glw_ok_7 rfl) (gfind_ok glw_ok_7 rfl) (gfind_ok glw_ok_7 rfl) rfl (gfind_ok glw_ok_7 rfl) (gfind_ok glw_ok_7 rfl) (by omega) (by omega) ?_
  refine lw_arg (b := s.heap.size) (i0 := 7 * k) (j := 2) (L := L) hx hb hX hbl hbA hS (lv_at hl 0 rfl) (lv_at hl 3 rfl) (gfind_ok glw_ok_7 rfl) (gfind_ok glw_ok_7 rfl) (gfind_ok glw_ok_7 rfl) rfl (gfind_ok glw_ok_7 rfl) (gfind_ok glw_ok_7 rfl) (by omega) (by omega) ?_
  refine gcallL (als := als) (b := s.heap.size) (d := 10) (n := 200) (ps := (1567, 1568, 1569, 84)) (a := 81) (as := [.int (xs (7 * k + 1)), .int (xs (7 * k + 2))]) (rest := [.int v]) hx hb hml hts hown hE hZ ⟨by decide, by decide⟩ ((gsound l D ax str s.heap.size 10 _ _ _ _ g2).1) (gfind_ok glw_ok_7 rfl) (by decide +kernel) (fun x h => by cases (Option.some.inj h); rfl) rfl rfl f2 (Nat.le_of_ble_eq_true rfl) hl.1 hR hS (Nat.le_trans (Nat.add_le_add_left (Nat.le_of_ble_eq_true rfl) _) hc1) (Nat.le_trans (Nat.add_le_add_left (Nat.le_of_ble_eq_true rfl) _) hs1) (fun H2 locs2 hR2 hS2 => ?_)
  refine lv_icmp_eq hx hb (gfind_ok glw_ok_7 rfl) (tgt := 1468) rfl (fun _ => ?_) (fun z => absurd rfl z)
  exact kk H2 locs2 _ _ hR2 hS2 (Nat.add_le_add (Nat.add_le_add_left (Nat.le_of_ble_eq_true rfl) _) (Nat.le_of_ble_eq_true rfl)) (Nat.add_le_add (Nat.add_le_add_left (Nat.le_of_ble_eq_true rfl) _) (Nat.le_of_ble_eq_true rfl))
set_option maxRecDepth 100000 in
set_option maxHeartbeats 4000000 in
theorem law_case_16 (C : gLc p s m args c D ax str sb L xs) (hl : lv_has als 4 (gLls s.heap.size sb k)) (hk : 7 * k + 7 ≤ L) (hR : gRep D ax str s.heap.size q H) (hS : va_S (fun x => s.heap.size ≤ x) s.heap H locs) (g1 : gR gmi gdf gcd 10 125 [.ref 0, .int (xs (7 * k + 1)), .int (xs (7 * k + 2)), .int (xs (7 * k + 3))] q (some (.int v), q1)) (g2 : gR gmi gdf gcd 10 201 [.ref 81, .int (xs (7 * k + 1)), .int (xs (7 * k + 2)), .int (xs (7 * k + 3))] q1 (some (.int v), q2)) {fs1 fs2 : List (Option (Option Nat))} (f1 : q.1.1 0 = some (.inr (.inr (11, fs1)))) (f2 : q1.1.1 81 = some (.inr (.inr (12, fs2)))) (hc : cells + 100 ≤ 600000) (hs : slots + 5000 ≤ 7302250)
    (kk : ∀ (H9 : Heap) (locs9 : List Loc) (cells9 slots9 : Nat), gRep D ax str s.heap.size q2 H9 → va_S (fun x => s.heap.size ≤ x) s.heap H9 locs9 → cells9 ≤ cells + 40 + 0 → slots9 ≤ slots + 2000 + 0 → W p l e room_1 s m args below meth c H9 locs9 cells9 slots9 Q (F0 m 1468 als [])) : W p l e room_1 s m args below meth c H locs cells slots Q (F0 m 746 als []) := by
  obtain ⟨hx, hb, hml, hts, hown, hE, hZ, hX, hbl, hL⟩ := C
  have hbA : ¬ s.heap.size ≤ sb := by omega
  have hc0 : cells + 50 ≤ room_1.cells := by show cells + 50 ≤ 600000; omega
  have hs0 : slots + 2500 ≤ room_1.slots := by show slots + 2500 ≤ 7302250; omega
  have hl : lv_has als 4 [(0, .ref sb), (1, .ref (s.heap.size + 0)), (2, .ref (s.heap.size + 81)), (3, .int (nI (7 * k)))] := hl
  have hc1 : cells + 0 + 0 ≤ room_1.cells := by show cells + 0 + 0 ≤ 600000; omega
  have hs1 : slots + 0 + 0 ≤ room_1.slots := by show slots + 0 + 0 ≤ 7302250; omega
  refine lv_aload_n hx hb (gfind_ok glw_ok_7 rfl) rfl (lv_at hl 1 rfl) ?_
  refine lw_arg (b := s.heap.size) (i0 := 7 * k) (j := 1) (L := L) hx hb hX hbl hbA hS (lv_at hl 0 rfl) (lv_at hl 3 rfl) (gfind_ok glw_ok_7 rfl) (gfind_ok glw_ok_7 rfl) (gfind_ok glw_ok_7 rfl) rfl (gfind_ok glw_ok_7 rfl) (gfind_ok glw_ok_7 rfl) (by omega) (by omega) ?_
  refine lw_arg (b := s.heap.size) (i0 := 7 * k) (j := 2) (L := L) hx hb hX hbl hbA hS (lv_at hl 0 rfl) (lv_at hl 3 rfl) (gfind_ok glw_ok_7 rfl) (gfind_ok glw_ok_7 rfl) (gfind_ok glw_ok_8 rfl) rfl (gfind_ok glw_ok_8 rfl) (gfind_ok glw_ok_8 rfl) (by omega) (by omega) ?_
  refine lw_arg (b := s.heap.size) (i0 := 7 * k) (j := 3) (L := L) hx hb hX hbl hbA hS (lv_at hl 0 rfl) (lv_at hl 3 rfl) (gfind_ok glw_ok_8 rfl) (gfind_ok glw_ok_8 rfl) (gfind_ok glw_ok_8 rfl) rfl (gfind_ok glw_ok_8 rfl) (gfind_ok glw_ok_8 rfl) (by omega) (by omega) ?_
  refine gcallL (als := als) (b := s.heap.size) (d := 10) (n := 125) (ps := (814, 815, 816, 71)) (a := 0) (as := [.int (xs (7 * k + 1)), .int (xs (7 * k + 2)), .int (xs (7 * k + 3))]) (rest := []) hx hb hml hts hown hE hZ ⟨by decide, by decide⟩ ((gsound l D ax str s.heap.size 10 _ _ _ _ g1).1) (gfind_ok glw_ok_8 rfl) (by decide +kernel) (fun x h => by cases (Option.some.inj h); rfl) rfl rfl f1 (Nat.le_of_ble_eq_true rfl) hl.1 hR hS (Nat.le_trans (Nat.add_le_add_left (Nat.le_of_ble_eq_true rfl) _) hc0) (Nat.le_trans (Nat.add_le_add_left (Nat.le_of_ble_eq_true rfl) _) hs0) (fun H1 locs1 hR1 hS1 => ?_)
  have hR := hR1; have hS := hS1
  refine lv_aload_n hx hb (gfind_ok glw_ok_8 rfl) rfl (lv_at hl 2 rfl) ?_
  refine lw_arg (b := s.heap.size) (i0 := 7 * k) (j := 1) (L := L) hx hb hX hbl hbA hS (lv_at hl 0 rfl) (lv_at hl 3 rfl) (gfind_ok glw_ok_8 rfl) (gfind_ok glw_ok_8 rfl) (gfind_ok glw_ok_8 rfl) rfl (gfind_ok glw_ok_8 rfl) (gfind_ok glw_ok_8 rfl) (by omega) (by omega) ?_
  refine lw_arg (b := s.heap.size) (i0 := 7 * k) (j := 2) (L := L) hx hb hX hbl hbA hS (lv_at hl 0 rfl) (lv_at hl 3 rfl) (gfind_ok glw_ok_8 rfl) (gfind_ok glw_ok_8 rfl) (gfind_ok glw_ok_8 rfl) rfl (gfind_ok glw_ok_8 rfl) (gfind_ok glw_ok_8 rfl) (by omega) (by omega) ?_
  refine lw_arg (b := s.heap.size) (i0 := 7 * k) (j := 3) (L := L) hx hb hX hbl hbA hS (lv_at hl 0 rfl) (lv_at hl 3 rfl) (gfind_ok glw_ok_8 rfl) (gfind_ok glw_ok_8 rfl) (gfind_ok glw_ok_8 rfl) rfl (gfind_ok glw_ok_8 rfl) (gfind_ok glw_ok_8 rfl) (by omega) (by omega) ?_
  refine gcallL (als := als) (b := s.heap.size) (d := 10) (n := 201) (ps := (1571, 1572, 1573, 84)) (a := 81) (as := [.int (xs (7 * k + 1)), .int (xs (7 * k + 2)), .int (xs (7 * k + 3))]) (rest := [.int v]) hx hb hml hts hown hE hZ ⟨by decide, by decide⟩ ((gsound l D ax str s.heap.size 10 _ _ _ _ g2).1) (gfind_ok glw_ok_8 rfl) (by decide +kernel) (fun x h => by cases (Option.some.inj h); rfl) rfl rfl f2 (Nat.le_of_ble_eq_true rfl) hl.1 hR hS (Nat.le_trans (Nat.add_le_add_left (Nat.le_of_ble_eq_true rfl) _) hc1) (Nat.le_trans (Nat.add_le_add_left (Nat.le_of_ble_eq_true rfl) _) hs1) (fun H2 locs2 hR2 hS2 => ?_)
  refine lv_icmp_eq hx hb (gfind_ok glw_ok_8 rfl) (tgt := 1468) rfl (fun _ => ?_) (fun z => absurd rfl z)
  exact kk H2 locs2 _ _ hR2 hS2 (Nat.add_le_add (Nat.add_le_add_left (Nat.le_of_ble_eq_true rfl) _) (Nat.le_of_ble_eq_true rfl)) (Nat.add_le_add (Nat.add_le_add_left (Nat.le_of_ble_eq_true rfl) _) (Nat.le_of_ble_eq_true rfl))
set_option maxRecDepth 100000 in
set_option maxHeartbeats 4000000 in
theorem law_case_17 (C : gLc p s m args c D ax str sb L xs) (hl : lv_has als 4 (gLls s.heap.size sb k)) (hk : 7 * k + 7 ≤ L) (hR : gRep D ax str s.heap.size q H) (hS : va_S (fun x => s.heap.size ≤ x) s.heap H locs) (g1 : gR gmi gdf gcd 10 126 [.ref 0, .int (xs (7 * k + 1)), .int (xs (7 * k + 2))] q (some (.int v), q1)) (g2 : gR gmi gdf gcd 10 203 [.ref 81, .int (xs (7 * k + 1)), .int (xs (7 * k + 2))] q1 (some (.int v), q2)) {fs1 fs2 : List (Option (Option Nat))} (f1 : q.1.1 0 = some (.inr (.inr (11, fs1)))) (f2 : q1.1.1 81 = some (.inr (.inr (12, fs2)))) (hc : cells + 100 ≤ 600000) (hs : slots + 5000 ≤ 7302250)
    (kk : ∀ (H9 : Heap) (locs9 : List Loc) (cells9 slots9 : Nat), gRep D ax str s.heap.size q2 H9 → va_S (fun x => s.heap.size ≤ x) s.heap H9 locs9 → cells9 ≤ cells + 40 + 0 → slots9 ≤ slots + 2000 + 0 → W p l e room_1 s m args below meth c H9 locs9 cells9 slots9 Q (F0 m 1468 als [])) : W p l e room_1 s m args below meth c H locs cells slots Q (F0 m 789 als []) := by
  obtain ⟨hx, hb, hml, hts, hown, hE, hZ, hX, hbl, hL⟩ := C
  have hbA : ¬ s.heap.size ≤ sb := by omega
  have hc0 : cells + 50 ≤ room_1.cells := by show cells + 50 ≤ 600000; omega
  have hs0 : slots + 2500 ≤ room_1.slots := by show slots + 2500 ≤ 7302250; omega
  have hl : lv_has als 4 [(0, .ref sb), (1, .ref (s.heap.size + 0)), (2, .ref (s.heap.size + 81)), (3, .int (nI (7 * k)))] := hl
  have hc1 : cells + 0 + 0 ≤ room_1.cells := by show cells + 0 + 0 ≤ 600000; omega
  have hs1 : slots + 0 + 0 ≤ room_1.slots := by show slots + 0 + 0 ≤ 7302250; omega
  refine lv_aload_n hx hb (gfind_ok glw_ok_8 rfl) rfl (lv_at hl 1 rfl) ?_
  refine lw_arg (b := s.heap.size) (i0 := 7 * k) (j := 1) (L := L) hx hb hX hbl hbA hS (lv_at hl 0 rfl) (lv_at hl 3 rfl) (gfind_ok glw_ok_8 rfl) (gfind_ok glw_ok_8 rfl) (gfind_ok glw_ok_8 rfl) rfl (gfind_ok glw_ok_8 rfl) (gfind_ok glw_ok_8 rfl) (by omega) (by omega) ?_
  refine lw_arg (b := s.heap.size) (i0 := 7 * k) (j := 2) (L := L) hx hb hX hbl hbA hS (lv_at hl 0 rfl) (lv_at hl 3 rfl) (gfind_ok glw_ok_8 rfl) (gfind_ok glw_ok_8 rfl) (gfind_ok glw_ok_8 rfl) rfl (gfind_ok glw_ok_8 rfl) (gfind_ok glw_ok_8 rfl) (by omega) (by omega) ?_
  refine gcallL (als := als) (b := s.heap.size) (d := 10) (n := 126) (ps := (820, 821, 822, 71)) (a := 0) (as := [.int (xs (7 * k + 1)), .int (xs (7 * k + 2))]) (rest := []) hx hb hml hts hown hE hZ ⟨by decide, by decide⟩ ((gsound l D ax str s.heap.size 10 _ _ _ _ g1).1) (gfind_ok glw_ok_8 rfl) (by decide +kernel) (fun x h => by cases (Option.some.inj h); rfl) rfl rfl f1 (Nat.le_of_ble_eq_true rfl) hl.1 hR hS (Nat.le_trans (Nat.add_le_add_left (Nat.le_of_ble_eq_true rfl) _) hc0) (Nat.le_trans (Nat.add_le_add_left (Nat.le_of_ble_eq_true rfl) _) hs0) (fun H1 locs1 hR1 hS1 => ?_)
  have hR := hR1; have hS := hS1
  refine lv_aload_n hx hb (gfind_ok glw_ok_8 rfl) rfl (lv_at hl 2 rfl) ?_
  refine lw_arg (b := s.heap.size) (i0 := 7 * k) (j := 1) (L := L) hx hb hX hbl hbA hS (lv_at hl 0 rfl) (lv_at hl 3 rfl) (gfind_ok glw_ok_8 rfl) (gfind_ok glw_ok_8 rfl) (gfind_ok glw_ok_8 rfl) rfl (gfind_ok glw_ok_8 rfl) (gfind_ok glw_ok_8 rfl) (by omega) (by omega) ?_
  refine lw_arg (b := s.heap.size) (i0 := 7 * k) (j := 2) (L := L) hx hb hX hbl hbA hS (lv_at hl 0 rfl) (lv_at hl 3 rfl) (gfind_ok glw_ok_8 rfl) (gfind_ok glw_ok_8 rfl) (gfind_ok glw_ok_8 rfl) rfl (gfind_ok glw_ok_8 rfl) (gfind_ok glw_ok_8 rfl) (by omega) (by omega) ?_
  refine gcallL (als := als) (b := s.heap.size) (d := 10) (n := 203) (ps := (1577, 1578, 1579, 84)) (a := 81) (as := [.int (xs (7 * k + 1)), .int (xs (7 * k + 2))]) (rest := [.int v]) hx hb hml hts hown hE hZ ⟨by decide, by decide⟩ ((gsound l D ax str s.heap.size 10 _ _ _ _ g2).1) (gfind_ok glw_ok_8 rfl) (by decide +kernel) (fun x h => by cases (Option.some.inj h); rfl) rfl rfl f2 (Nat.le_of_ble_eq_true rfl) hl.1 hR hS (Nat.le_trans (Nat.add_le_add_left (Nat.le_of_ble_eq_true rfl) _) hc1) (Nat.le_trans (Nat.add_le_add_left (Nat.le_of_ble_eq_true rfl) _) hs1) (fun H2 locs2 hR2 hS2 => ?_)
  refine lv_icmp_eq hx hb (gfind_ok glw_ok_8 rfl) (tgt := 1468) rfl (fun _ => ?_) (fun z => absurd rfl z)
  exact kk H2 locs2 _ _ hR2 hS2 (Nat.add_le_add (Nat.add_le_add_left (Nat.le_of_ble_eq_true rfl) _) (Nat.le_of_ble_eq_true rfl)) (Nat.add_le_add (Nat.add_le_add_left (Nat.le_of_ble_eq_true rfl) _) (Nat.le_of_ble_eq_true rfl))
set_option maxRecDepth 100000 in
set_option maxHeartbeats 4000000 in
theorem law_case_18 (C : gLc p s m args c D ax str sb L xs) (hl : lv_has als 4 (gLls s.heap.size sb k)) (hk : 7 * k + 7 ≤ L) (hR : gRep D ax str s.heap.size q H) (hS : va_S (fun x => s.heap.size ≤ x) s.heap H locs) (g1 : gR gmi gdf gcd 10 127 [.ref 0, .int (xs (7 * k + 1))] q (some (.int v), q1)) (g2 : gR gmi gdf gcd 10 204 [.ref 81, .int (xs (7 * k + 1))] q1 (some (.int v), q2)) {fs1 fs2 : List (Option (Option Nat))} (f1 : q.1.1 0 = some (.inr (.inr (11, fs1)))) (f2 : q1.1.1 81 = some (.inr (.inr (12, fs2)))) (hc : cells + 100 ≤ 600000) (hs : slots + 5000 ≤ 7302250)
    (kk : ∀ (H9 : Heap) (locs9 : List Loc) (cells9 slots9 : Nat), gRep D ax str s.heap.size q2 H9 → va_S (fun x => s.heap.size ≤ x) s.heap H9 locs9 → cells9 ≤ cells + 40 + 0 → slots9 ≤ slots + 2000 + 0 → W p l e room_1 s m args below meth c H9 locs9 cells9 slots9 Q (F0 m 1468 als [])) : W p l e room_1 s m args below meth c H locs cells slots Q (F0 m 822 als []) := by
  obtain ⟨hx, hb, hml, hts, hown, hE, hZ, hX, hbl, hL⟩ := C
  have hbA : ¬ s.heap.size ≤ sb := by omega
  have hc0 : cells + 50 ≤ room_1.cells := by show cells + 50 ≤ 600000; omega
  have hs0 : slots + 2500 ≤ room_1.slots := by show slots + 2500 ≤ 7302250; omega
  have hl : lv_has als 4 [(0, .ref sb), (1, .ref (s.heap.size + 0)), (2, .ref (s.heap.size + 81)), (3, .int (nI (7 * k)))] := hl
  have hc1 : cells + 0 + 0 ≤ room_1.cells := by show cells + 0 + 0 ≤ 600000; omega
  have hs1 : slots + 0 + 0 ≤ room_1.slots := by show slots + 0 + 0 ≤ 7302250; omega
  refine lv_aload_n hx hb (gfind_ok glw_ok_8 rfl) rfl (lv_at hl 1 rfl) ?_
  refine lw_arg (b := s.heap.size) (i0 := 7 * k) (j := 1) (L := L) hx hb hX hbl hbA hS (lv_at hl 0 rfl) (lv_at hl 3 rfl) (gfind_ok glw_ok_8 rfl) (gfind_ok glw_ok_8 rfl) (gfind_ok glw_ok_8 rfl) rfl (gfind_ok glw_ok_9 rfl) (gfind_ok glw_ok_9 rfl) (by omega) (by omega) ?_
  refine gcallL (als := als) (b := s.heap.size) (d := 10) (n := 127) (ps := (834, 835, 836, 71)) (a := 0) (as := [.int (xs (7 * k + 1))]) (rest := []) hx hb hml hts hown hE hZ ⟨by decide, by decide⟩ ((gsound l D ax str s.heap.size 10 _ _ _ _ g1).1) (gfind_ok glw_ok_9 rfl) (by decide +kernel) (fun x h => by cases (Option.some.inj h); rfl) rfl rfl f1 (Nat.le_of_ble_eq_true rfl) hl.1 hR hS (Nat.le_trans (Nat.add_le_add_left (Nat.le_of_ble_eq_true rfl) _) hc0) (Nat.le_trans (Nat.add_le_add_left (Nat.le_of_ble_eq_true rfl) _) hs0) (fun H1 locs1 hR1 hS1 => ?_)
  have hR := hR1; have hS := hS1
  refine lv_aload_n hx hb (gfind_ok glw_ok_9 rfl) rfl (lv_at hl 2 rfl) ?_
  refine lw_arg (b := s.heap.size) (i0 := 7 * k) (j := 1) (L := L) hx hb hX hbl hbA hS (lv_at hl 0 rfl) (lv_at hl 3 rfl) (gfind_ok glw_ok_9 rfl) (gfind_ok glw_ok_9 rfl) (gfind_ok glw_ok_9 rfl) rfl (gfind_ok glw_ok_9 rfl) (gfind_ok glw_ok_9 rfl) (by omega) (by omega) ?_
  refine gcallL (als := als) (b := s.heap.size) (d := 10) (n := 204) (ps := (1585, 1586, 1587, 84)) (a := 81) (as := [.int (xs (7 * k + 1))]) (rest := [.int v]) hx hb hml hts hown hE hZ ⟨by decide, by decide⟩ ((gsound l D ax str s.heap.size 10 _ _ _ _ g2).1) (gfind_ok glw_ok_9 rfl) (by decide +kernel) (fun x h => by cases (Option.some.inj h); rfl) rfl rfl f2 (Nat.le_of_ble_eq_true rfl) hl.1 hR hS (Nat.le_trans (Nat.add_le_add_left (Nat.le_of_ble_eq_true rfl) _) hc1) (Nat.le_trans (Nat.add_le_add_left (Nat.le_of_ble_eq_true rfl) _) hs1) (fun H2 locs2 hR2 hS2 => ?_)
  refine lv_icmp_eq hx hb (gfind_ok glw_ok_9 rfl) (tgt := 1468) rfl (fun _ => ?_) (fun z => absurd rfl z)
  exact kk H2 locs2 _ _ hR2 hS2 (Nat.add_le_add (Nat.add_le_add_left (Nat.le_of_ble_eq_true rfl) _) (Nat.le_of_ble_eq_true rfl)) (Nat.add_le_add (Nat.add_le_add_left (Nat.le_of_ble_eq_true rfl) _) (Nat.le_of_ble_eq_true rfl))
set_option maxRecDepth 100000 in
set_option maxHeartbeats 4000000 in
theorem law_case_19 (C : gLc p s m args c D ax str sb L xs) (hl : lv_has als 4 (gLls s.heap.size sb k)) (hk : 7 * k + 7 ≤ L) (hR : gRep D ax str s.heap.size q H) (hS : va_S (fun x => s.heap.size ≤ x) s.heap H locs) (g1 : gR gmi gdf gcd 10 128 [.ref 0, .long (((xs (7 * k + 1)).toInt64 <<< (Int32.toInt64 32 &&& 63)) ||| ((xs (7 * k + 2)).toInt64 &&& 4294967295))] q (some (.int v), q1)) (g2 : gR gmi gdf gcd 10 205 [.ref 81, .long (((xs (7 * k + 1)).toInt64 <<< (Int32.toInt64 32 &&& 63)) ||| ((xs (7 * k + 2)).toInt64 &&& 4294967295))] q1 (some (.int v), q2)) {fs1 fs2 : List (Option (Option Nat))} (f1 : q.1.1 0 = some (.inr (.inr (11, fs1)))) (f2 : q1.1.1 81 = some (.inr (.inr (12, fs2)))) (hc : cells + 100 ≤ 600000) (hs : slots + 5000 ≤ 7302250)
    (kk : ∀ (H9 : Heap) (locs9 : List Loc) (cells9 slots9 : Nat), gRep D ax str s.heap.size q2 H9 → va_S (fun x => s.heap.size ≤ x) s.heap H9 locs9 → cells9 ≤ cells + 40 + 0 → slots9 ≤ slots + 2000 + 0 → W p l e room_1 s m args below meth c H9 locs9 cells9 slots9 Q (F0 m 1468 als [])) : W p l e room_1 s m args below meth c H locs cells slots Q (F0 m 845 als []) := by
  obtain ⟨hx, hb, hml, hts, hown, hE, hZ, hX, hbl, hL⟩ := C
  have hbA : ¬ s.heap.size ≤ sb := by omega
  have hc0 : cells + 50 ≤ room_1.cells := by show cells + 50 ≤ 600000; omega
  have hs0 : slots + 2500 ≤ room_1.slots := by show slots + 2500 ≤ 7302250; omega
  have hl : lv_has als 4 [(0, .ref sb), (1, .ref (s.heap.size + 0)), (2, .ref (s.heap.size + 81)), (3, .int (nI (7 * k)))] := hl
  have hc1 : cells + 0 + 0 ≤ room_1.cells := by show cells + 0 + 0 ≤ 600000; omega
  have hs1 : slots + 0 + 0 ≤ room_1.slots := by show slots + 0 + 0 ≤ 7302250; omega
  refine lv_aload_n hx hb (gfind_ok glw_ok_9 rfl) rfl (lv_at hl 1 rfl) ?_
  refine lw_arg (b := s.heap.size) (i0 := 7 * k) (j := 1) (L := L) hx hb hX hbl hbA hS (lv_at hl 0 rfl) (lv_at hl 3 rfl) (gfind_ok glw_ok_9 rfl) (gfind_ok glw_ok_9 rfl) (gfind_ok glw_ok_9 rfl) rfl (gfind_ok glw_ok_9 rfl) (gfind_ok glw_ok_9 rfl) (by omega) (by omega) ?_
  refine lv_i2l hx hb (gfind_ok glw_ok_9 rfl) rfl ?_
  refine lv_bipush (v := 32) hx hb (gfind_ok glw_ok_9 rfl) rfl ?_
  refine lv_lshl hx hb (gfind_ok glw_ok_9 rfl) rfl ?_
  refine lw_arg (b := s.heap.size) (i0 := 7 * k) (j := 2) (L := L) hx hb hX hbl hbA hS (lv_at hl 0 rfl) (lv_at hl 3 rfl) (gfind_ok glw_ok_9 rfl) (gfind_ok glw_ok_9 rfl) (gfind_ok glw_ok_9 rfl) rfl (gfind_ok glw_ok_9 rfl) (gfind_ok glw_ok_9 rfl) (by omega) (by omega) ?_
  refine lv_i2l hx hb (gfind_ok glw_ok_9 rfl) rfl ?_
  refine lv_ldc2 (own := "OilTownLaw") (index := 96) (v := 4294967295) hx hb hown (hts _ (gix_mem (i := 1738) (by decide +kernel))) (gfind_ok glw_ok_9 rfl) ?_
  refine lv_land hx hb (gfind_ok glw_ok_9 rfl) ?_
  refine lv_lor hx hb (gfind_ok glw_ok_9 rfl) ?_
  refine gcallL (als := als) (b := s.heap.size) (d := 10) (n := 128) (ps := (839, 840, 841, 71)) (a := 0) (as := [.long (((xs (7 * k + 1)).toInt64 <<< (Int32.toInt64 32 &&& 63)) ||| ((xs (7 * k + 2)).toInt64 &&& 4294967295))]) (rest := []) hx hb hml hts hown hE hZ ⟨by decide, by decide⟩ ((gsound l D ax str s.heap.size 10 _ _ _ _ g1).1) (gfind_ok glw_ok_9 rfl) (by decide +kernel) (fun x h => by cases (Option.some.inj h); rfl) rfl rfl f1 (Nat.le_of_ble_eq_true rfl) hl.1 hR hS (Nat.le_trans (Nat.add_le_add_left (Nat.le_of_ble_eq_true rfl) _) hc0) (Nat.le_trans (Nat.add_le_add_left (Nat.le_of_ble_eq_true rfl) _) hs0) (fun H1 locs1 hR1 hS1 => ?_)
  have hR := hR1; have hS := hS1
  refine lv_aload_n hx hb (gfind_ok glw_ok_9 rfl) rfl (lv_at hl 2 rfl) ?_
  refine lw_arg (b := s.heap.size) (i0 := 7 * k) (j := 1) (L := L) hx hb hX hbl hbA hS (lv_at hl 0 rfl) (lv_at hl 3 rfl) (gfind_ok glw_ok_9 rfl) (gfind_ok glw_ok_9 rfl) (gfind_ok glw_ok_9 rfl) rfl (gfind_ok glw_ok_9 rfl) (gfind_ok glw_ok_9 rfl) (by omega) (by omega) ?_
  refine lv_i2l hx hb (gfind_ok glw_ok_9 rfl) rfl ?_
  refine lv_bipush (v := 32) hx hb (gfind_ok glw_ok_9 rfl) rfl ?_
  refine lv_lshl hx hb (gfind_ok glw_ok_9 rfl) rfl ?_
  refine lw_arg (b := s.heap.size) (i0 := 7 * k) (j := 2) (L := L) hx hb hX hbl hbA hS (lv_at hl 0 rfl) (lv_at hl 3 rfl) (gfind_ok glw_ok_9 rfl) (gfind_ok glw_ok_9 rfl) (gfind_ok glw_ok_9 rfl) rfl (gfind_ok glw_ok_9 rfl) (gfind_ok glw_ok_9 rfl) (by omega) (by omega) ?_
  refine lv_i2l hx hb (gfind_ok glw_ok_9 rfl) rfl ?_
  refine lv_ldc2 (own := "OilTownLaw") (index := 96) (v := 4294967295) hx hb hown (hts _ (gix_mem (i := 1738) (by decide +kernel))) (gfind_ok glw_ok_9 rfl) ?_
  refine lv_land hx hb (gfind_ok glw_ok_9 rfl) ?_
  refine lv_lor hx hb (gfind_ok glw_ok_9 rfl) ?_
  refine gcallL (als := als) (b := s.heap.size) (d := 10) (n := 205) (ps := (1589, 1590, 1591, 84)) (a := 81) (as := [.long (((xs (7 * k + 1)).toInt64 <<< (Int32.toInt64 32 &&& 63)) ||| ((xs (7 * k + 2)).toInt64 &&& 4294967295))]) (rest := [.int v]) hx hb hml hts hown hE hZ ⟨by decide, by decide⟩ ((gsound l D ax str s.heap.size 10 _ _ _ _ g2).1) (gfind_ok glw_ok_9 rfl) (by decide +kernel) (fun x h => by cases (Option.some.inj h); rfl) rfl rfl f2 (Nat.le_of_ble_eq_true rfl) hl.1 hR hS (Nat.le_trans (Nat.add_le_add_left (Nat.le_of_ble_eq_true rfl) _) hc1) (Nat.le_trans (Nat.add_le_add_left (Nat.le_of_ble_eq_true rfl) _) hs1) (fun H2 locs2 hR2 hS2 => ?_)
  refine lv_icmp_eq hx hb (gfind_ok glw_ok_9 rfl) (tgt := 1468) rfl (fun _ => ?_) (fun z => absurd rfl z)
  exact kk H2 locs2 _ _ hR2 hS2 (Nat.add_le_add (Nat.add_le_add_left (Nat.le_of_ble_eq_true rfl) _) (Nat.le_of_ble_eq_true rfl)) (Nat.add_le_add (Nat.add_le_add_left (Nat.le_of_ble_eq_true rfl) _) (Nat.le_of_ble_eq_true rfl))
set_option maxRecDepth 100000 in
set_option maxHeartbeats 4000000 in
theorem law_case_20 (C : gLc p s m args c D ax str sb L xs) (hl : lv_has als 4 (gLls s.heap.size sb k)) (hk : 7 * k + 7 ≤ L) (hR : gRep D ax str s.heap.size q H) (hS : va_S (fun x => s.heap.size ≤ x) s.heap H locs) (g1 : gR gmi gdf gcd 10 129 [.ref 0, .int (xs (7 * k + 1))] q (some (.int v), q1)) (g2 : gR gmi gdf gcd 10 206 [.ref 81, .int (xs (7 * k + 1))] q1 (some (.int v), q2)) {fs1 fs2 : List (Option (Option Nat))} (f1 : q.1.1 0 = some (.inr (.inr (11, fs1)))) (f2 : q1.1.1 81 = some (.inr (.inr (12, fs2)))) (hc : cells + 100 ≤ 600000) (hs : slots + 5000 ≤ 7302250)
    (kk : ∀ (H9 : Heap) (locs9 : List Loc) (cells9 slots9 : Nat), gRep D ax str s.heap.size q2 H9 → va_S (fun x => s.heap.size ≤ x) s.heap H9 locs9 → cells9 ≤ cells + 40 + 0 → slots9 ≤ slots + 2000 + 0 → W p l e room_1 s m args below meth c H9 locs9 cells9 slots9 Q (F0 m 1468 als [])) : W p l e room_1 s m args below meth c H locs cells slots Q (F0 m 898 als []) := by
  obtain ⟨hx, hb, hml, hts, hown, hE, hZ, hX, hbl, hL⟩ := C
  have hbA : ¬ s.heap.size ≤ sb := by omega
  have hc0 : cells + 50 ≤ room_1.cells := by show cells + 50 ≤ 600000; omega
  have hs0 : slots + 2500 ≤ room_1.slots := by show slots + 2500 ≤ 7302250; omega
  have hl : lv_has als 4 [(0, .ref sb), (1, .ref (s.heap.size + 0)), (2, .ref (s.heap.size + 81)), (3, .int (nI (7 * k)))] := hl
  have hc1 : cells + 0 + 0 ≤ room_1.cells := by show cells + 0 + 0 ≤ 600000; omega
  have hs1 : slots + 0 + 0 ≤ room_1.slots := by show slots + 0 + 0 ≤ 7302250; omega
  refine lv_aload_n hx hb (gfind_ok glw_ok_9 rfl) rfl (lv_at hl 1 rfl) ?_
  refine lw_arg (b := s.heap.size) (i0 := 7 * k) (j := 1) (L := L) hx hb hX hbl hbA hS (lv_at hl 0 rfl) (lv_at hl 3 rfl) (gfind_ok glw_ok_9 rfl) (gfind_ok glw_ok_9 rfl) (gfind_ok glw_ok_9 rfl) rfl (gfind_ok glw_ok_9 rfl) (gfind_ok glw_ok_9 rfl) (by omega) (by omega) ?_
  refine gcallL (als := als) (b := s.heap.size) (d := 10) (n := 129) (ps := (847, 848, 849, 71)) (a := 0) (as := [.int (xs (7 * k + 1))]) (rest := []) hx hb hml hts hown hE hZ ⟨by decide, by decide⟩ ((gsound l D ax str s.heap.size 10 _ _ _ _ g1).1) (gfind_ok glw_ok_10 rfl) (by decide +kernel) (fun x h => by cases (Option.some.inj h); rfl) rfl rfl f1 (Nat.le_of_ble_eq_true rfl) hl.1 hR hS (Nat.le_trans (Nat.add_le_add_left (Nat.le_of_ble_eq_true rfl) _) hc0) (Nat.le_trans (Nat.add_le_add_left (Nat.le_of_ble_eq_true rfl) _) hs0) (fun H1 locs1 hR1 hS1 => ?_)
  have hR := hR1; have hS := hS1
  refine lv_aload_n hx hb (gfind_ok glw_ok_10 rfl) rfl (lv_at hl 2 rfl) ?_
  refine lw_arg (b := s.heap.size) (i0 := 7 * k) (j := 1) (L := L) hx hb hX hbl hbA hS (lv_at hl 0 rfl) (lv_at hl 3 rfl) (gfind_ok glw_ok_10 rfl) (gfind_ok glw_ok_10 rfl) (gfind_ok glw_ok_10 rfl) rfl (gfind_ok glw_ok_10 rfl) (gfind_ok glw_ok_10 rfl) (by omega) (by omega) ?_
  refine gcallL (als := als) (b := s.heap.size) (d := 10) (n := 206) (ps := (1593, 1594, 1595, 84)) (a := 81) (as := [.int (xs (7 * k + 1))]) (rest := [.int v]) hx hb hml hts hown hE hZ ⟨by decide, by decide⟩ ((gsound l D ax str s.heap.size 10 _ _ _ _ g2).1) (gfind_ok glw_ok_10 rfl) (by decide +kernel) (fun x h => by cases (Option.some.inj h); rfl) rfl rfl f2 (Nat.le_of_ble_eq_true rfl) hl.1 hR hS (Nat.le_trans (Nat.add_le_add_left (Nat.le_of_ble_eq_true rfl) _) hc1) (Nat.le_trans (Nat.add_le_add_left (Nat.le_of_ble_eq_true rfl) _) hs1) (fun H2 locs2 hR2 hS2 => ?_)
  refine lv_icmp_eq hx hb (gfind_ok glw_ok_10 rfl) (tgt := 1468) rfl (fun _ => ?_) (fun z => absurd rfl z)
  exact kk H2 locs2 _ _ hR2 hS2 (Nat.add_le_add (Nat.add_le_add_left (Nat.le_of_ble_eq_true rfl) _) (Nat.le_of_ble_eq_true rfl)) (Nat.add_le_add (Nat.add_le_add_left (Nat.le_of_ble_eq_true rfl) _) (Nat.le_of_ble_eq_true rfl))
set_option maxRecDepth 100000 in
set_option maxHeartbeats 4000000 in
theorem law_case_21 (C : gLc p s m args c D ax str sb L xs) (hl : lv_has als 4 (gLls s.heap.size sb k)) (hk : 7 * k + 7 ≤ L) (hR : gRep D ax str s.heap.size q H) (hS : va_S (fun x => s.heap.size ≤ x) s.heap H locs) (g1 : gR gmi gdf gcd 10 130 [.ref 0] q (some (.int v), q1)) (g2 : gR gmi gdf gcd 10 214 [.ref 81] q1 (some (.int v), q2)) {fs1 fs2 : List (Option (Option Nat))} (f1 : q.1.1 0 = some (.inr (.inr (11, fs1)))) (f2 : q1.1.1 81 = some (.inr (.inr (12, fs2)))) (hc : cells + 100 ≤ 600000) (hs : slots + 5000 ≤ 7302250)
    (kk : ∀ (H9 : Heap) (locs9 : List Loc) (cells9 slots9 : Nat), gRep D ax str s.heap.size q2 H9 → va_S (fun x => s.heap.size ≤ x) s.heap H9 locs9 → cells9 ≤ cells + 40 + 0 → slots9 ≤ slots + 2000 + 0 → W p l e room_1 s m args below meth c H9 locs9 cells9 slots9 Q (F0 m 1468 als [])) : W p l e room_1 s m args below meth c H locs cells slots Q (F0 m 921 als []) := by
  obtain ⟨hx, hb, hml, hts, hown, hE, hZ, hX, hbl, hL⟩ := C
  have hbA : ¬ s.heap.size ≤ sb := by omega
  have hc0 : cells + 50 ≤ room_1.cells := by show cells + 50 ≤ 600000; omega
  have hs0 : slots + 2500 ≤ room_1.slots := by show slots + 2500 ≤ 7302250; omega
  have hl : lv_has als 4 [(0, .ref sb), (1, .ref (s.heap.size + 0)), (2, .ref (s.heap.size + 81)), (3, .int (nI (7 * k)))] := hl
  have hc1 : cells + 0 + 0 ≤ room_1.cells := by show cells + 0 + 0 ≤ 600000; omega
  have hs1 : slots + 0 + 0 ≤ room_1.slots := by show slots + 0 + 0 ≤ 7302250; omega
  refine lv_aload_n hx hb (gfind_ok glw_ok_10 rfl) rfl (lv_at hl 1 rfl) ?_
  refine gcallL (als := als) (b := s.heap.size) (d := 10) (n := 130) (ps := (851, 852, 853, 71)) (a := 0) (as := []) (rest := []) hx hb hml hts hown hE hZ ⟨by decide, by decide⟩ ((gsound l D ax str s.heap.size 10 _ _ _ _ g1).1) (gfind_ok glw_ok_10 rfl) (by decide +kernel) (fun x h => by cases (Option.some.inj h); rfl) rfl rfl f1 (Nat.le_of_ble_eq_true rfl) hl.1 hR hS (Nat.le_trans (Nat.add_le_add_left (Nat.le_of_ble_eq_true rfl) _) hc0) (Nat.le_trans (Nat.add_le_add_left (Nat.le_of_ble_eq_true rfl) _) hs0) (fun H1 locs1 hR1 hS1 => ?_)
  have hR := hR1; have hS := hS1
  refine lv_aload_n hx hb (gfind_ok glw_ok_10 rfl) rfl (lv_at hl 2 rfl) ?_
  refine gcallL (als := als) (b := s.heap.size) (d := 10) (n := 214) (ps := (1597, 1598, 1599, 84)) (a := 81) (as := []) (rest := [.int v]) hx hb hml hts hown hE hZ ⟨by decide, by decide⟩ ((gsound l D ax str s.heap.size 10 _ _ _ _ g2).1) (gfind_ok glw_ok_10 rfl) (by decide +kernel) (fun x h => by cases (Option.some.inj h); rfl) rfl rfl f2 (Nat.le_of_ble_eq_true rfl) hl.1 hR hS (Nat.le_trans (Nat.add_le_add_left (Nat.le_of_ble_eq_true rfl) _) hc1) (Nat.le_trans (Nat.add_le_add_left (Nat.le_of_ble_eq_true rfl) _) hs1) (fun H2 locs2 hR2 hS2 => ?_)
  refine lv_icmp_eq hx hb (gfind_ok glw_ok_10 rfl) (tgt := 1468) rfl (fun _ => ?_) (fun z => absurd rfl z)
  exact kk H2 locs2 _ _ hR2 hS2 (Nat.add_le_add (Nat.add_le_add_left (Nat.le_of_ble_eq_true rfl) _) (Nat.le_of_ble_eq_true rfl)) (Nat.add_le_add (Nat.add_le_add_left (Nat.le_of_ble_eq_true rfl) _) (Nat.le_of_ble_eq_true rfl))
set_option maxRecDepth 100000 in
set_option maxHeartbeats 4000000 in
theorem law_case_22 (C : gLc p s m args c D ax str sb L xs) (hl : lv_has als 4 (gLls s.heap.size sb k)) (hk : 7 * k + 7 ≤ L) (hR : gRep D ax str s.heap.size q H) (hS : va_S (fun x => s.heap.size ≤ x) s.heap H locs) (g1 : gR gmi gdf gcd 10 131 [.ref 0] q (some (.int v), q1)) (g2 : gR gmi gdf gcd 10 215 [.ref 81] q1 (some (.int v), q2)) {fs1 fs2 : List (Option (Option Nat))} (f1 : q.1.1 0 = some (.inr (.inr (11, fs1)))) (f2 : q1.1.1 81 = some (.inr (.inr (12, fs2)))) (hc : cells + 100 ≤ 600000) (hs : slots + 5000 ≤ 7302250)
    (kk : ∀ (H9 : Heap) (locs9 : List Loc) (cells9 slots9 : Nat), gRep D ax str s.heap.size q2 H9 → va_S (fun x => s.heap.size ≤ x) s.heap H9 locs9 → cells9 ≤ cells + 40 + 0 → slots9 ≤ slots + 2000 + 0 → W p l e room_1 s m args below meth c H9 locs9 cells9 slots9 Q (F0 m 1468 als [])) : W p l e room_1 s m args below meth c H locs cells slots Q (F0 m 934 als []) := by
  obtain ⟨hx, hb, hml, hts, hown, hE, hZ, hX, hbl, hL⟩ := C
  have hbA : ¬ s.heap.size ≤ sb := by omega
  have hc0 : cells + 50 ≤ room_1.cells := by show cells + 50 ≤ 600000; omega
  have hs0 : slots + 2500 ≤ room_1.slots := by show slots + 2500 ≤ 7302250; omega
  have hl : lv_has als 4 [(0, .ref sb), (1, .ref (s.heap.size + 0)), (2, .ref (s.heap.size + 81)), (3, .int (nI (7 * k)))] := hl
  have hc1 : cells + 0 + 0 ≤ room_1.cells := by show cells + 0 + 0 ≤ 600000; omega
  have hs1 : slots + 0 + 0 ≤ room_1.slots := by show slots + 0 + 0 ≤ 7302250; omega
  refine lv_aload_n hx hb (gfind_ok glw_ok_10 rfl) rfl (lv_at hl 1 rfl) ?_
  refine gcallL (als := als) (b := s.heap.size) (d := 10) (n := 131) (ps := (978, 979, 980, 71)) (a := 0) (as := []) (rest := []) hx hb hml hts hown hE hZ ⟨by decide, by decide⟩ ((gsound l D ax str s.heap.size 10 _ _ _ _ g1).1) (gfind_ok glw_ok_10 rfl) (by decide +kernel) (fun x h => by cases (Option.some.inj h); rfl) rfl rfl f1 (Nat.le_of_ble_eq_true rfl) hl.1 hR hS (Nat.le_trans (Nat.add_le_add_left (Nat.le_of_ble_eq_true rfl) _) hc0) (Nat.le_trans (Nat.add_le_add_left (Nat.le_of_ble_eq_true rfl) _) hs0) (fun H1 locs1 hR1 hS1 => ?_)
  have hR := hR1; have hS := hS1
  refine lv_aload_n hx hb (gfind_ok glw_ok_10 rfl) rfl (lv_at hl 2 rfl) ?_
  refine gcallL (als := als) (b := s.heap.size) (d := 10) (n := 215) (ps := (1633, 1634, 1635, 84)) (a := 81) (as := []) (rest := [.int v]) hx hb hml hts hown hE hZ ⟨by decide, by decide⟩ ((gsound l D ax str s.heap.size 10 _ _ _ _ g2).1) (gfind_ok glw_ok_10 rfl) (by decide +kernel) (fun x h => by cases (Option.some.inj h); rfl) rfl rfl f2 (Nat.le_of_ble_eq_true rfl) hl.1 hR hS (Nat.le_trans (Nat.add_le_add_left (Nat.le_of_ble_eq_true rfl) _) hc1) (Nat.le_trans (Nat.add_le_add_left (Nat.le_of_ble_eq_true rfl) _) hs1) (fun H2 locs2 hR2 hS2 => ?_)
  refine lv_icmp_eq hx hb (gfind_ok glw_ok_10 rfl) (tgt := 1468) rfl (fun _ => ?_) (fun z => absurd rfl z)
  exact kk H2 locs2 _ _ hR2 hS2 (Nat.add_le_add (Nat.add_le_add_left (Nat.le_of_ble_eq_true rfl) _) (Nat.le_of_ble_eq_true rfl)) (Nat.add_le_add (Nat.add_le_add_left (Nat.le_of_ble_eq_true rfl) _) (Nat.le_of_ble_eq_true rfl))
set_option maxRecDepth 100000 in
set_option maxHeartbeats 4000000 in
theorem law_case_23 (C : gLc p s m args c D ax str sb L xs) (hl : lv_has als 4 (gLls s.heap.size sb k)) (hk : 7 * k + 7 ≤ L) (hR : gRep D ax str s.heap.size q H) (hS : va_S (fun x => s.heap.size ≤ x) s.heap H locs) (g1 : gR gmi gdf gcd 10 132 [.ref 0, .int (xs (7 * k + 1)), .int (xs (7 * k + 2))] q (some (.int v), q1)) (g2 : gR gmi gdf gcd 10 217 [.ref 81, .int (xs (7 * k + 1)), .int (xs (7 * k + 2))] q1 (some (.int v), q2)) {fs1 fs2 : List (Option (Option Nat))} (f1 : q.1.1 0 = some (.inr (.inr (11, fs1)))) (f2 : q1.1.1 81 = some (.inr (.inr (12, fs2)))) (hc : cells + 100 ≤ 600000) (hs : slots + 5000 ≤ 7302250)
    (kk : ∀ (H9 : Heap) (locs9 : List Loc) (cells9 slots9 : Nat), gRep D ax str s.heap.size q2 H9 → va_S (fun x => s.heap.size ≤ x) s.heap H9 locs9 → cells9 ≤ cells + 40 + 0 → slots9 ≤ slots + 2000 + 0 → W p l e room_1 s m args below meth c H9 locs9 cells9 slots9 Q (F0 m 1468 als [])) : W p l e room_1 s m args below meth c H locs cells slots Q (F0 m 947 als []) := by
  obtain ⟨hx, hb, hml, hts, hown, hE, hZ, hX, hbl, hL⟩ := C
  have hbA : ¬ s.heap.size ≤ sb := by omega
  have hc0 : cells + 50 ≤ room_1.cells := by show cells + 50 ≤ 600000; omega
  have hs0 : slots + 2500 ≤ room_1.slots := by show slots + 2500 ≤ 7302250; omega
  have hl : lv_has als 4 [(0, .ref sb), (1, .ref (s.heap.size + 0)), (2, .ref (s.heap.size + 81)), (3, .int (nI (7 * k)))] := hl
  have hc1 : cells + 0 + 0 ≤ room_1.cells := by show cells + 0 + 0 ≤ 600000; omega
  have hs1 : slots + 0 + 0 ≤ room_1.slots := by show slots + 0 + 0 ≤ 7302250; omega
  refine lv_aload_n hx hb (gfind_ok glw_ok_10 rfl) rfl (lv_at hl 1 rfl) ?_
  refine lw_arg (b := s.heap.size) (i0 := 7 * k) (j := 1) (L := L) hx hb hX hbl hbA hS (lv_at hl 0 rfl) (lv_at hl 3 rfl) (gfind_ok glw_ok_10 rfl) (gfind_ok glw_ok_10 rfl) (gfind_ok glw_ok_10 rfl) rfl (gfind_ok glw_ok_10 rfl) (gfind_ok glw_ok_10 rfl) (by omega) (by omega) ?_
  refine lw_arg (b := s.heap.size) (i0 := 7 * k) (j := 2) (L := L) hx hb hX hbl hbA hS (lv_at hl 0 rfl) (lv_at hl 3 rfl) (gfind_ok glw_ok_10 rfl) (gfind_ok glw_ok_10 rfl) (gfind_ok glw_ok_10 rfl) rfl (gfind_ok glw_ok_10 rfl) (gfind_ok glw_ok_10 rfl) (by omega) (by omega) ?_
  refine gcallL (als := als) (b := s.heap.size) (d := 10) (n := 132) (ps := (982, 983, 984, 71)) (a := 0) (as := [.int (xs (7 * k + 1)), .int (xs (7 * k + 2))]) (rest := []) hx hb hml hts hown hE hZ ⟨by decide, by decide⟩ ((gsound l D ax str s.heap.size 10 _ _ _ _ g1).1) (gfind_ok glw_ok_10 rfl) (by decide +kernel) (fun x h => by cases (Option.some.inj h); rfl) rfl rfl f1 (Nat.le_of_ble_eq_true rfl) hl.1 hR hS (Nat.le_trans (Nat.add_le_add_left (Nat.le_of_ble_eq_true rfl) _) hc0) (Nat.le_trans (Nat.add_le_add_left (Nat.le_of_ble_eq_true rfl) _) hs0) (fun H1 locs1 hR1 hS1 => ?_)
  have hR := hR1; have hS := hS1
  refine lv_aload_n hx hb (gfind_ok glw_ok_10 rfl) rfl (lv_at hl 2 rfl) ?_
  refine lw_arg (b := s.heap.size) (i0 := 7 * k) (j := 1) (L := L) hx hb hX hbl hbA hS (lv_at hl 0 rfl) (lv_at hl 3 rfl) (gfind_ok glw_ok_10 rfl) (gfind_ok glw_ok_10 rfl) (gfind_ok glw_ok_10 rfl) rfl (gfind_ok glw_ok_10 rfl) (gfind_ok glw_ok_10 rfl) (by omega) (by omega) ?_
  refine lw_arg (b := s.heap.size) (i0 := 7 * k) (j := 2) (L := L) hx hb hX hbl hbA hS (lv_at hl 0 rfl) (lv_at hl 3 rfl) (gfind_ok glw_ok_10 rfl) (gfind_ok glw_ok_10 rfl) (gfind_ok glw_ok_10 rfl) rfl (gfind_ok glw_ok_10 rfl) (gfind_ok glw_ok_10 rfl) (by omega) (by omega) ?_
  refine gcallL (als := als) (b := s.heap.size) (d := 10) (n := 217) (ps := (1637, 1638, 1639, 84)) (a := 81) (as := [.int (xs (7 * k + 1)), .int (xs (7 * k + 2))]) (rest := [.int v]) hx hb hml hts hown hE hZ ⟨by decide, by decide⟩ ((gsound l D ax str s.heap.size 10 _ _ _ _ g2).1) (gfind_ok glw_ok_10 rfl) (by decide +kernel) (fun x h => by cases (Option.some.inj h); rfl) rfl rfl f2 (Nat.le_of_ble_eq_true rfl) hl.1 hR hS (Nat.le_trans (Nat.add_le_add_left (Nat.le_of_ble_eq_true rfl) _) hc1) (Nat.le_trans (Nat.add_le_add_left (Nat.le_of_ble_eq_true rfl) _) hs1) (fun H2 locs2 hR2 hS2 => ?_)
  refine lv_icmp_eq hx hb (gfind_ok glw_ok_10 rfl) (tgt := 1468) rfl (fun _ => ?_) (fun z => absurd rfl z)
  exact kk H2 locs2 _ _ hR2 hS2 (Nat.add_le_add (Nat.add_le_add_left (Nat.le_of_ble_eq_true rfl) _) (Nat.le_of_ble_eq_true rfl)) (Nat.add_le_add (Nat.add_le_add_left (Nat.le_of_ble_eq_true rfl) _) (Nat.le_of_ble_eq_true rfl))
set_option maxRecDepth 100000 in
set_option maxHeartbeats 4000000 in
theorem law_case_24 (C : gLc p s m args c D ax str sb L xs) (hl : lv_has als 4 (gLls s.heap.size sb k)) (hk : 7 * k + 7 ≤ L) (hR : gRep D ax str s.heap.size q H) (hS : va_S (fun x => s.heap.size ≤ x) s.heap H locs) (g1 : gR gmi gdf gcd 10 133 [.ref 0, .int (xs (7 * k + 1))] q (some (.int v), q1)) (g2 : gR gmi gdf gcd 10 218 [.ref 81, .int (xs (7 * k + 1))] q1 (some (.int v), q2)) {fs1 fs2 : List (Option (Option Nat))} (f1 : q.1.1 0 = some (.inr (.inr (11, fs1)))) (f2 : q1.1.1 81 = some (.inr (.inr (12, fs2)))) (hc : cells + 100 ≤ 600000) (hs : slots + 5000 ≤ 7302250)
    (kk : ∀ (H9 : Heap) (locs9 : List Loc) (cells9 slots9 : Nat), gRep D ax str s.heap.size q2 H9 → va_S (fun x => s.heap.size ≤ x) s.heap H9 locs9 → cells9 ≤ cells + 40 + 0 → slots9 ≤ slots + 2000 + 0 → W p l e room_1 s m args below meth c H9 locs9 cells9 slots9 Q (F0 m 1468 als [])) : W p l e room_1 s m args below meth c H locs cells slots Q (F0 m 980 als []) := by
  obtain ⟨hx, hb, hml, hts, hown, hE, hZ, hX, hbl, hL⟩ := C
  have hbA : ¬ s.heap.size ≤ sb := by omega
  have hc0 : cells + 50 ≤ room_1.cells := by show cells + 50 ≤ 600000; omega
  have hs0 : slots + 2500 ≤ room_1.slots := by show slots + 2500 ≤ 7302250; omega
  have hl : lv_has als 4 [(0, .ref sb), (1, .ref (s.heap.size + 0)), (2, .ref (s.heap.size + 81)), (3, .int (nI (7 * k)))] := hl
  have hc1 : cells + 0 + 0 ≤ room_1.cells := by show cells + 0 + 0 ≤ 600000; omega
  have hs1 : slots + 0 + 0 ≤ room_1.slots := by show slots + 0 + 0 ≤ 7302250; omega
  refine lv_aload_n hx hb (gfind_ok glw_ok_10 rfl) rfl (lv_at hl 1 rfl) ?_
  refine lw_arg (b := s.heap.size) (i0 := 7 * k) (j := 1) (L := L) hx hb hX hbl hbA hS (lv_at hl 0 rfl) (lv_at hl 3 rfl) (gfind_ok glw_ok_10 rfl) (gfind_ok glw_ok_10 rfl) (gfind_ok glw_ok_10 rfl) rfl (gfind_ok glw_ok_10 rfl) (gfind_ok glw_ok_10 rfl) (by omega) (by omega) ?_
  refine gcallL (als := als) (b := s.heap.size) (d := 10) (n := 133) (ps := (986, 987, 988, 71)) (a := 0) (as := [.int (xs (7 * k + 1))]) (rest := []) hx hb hml hts hown hE hZ ⟨by decide, by decide⟩ ((gsound l D ax str s.heap.size 10 _ _ _ _ g1).1) (gfind_ok glw_ok_10 rfl) (by decide +kernel) (fun x h => by cases (Option.some.inj h); rfl) rfl rfl f1 (Nat.le_of_ble_eq_true rfl) hl.1 hR hS (Nat.le_trans (Nat.add_le_add_left (Nat.le_of_ble_eq_true rfl) _) hc0) (Nat.le_trans (Nat.add_le_add_left (Nat.le_of_ble_eq_true rfl) _) hs0) (fun H1 locs1 hR1 hS1 => ?_)
  have hR := hR1; have hS := hS1
  refine lv_aload_n hx hb (gfind_ok glw_ok_10 rfl) rfl (lv_at hl 2 rfl) ?_
  refine lw_arg (b := s.heap.size) (i0 := 7 * k) (j := 1) (L := L) hx hb hX hbl hbA hS (lv_at hl 0 rfl) (lv_at hl 3 rfl) (gfind_ok glw_ok_11 rfl) (gfind_ok glw_ok_11 rfl) (gfind_ok glw_ok_11 rfl) rfl (gfind_ok glw_ok_11 rfl) (gfind_ok glw_ok_11 rfl) (by omega) (by omega) ?_
  refine gcallL (als := als) (b := s.heap.size) (d := 10) (n := 218) (ps := (1641, 1642, 1643, 84)) (a := 81) (as := [.int (xs (7 * k + 1))]) (rest := [.int v]) hx hb hml hts hown hE hZ ⟨by decide, by decide⟩ ((gsound l D ax str s.heap.size 10 _ _ _ _ g2).1) (gfind_ok glw_ok_11 rfl) (by decide +kernel) (fun x h => by cases (Option.some.inj h); rfl) rfl rfl f2 (Nat.le_of_ble_eq_true rfl) hl.1 hR hS (Nat.le_trans (Nat.add_le_add_left (Nat.le_of_ble_eq_true rfl) _) hc1) (Nat.le_trans (Nat.add_le_add_left (Nat.le_of_ble_eq_true rfl) _) hs1) (fun H2 locs2 hR2 hS2 => ?_)
  refine lv_icmp_eq hx hb (gfind_ok glw_ok_11 rfl) (tgt := 1468) rfl (fun _ => ?_) (fun z => absurd rfl z)
  exact kk H2 locs2 _ _ hR2 hS2 (Nat.add_le_add (Nat.add_le_add_left (Nat.le_of_ble_eq_true rfl) _) (Nat.le_of_ble_eq_true rfl)) (Nat.add_le_add (Nat.add_le_add_left (Nat.le_of_ble_eq_true rfl) _) (Nat.le_of_ble_eq_true rfl))
set_option maxRecDepth 100000 in
set_option maxHeartbeats 4000000 in
theorem law_case_25 (C : gLc p s m args c D ax str sb L xs) (hl : lv_has als 4 (gLls s.heap.size sb k)) (hk : 7 * k + 7 ≤ L) (hR : gRep D ax str s.heap.size q H) (hS : va_S (fun x => s.heap.size ≤ x) s.heap H locs) (g1 : gR gmi gdf gcd 10 134 [.ref 0, .int (xs (7 * k + 1)), .int (xs (7 * k + 2)), .int (xs (7 * k + 3))] q (some (.int v), q1)) (g2 : gR gmi gdf gcd 10 219 [.ref 81, .int (xs (7 * k + 1)), .int (xs (7 * k + 2)), .int (xs (7 * k + 3))] q1 (some (.int v), q2)) {fs1 fs2 : List (Option (Option Nat))} (f1 : q.1.1 0 = some (.inr (.inr (11, fs1)))) (f2 : q1.1.1 81 = some (.inr (.inr (12, fs2)))) (hc : cells + 100 ≤ 600000) (hs : slots + 5000 ≤ 7302250)
    (kk : ∀ (H9 : Heap) (locs9 : List Loc) (cells9 slots9 : Nat), gRep D ax str s.heap.size q2 H9 → va_S (fun x => s.heap.size ≤ x) s.heap H9 locs9 → cells9 ≤ cells + 40 + 0 → slots9 ≤ slots + 2000 + 0 → W p l e room_1 s m args below meth c H9 locs9 cells9 slots9 Q (F0 m 1468 als [])) : W p l e room_1 s m args below meth c H locs cells slots Q (F0 m 1003 als []) := by
  obtain ⟨hx, hb, hml, hts, hown, hE, hZ, hX, hbl, hL⟩ := C
  have hbA : ¬ s.heap.size ≤ sb := by omega
  have hc0 : cells + 50 ≤ room_1.cells := by show cells + 50 ≤ 600000; omega
  have hs0 : slots + 2500 ≤ room_1.slots := by show slots + 2500 ≤ 7302250; omega
  have hl : lv_has als 4 [(0, .ref sb), (1, .ref (s.heap.size + 0)), (2, .ref (s.heap.size + 81)), (3, .int (nI (7 * k)))] := hl
  have hc1 : cells + 0 + 0 ≤ room_1.cells := by show cells + 0 + 0 ≤ 600000; omega
  have hs1 : slots + 0 + 0 ≤ room_1.slots := by show slots + 0 + 0 ≤ 7302250; omega
  refine lv_aload_n hx hb (gfind_ok glw_ok_11 rfl) rfl (lv_at hl 1 rfl) ?_
  refine lw_arg (b := s.heap.size) (i0 := 7 * k) (j := 1) (L := L) hx hb hX hbl hbA hS (lv_at hl 0 rfl) (lv_at hl 3 rfl) (gfind_ok glw_ok_11 rfl) (gfind_ok glw_ok_11 rfl) (gfind_ok glw_ok_11 rfl) rfl (gfind_ok glw_ok_11 rfl) (gfind_ok glw_ok_11 rfl) (by omega) (by omega) ?_
  refine lw_arg (b := s.heap.size) (i0 := 7 * k) (j := 2) (L := L) hx hb hX hbl hbA hS (lv_at hl 0 rfl) (lv_at hl 3 rfl) (gfind_ok glw_ok_11 rfl) (gfind_ok glw_ok_11 rfl) (gfind_ok glw_ok_11 rfl) rfl (gfind_ok glw_ok_11 rfl) (gfind_ok glw_ok_11 rfl) (by omega) (by omega) ?_
  refine lw_arg (b := s.heap.size) (i0 := 7 * k) (j := 3) (L := L) hx hb hX hbl hbA hS (lv_at hl 0 rfl) (lv_at hl 3 rfl) (gfind_ok glw_ok_11 rfl) (gfind_ok glw_ok_11 rfl) (gfind_ok glw_ok_11 rfl) rfl (gfind_ok glw_ok_11 rfl) (gfind_ok glw_ok_11 rfl) (by omega) (by omega) ?_
  refine gcallL (als := als) (b := s.heap.size) (d := 10) (n := 134) (ps := (996, 997, 998, 71)) (a := 0) (as := [.int (xs (7 * k + 1)), .int (xs (7 * k + 2)), .int (xs (7 * k + 3))]) (rest := []) hx hb hml hts hown hE hZ ⟨by decide, by decide⟩ ((gsound l D ax str s.heap.size 10 _ _ _ _ g1).1) (gfind_ok glw_ok_11 rfl) (by decide +kernel) (fun x h => by cases (Option.some.inj h); rfl) rfl rfl f1 (Nat.le_of_ble_eq_true rfl) hl.1 hR hS (Nat.le_trans (Nat.add_le_add_left (Nat.le_of_ble_eq_true rfl) _) hc0) (Nat.le_trans (Nat.add_le_add_left (Nat.le_of_ble_eq_true rfl) _) hs0) (fun H1 locs1 hR1 hS1 => ?_)
  have hR := hR1; have hS := hS1
  refine lv_aload_n hx hb (gfind_ok glw_ok_11 rfl) rfl (lv_at hl 2 rfl) ?_
  refine lw_arg (b := s.heap.size) (i0 := 7 * k) (j := 1) (L := L) hx hb hX hbl hbA hS (lv_at hl 0 rfl) (lv_at hl 3 rfl) (gfind_ok glw_ok_11 rfl) (gfind_ok glw_ok_11 rfl) (gfind_ok glw_ok_11 rfl) rfl (gfind_ok glw_ok_11 rfl) (gfind_ok glw_ok_11 rfl) (by omega) (by omega) ?_
  refine lw_arg (b := s.heap.size) (i0 := 7 * k) (j := 2) (L := L) hx hb hX hbl hbA hS (lv_at hl 0 rfl) (lv_at hl 3 rfl) (gfind_ok glw_ok_11 rfl) (gfind_ok glw_ok_11 rfl) (gfind_ok glw_ok_11 rfl) rfl (gfind_ok glw_ok_11 rfl) (gfind_ok glw_ok_11 rfl) (by omega) (by omega) ?_
  refine lw_arg (b := s.heap.size) (i0 := 7 * k) (j := 3) (L := L) hx hb hX hbl hbA hS (lv_at hl 0 rfl) (lv_at hl 3 rfl) (gfind_ok glw_ok_11 rfl) (gfind_ok glw_ok_11 rfl) (gfind_ok glw_ok_11 rfl) rfl (gfind_ok glw_ok_11 rfl) (gfind_ok glw_ok_11 rfl) (by omega) (by omega) ?_
  refine gcallL (als := als) (b := s.heap.size) (d := 10) (n := 219) (ps := (1651, 1652, 1653, 84)) (a := 81) (as := [.int (xs (7 * k + 1)), .int (xs (7 * k + 2)), .int (xs (7 * k + 3))]) (rest := [.int v]) hx hb hml hts hown hE hZ ⟨by decide, by decide⟩ ((gsound l D ax str s.heap.size 10 _ _ _ _ g2).1) (gfind_ok glw_ok_11 rfl) (by decide +kernel) (fun x h => by cases (Option.some.inj h); rfl) rfl rfl f2 (Nat.le_of_ble_eq_true rfl) hl.1 hR hS (Nat.le_trans (Nat.add_le_add_left (Nat.le_of_ble_eq_true rfl) _) hc1) (Nat.le_trans (Nat.add_le_add_left (Nat.le_of_ble_eq_true rfl) _) hs1) (fun H2 locs2 hR2 hS2 => ?_)
  refine lv_icmp_eq hx hb (gfind_ok glw_ok_11 rfl) (tgt := 1468) rfl (fun _ => ?_) (fun z => absurd rfl z)
  exact kk H2 locs2 _ _ hR2 hS2 (Nat.add_le_add (Nat.add_le_add_left (Nat.le_of_ble_eq_true rfl) _) (Nat.le_of_ble_eq_true rfl)) (Nat.add_le_add (Nat.add_le_add_left (Nat.le_of_ble_eq_true rfl) _) (Nat.le_of_ble_eq_true rfl))
set_option maxRecDepth 100000 in
set_option maxHeartbeats 4000000 in
theorem law_case_26 (C : gLc p s m args c D ax str sb L xs) (hl : lv_has als 4 (gLls s.heap.size sb k)) (hk : 7 * k + 7 ≤ L) (hR : gRep D ax str s.heap.size q H) (hS : va_S (fun x => s.heap.size ≤ x) s.heap H locs) (g1 : gR gmi gdf gcd 10 135 [.ref 0, .int (xs (7 * k + 1)), .int (xs (7 * k + 2))] q (some (.int v), q1)) (g2 : gR gmi gdf gcd 10 226 [.ref 81, .int (xs (7 * k + 1)), .int (xs (7 * k + 2))] q1 (some (.int v), q2)) {fs1 fs2 : List (Option (Option Nat))} (f1 : q.1.1 0 = some (.inr (.inr (11, fs1)))) (f2 : q1.1.1 81 = some (.inr (.inr (12, fs2)))) (hc : cells + 100 ≤ 600000) (hs : slots + 5000 ≤ 7302250)
    (kk : ∀ (H9 : Heap) (locs9 : List Loc) (cells9 slots9 : Nat), gRep D ax str s.heap.size q2 H9 → va_S (fun x => s.heap.size ≤ x) s.heap H9 locs9 → cells9 ≤ cells + 40 + 0 → slots9 ≤ slots + 2000 + 0 → W p l e room_1 s m args below meth c H9 locs9 cells9 slots9 Q (F0 m 1468 als [])) : W p l e room_1 s m args below meth c H locs cells slots Q (F0 m 1046 als []) := by
  obtain ⟨hx, hb, hml, hts, hown, hE, hZ, hX, hbl, hL⟩ := C
  have hbA : ¬ s.heap.size ≤ sb := by omega
  have hc0 : cells + 50 ≤ room_1.cells := by show cells + 50 ≤ 600000; omega
  have hs0 : slots + 2500 ≤ room_1.slots := by show slots + 2500 ≤ 7302250; omega
  have hl : lv_has als 4 [(0, .ref sb), (1, .ref (s.heap.size + 0)), (2, .ref (s.heap.size + 81)), (3, .int (nI (7 * k)))] := hl
  have hc1 : cells + 0 + 0 ≤ room_1.cells := by show cells + 0 + 0 ≤ 600000; omega
  have hs1 : slots + 0 + 0 ≤ room_1.slots := by show slots + 0 + 0 ≤ 7302250; omega
  refine lv_aload_n hx hb (gfind_ok glw_ok_11 rfl) rfl (lv_at hl 1 rfl) ?_
  refine lw_arg (b := s.heap.size) (i0 := 7 * k) (j := 1) (L := L) hx hb hX hbl hbA hS (lv_at hl 0 rfl) (lv_at hl 3 rfl) (gfind_ok glw_ok_11 rfl) (gfind_ok glw_ok_11 rfl) (gfind_ok glw_ok_11 rfl) rfl (gfind_ok glw_ok_11 rfl) (gfind_ok glw_ok_11 rfl) (by omega) (by omega) ?_
  refine lw_arg (b := s.heap.size) (i0 := 7 * k) (j := 2) (L := L) hx hb hX hbl hbA hS (lv_at hl 0 rfl) (lv_at hl 3 rfl) (gfind_ok glw_ok_11 rfl) (gfind_ok glw_ok_11 rfl) (gfind_ok glw_ok_11 rfl) rfl (gfind_ok glw_ok_11 rfl) (gfind_ok glw_ok_11 rfl) (by omega) (by omega) ?_
  refine gcallL (als := als) (b := s.heap.size) (d := 10) (n := 135) (ps := (1002, 1003, 1004, 71)) (a := 0) (as := [.int (xs (7 * k + 1)), .int (xs (7 * k + 2))]) (rest := []) hx hb hml hts hown hE hZ ⟨by decide, by decide⟩ ((gsound l D ax str s.heap.size 10 _ _ _ _ g1).1) (gfind_ok glw_ok_11 rfl) (by decide +kernel) (fun x h => by cases (Option.some.inj h); rfl) rfl rfl f1 (Nat.le_of_ble_eq_true rfl) hl.1 hR hS (Nat.le_trans (Nat.add_le_add_left (Nat.le_of_ble_eq_true rfl) _) hc0) (Nat.le_trans (Nat.add_le_add_left (Nat.le_of_ble_eq_true rfl) _) hs0) (fun H1 locs1 hR1 hS1 => ?_)
  have hR := hR1; have hS := hS1
  refine lv_aload_n hx hb (gfind_ok glw_ok_11 rfl) rfl (lv_at hl 2 rfl) ?_
  refine lw_arg (b := s.heap.size) (i0 := 7 * k) (j := 1) (L := L) hx hb hX hbl hbA hS (lv_at hl 0 rfl) (lv_at hl 3 rfl) (gfind_ok glw_ok_11 rfl) (gfind_ok glw_ok_12 rfl) (gfind_ok glw_ok_12 rfl) rfl (gfind_ok glw_ok_12 rfl) (gfind_ok glw_ok_12 rfl) (by omega) (by omega) ?_
  refine lw_arg (b := s.heap.size) (i0 := 7 * k) (j := 2) (L := L) hx hb hX hbl hbA hS (lv_at hl 0 rfl) (lv_at hl 3 rfl) (gfind_ok glw_ok_12 rfl) (gfind_ok glw_ok_12 rfl) (gfind_ok glw_ok_12 rfl) rfl (gfind_ok glw_ok_12 rfl) (gfind_ok glw_ok_12 rfl) (by omega) (by omega) ?_
  refine gcallL (als := als) (b := s.heap.size) (d := 10) (n := 226) (ps := (1679, 1680, 1681, 84)) (a := 81) (as := [.int (xs (7 * k + 1)), .int (xs (7 * k + 2))]) (rest := [.int v]) hx hb hml hts hown hE hZ ⟨by decide, by decide⟩ ((gsound l D ax str s.heap.size 10 _ _ _ _ g2).1) (gfind_ok glw_ok_12 rfl) (by decide +kernel) (fun x h => by cases (Option.some.inj h); rfl) rfl rfl f2 (Nat.le_of_ble_eq_true rfl) hl.1 hR hS (Nat.le_trans (Nat.add_le_add_left (Nat.le_of_ble_eq_true rfl) _) hc1) (Nat.le_trans (Nat.add_le_add_left (Nat.le_of_ble_eq_true rfl) _) hs1) (fun H2 locs2 hR2 hS2 => ?_)
  refine lv_icmp_eq hx hb (gfind_ok glw_ok_12 rfl) (tgt := 1468) rfl (fun _ => ?_) (fun z => absurd rfl z)
  exact kk H2 locs2 _ _ hR2 hS2 (Nat.add_le_add (Nat.add_le_add_left (Nat.le_of_ble_eq_true rfl) _) (Nat.le_of_ble_eq_true rfl)) (Nat.add_le_add (Nat.add_le_add_left (Nat.le_of_ble_eq_true rfl) _) (Nat.le_of_ble_eq_true rfl))
set_option maxRecDepth 100000 in
set_option maxHeartbeats 4000000 in
theorem law_case_27 (C : gLc p s m args c D ax str sb L xs) (hl : lv_has als 4 (gLls s.heap.size sb k)) (hk : 7 * k + 7 ≤ L) (hR : gRep D ax str s.heap.size q H) (hS : va_S (fun x => s.heap.size ≤ x) s.heap H locs) (g1 : gR gmi gdf gcd 10 136 [.ref 0, .int (xs (7 * k + 1)), .int (xs (7 * k + 2)), .int (xs (7 * k + 3)), .int (xs (7 * k + 4)), .int (xs (7 * k + 5)), .int (xs (7 * k + 6))] q (some (.int v), q1)) (g2 : gR gmi gdf gcd 10 230 [.ref 81, .int (xs (7 * k + 1)), .int (xs (7 * k + 2)), .int (xs (7 * k + 3)), .int (xs (7 * k + 4)), .int (xs (7 * k + 5)), .int (xs (7 * k + 6))] q1 (some (.int v), q2)) {fs1 fs2 : List (Option (Option Nat))} (f1 : q.1.1 0 = some (.inr (.inr (11, fs1)))) (f2 : q1.1.1 81 = some (.inr (.inr (12, fs2)))) (hc : cells + 100 ≤ 600000) (hs : slots + 5000 ≤ 7302250)
    (kk : ∀ (H9 : Heap) (locs9 : List Loc) (cells9 slots9 : Nat), gRep D ax str s.heap.size q2 H9 → va_S (fun x => s.heap.size ≤ x) s.heap H9 locs9 → cells9 ≤ cells + 40 + 0 → slots9 ≤ slots + 2000 + 0 → W p l e room_1 s m args below meth c H9 locs9 cells9 slots9 Q (F0 m 1468 als [])) : W p l e room_1 s m args below meth c H locs cells slots Q (F0 m 1079 als []) := by
  obtain ⟨hx, hb, hml, hts, hown, hE, hZ, hX, hbl, hL⟩ := C
  have hbA : ¬ s.heap.size ≤ sb := by omega
  have hc0 : cells + 50 ≤ room_1.cells := by show cells + 50 ≤ 600000; omega
  have hs0 : slots + 2500 ≤ room_1.slots := by show slots + 2500 ≤ 7302250; omega
  have hl : lv_has als 4 [(0, .ref sb), (1, .ref (s.heap.size + 0)), (2, .ref (s.heap.size + 81)), (3, .int (nI (7 * k)))] := hl
  have hc1 : cells + 0 + 0 ≤ room_1.cells := by show cells + 0 + 0 ≤ 600000; omega
  have hs1 : slots + 0 + 0 ≤ room_1.slots := by show slots + 0 + 0 ≤ 7302250; omega
  refine lv_aload_n hx hb (gfind_ok glw_ok_12 rfl) rfl (lv_at hl 1 rfl) ?_
  refine lw_arg (b := s.heap.size) (i0 := 7 * k) (j := 1) (L := L) hx hb hX hbl hbA hS (lv_at hl 0 rfl) (lv_at hl 3 rfl) (gfind_ok glw_ok_12 rfl) (gfind_ok glw_ok_12 rfl) (gfind_ok glw_ok_12 rfl) rfl (gfind_ok glw_ok_12 rfl) (gfind_ok glw_ok_12 rfl) (by omega) (by omega) ?_
  refine lw_arg (b := s.heap.size) (i0 := 7 * k) (j := 2) (L := L) hx hb hX hbl hbA hS (lv_at hl 0 rfl) (lv_at hl 3 rfl) (gfind_ok glw_ok_12 rfl) (gfind_ok glw_ok_12 rfl) (gfind_ok glw_ok_12 rfl) rfl (gfind_ok glw_ok_12 rfl) (gfind_ok glw_ok_12 rfl) (by omega) (by omega) ?_
  refine lw_arg (b := s.heap.size) (i0 := 7 * k) (j := 3) (L := L) hx hb hX hbl hbA hS (lv_at hl 0 rfl) (lv_at hl 3 rfl) (gfind_ok glw_ok_12 rfl) (gfind_ok glw_ok_12 rfl) (gfind_ok glw_ok_12 rfl) rfl (gfind_ok glw_ok_12 rfl) (gfind_ok glw_ok_12 rfl) (by omega) (by omega) ?_
  refine lw_arg (b := s.heap.size) (i0 := 7 * k) (j := 4) (L := L) hx hb hX hbl hbA hS (lv_at hl 0 rfl) (lv_at hl 3 rfl) (gfind_ok glw_ok_12 rfl) (gfind_ok glw_ok_12 rfl) (gfind_ok glw_ok_12 rfl) rfl (gfind_ok glw_ok_12 rfl) (gfind_ok glw_ok_12 rfl) (by omega) (by omega) ?_
  refine lw_arg (b := s.heap.size) (i0 := 7 * k) (j := 5) (L := L) hx hb hX hbl hbA hS (lv_at hl 0 rfl) (lv_at hl 3 rfl) (gfind_ok glw_ok_12 rfl) (gfind_ok glw_ok_12 rfl) (gfind_ok glw_ok_12 rfl) rfl (gfind_ok glw_ok_12 rfl) (gfind_ok glw_ok_12 rfl) (by omega) (by omega) ?_
  refine lw_arg6 (b := s.heap.size) (i0 := 7 * k) (j := 6) (L := L) hx hb hX hbl hbA hS (lv_at hl 0 rfl) (lv_at hl 3 rfl) (gfind_ok glw_ok_12 rfl) (gfind_ok glw_ok_12 rfl) (gfind_ok glw_ok_12 rfl) rfl (gfind_ok glw_ok_12 rfl) (gfind_ok glw_ok_12 rfl) (by omega) (by omega) ?_
  refine gcallL (als := als) (b := s.heap.size) (d := 10) (n := 136) (ps := (1006, 1007, 1008, 71)) (a := 0) (as := [.int (xs (7 * k + 1)), .int (xs (7 * k + 2)), .int (xs (7 * k + 3)), .int (xs (7 * k + 4)), .int (xs (7 * k + 5)), .int (xs (7 * k + 6))]) (rest := []) hx hb hml hts hown hE hZ ⟨by decide, by decide⟩ ((gsound l D ax str s.heap.size 10 _ _ _ _ g1).1) (gfind_ok glw_ok_12 rfl) (by decide +kernel) (fun x h => by cases (Option.some.inj h); rfl) rfl rfl f1 (Nat.le_of_ble_eq_true rfl) hl.1 hR hS (Nat.le_trans (Nat.add_le_add_left (Nat.le_of_ble_eq_true rfl) _) hc0) (Nat.le_trans (Nat.add_le_add_left (Nat.le_of_ble_eq_true rfl) _) hs0) (fun H1 locs1 hR1 hS1 => ?_)
  have hR := hR1; have hS := hS1
  refine lv_aload_n hx hb (gfind_ok glw_ok_12 rfl) rfl (lv_at hl 2 rfl) ?_
  refine lw_arg (b := s.heap.size) (i0 := 7 * k) (j := 1) (L := L) hx hb hX hbl hbA hS (lv_at hl 0 rfl) (lv_at hl 3 rfl) (gfind_ok glw_ok_12 rfl) (gfind_ok glw_ok_12 rfl) (gfind_ok glw_ok_12 rfl) rfl (gfind_ok glw_ok_12 rfl) (gfind_ok glw_ok_12 rfl) (by omega) (by omega) ?_
  refine lw_arg (b := s.heap.size) (i0 := 7 * k) (j := 2) (L := L) hx hb hX hbl hbA hS (lv_at hl 0 rfl) (lv_at hl 3 rfl) (gfind_ok glw_ok_12 rfl) (gfind_ok glw_ok_12 rfl) (gfind_ok glw_ok_12 rfl) rfl (gfind_ok glw_ok_12 rfl) (gfind_ok glw_ok_12 rfl) (by omega) (by omega) ?_
  refine lw_arg (b := s.heap.size) (i0 := 7 * k) (j := 3) (L := L) hx hb hX hbl hbA hS (lv_at hl 0 rfl) (lv_at hl 3 rfl) (gfind_ok glw_ok_12 rfl) (gfind_ok glw_ok_12 rfl) (gfind_ok glw_ok_12 rfl) rfl (gfind_ok glw_ok_12 rfl) (gfind_ok glw_ok_13 rfl) (by omega) (by omega) ?_
  refine lw_arg (b := s.heap.size) (i0 := 7 * k) (j := 4) (L := L) hx hb hX hbl hbA hS (lv_at hl 0 rfl) (lv_at hl 3 rfl) (gfind_ok glw_ok_13 rfl) (gfind_ok glw_ok_13 rfl) (gfind_ok glw_ok_13 rfl) rfl (gfind_ok glw_ok_13 rfl) (gfind_ok glw_ok_13 rfl) (by omega) (by omega) ?_
  refine lw_arg (b := s.heap.size) (i0 := 7 * k) (j := 5) (L := L) hx hb hX hbl hbA hS (lv_at hl 0 rfl) (lv_at hl 3 rfl) (gfind_ok glw_ok_13 rfl) (gfind_ok glw_ok_13 rfl) (gfind_ok glw_ok_13 rfl) rfl (gfind_ok glw_ok_13 rfl) (gfind_ok glw_ok_13 rfl) (by omega) (by omega) ?_
  refine lw_arg6 (b := s.heap.size) (i0 := 7 * k) (j := 6) (L := L) hx hb hX hbl hbA hS (lv_at hl 0 rfl) (lv_at hl 3 rfl) (gfind_ok glw_ok_13 rfl) (gfind_ok glw_ok_13 rfl) (gfind_ok glw_ok_13 rfl) rfl (gfind_ok glw_ok_13 rfl) (gfind_ok glw_ok_13 rfl) (by omega) (by omega) ?_
  refine gcallL (als := als) (b := s.heap.size) (d := 10) (n := 230) (ps := (1683, 1684, 1685, 84)) (a := 81) (as := [.int (xs (7 * k + 1)), .int (xs (7 * k + 2)), .int (xs (7 * k + 3)), .int (xs (7 * k + 4)), .int (xs (7 * k + 5)), .int (xs (7 * k + 6))]) (rest := [.int v]) hx hb hml hts hown hE hZ ⟨by decide, by decide⟩ ((gsound l D ax str s.heap.size 10 _ _ _ _ g2).1) (gfind_ok glw_ok_13 rfl) (by decide +kernel) (fun x h => by cases (Option.some.inj h); rfl) rfl rfl f2 (Nat.le_of_ble_eq_true rfl) hl.1 hR hS (Nat.le_trans (Nat.add_le_add_left (Nat.le_of_ble_eq_true rfl) _) hc1) (Nat.le_trans (Nat.add_le_add_left (Nat.le_of_ble_eq_true rfl) _) hs1) (fun H2 locs2 hR2 hS2 => ?_)
  refine lv_icmp_eq hx hb (gfind_ok glw_ok_13 rfl) (tgt := 1468) rfl (fun _ => ?_) (fun z => absurd rfl z)
  exact kk H2 locs2 _ _ hR2 hS2 (Nat.add_le_add (Nat.add_le_add_left (Nat.le_of_ble_eq_true rfl) _) (Nat.le_of_ble_eq_true rfl)) (Nat.add_le_add (Nat.add_le_add_left (Nat.le_of_ble_eq_true rfl) _) (Nat.le_of_ble_eq_true rfl))
set_option maxRecDepth 100000 in
set_option maxHeartbeats 4000000 in
theorem law_case_28 (C : gLc p s m args c D ax str sb L xs) (hl : lv_has als 4 (gLls s.heap.size sb k)) (hk : 7 * k + 7 ≤ L) (hR : gRep D ax str s.heap.size q H) (hS : va_S (fun x => s.heap.size ≤ x) s.heap H locs) (g1 : gR gmi gdf gcd 10 137 [.ref 0, .int (xs (7 * k + 1)), .int (xs (7 * k + 2)), .int (xs (7 * k + 3)), .int (xs (7 * k + 4)), .int (xs (7 * k + 5))] q (some (.int v), q1)) (g2 : gR gmi gdf gcd 10 234 [.ref 81, .int (xs (7 * k + 1)), .int (xs (7 * k + 2)), .int (xs (7 * k + 3)), .int (xs (7 * k + 4)), .int (xs (7 * k + 5))] q1 (some (.int v), q2)) {fs1 fs2 : List (Option (Option Nat))} (f1 : q.1.1 0 = some (.inr (.inr (11, fs1)))) (f2 : q1.1.1 81 = some (.inr (.inr (12, fs2)))) (hc : cells + 100 ≤ 600000) (hs : slots + 5000 ≤ 7302250)
    (kk : ∀ (H9 : Heap) (locs9 : List Loc) (cells9 slots9 : Nat), gRep D ax str s.heap.size q2 H9 → va_S (fun x => s.heap.size ≤ x) s.heap H9 locs9 → cells9 ≤ cells + 40 + 0 → slots9 ≤ slots + 2000 + 0 → W p l e room_1 s m args below meth c H9 locs9 cells9 slots9 Q (F0 m 1468 als [])) : W p l e room_1 s m args below meth c H locs cells slots Q (F0 m 1154 als []) := by
  obtain ⟨hx, hb, hml, hts, hown, hE, hZ, hX, hbl, hL⟩ := C
  have hbA : ¬ s.heap.size ≤ sb := by omega
  have hc0 : cells + 50 ≤ room_1.cells := by show cells + 50 ≤ 600000; omega
  have hs0 : slots + 2500 ≤ room_1.slots := by show slots + 2500 ≤ 7302250; omega
  have hl : lv_has als 4 [(0, .ref sb), (1, .ref (s.heap.size + 0)), (2, .ref (s.heap.size + 81)), (3, .int (nI (7 * k)))] := hl
  have hc1 : cells + 0 + 0 ≤ room_1.cells := by show cells + 0 + 0 ≤ 600000; omega
  have hs1 : slots + 0 + 0 ≤ room_1.slots := by show slots + 0 + 0 ≤ 7302250; omega
  refine lv_aload_n hx hb (gfind_ok glw_ok_13 rfl) rfl (lv_at hl 1 rfl) ?_
  refine lw_arg (b := s.heap.size) (i0 := 7 * k) (j := 1) (L := L) hx hb hX hbl hbA hS (lv_at hl 0 rfl) (lv_at hl 3 rfl) (gfind_ok glw_ok_13 rfl) (gfind_ok glw_ok_13 rfl) (gfind_ok glw_ok_13 rfl) rfl (gfind_ok glw_ok_13 rfl) (gfind_ok glw_ok_13 rfl) (by omega) (by omega) ?_
  refine lw_arg (b := s.heap.size) (i0 := 7 * k) (j := 2) (L := L) hx hb hX hbl hbA hS (lv_at hl 0 rfl) (lv_at hl 3 rfl) (gfind_ok glw_ok_13 rfl) (gfind_ok glw_ok_13 rfl) (gfind_ok glw_ok_13 rfl) rfl (gfind_ok glw_ok_13 rfl) (gfind_ok glw_ok_13 rfl) (by omega) (by omega) ?_
  refine lw_arg (b := s.heap.size) (i0 := 7 * k) (j := 3) (L := L) hx hb hX hbl hbA hS (lv_at hl 0 rfl) (lv_at hl 3 rfl) (gfind_ok glw_ok_13 rfl) (gfind_ok glw_ok_13 rfl) (gfind_ok glw_ok_13 rfl) rfl (gfind_ok glw_ok_13 rfl) (gfind_ok glw_ok_13 rfl) (by omega) (by omega) ?_
  refine lw_arg (b := s.heap.size) (i0 := 7 * k) (j := 4) (L := L) hx hb hX hbl hbA hS (lv_at hl 0 rfl) (lv_at hl 3 rfl) (gfind_ok glw_ok_13 rfl) (gfind_ok glw_ok_13 rfl) (gfind_ok glw_ok_13 rfl) rfl (gfind_ok glw_ok_13 rfl) (gfind_ok glw_ok_13 rfl) (by omega) (by omega) ?_
  refine lw_arg (b := s.heap.size) (i0 := 7 * k) (j := 5) (L := L) hx hb hX hbl hbA hS (lv_at hl 0 rfl) (lv_at hl 3 rfl) (gfind_ok glw_ok_13 rfl) (gfind_ok glw_ok_13 rfl) (gfind_ok glw_ok_13 rfl) rfl (gfind_ok glw_ok_13 rfl) (gfind_ok glw_ok_13 rfl) (by omega) (by omega) ?_
  refine gcallL (als := als) (b := s.heap.size) (d := 10) (n := 137) (ps := (1054, 1055, 1056, 71)) (a := 0) (as := [.int (xs (7 * k + 1)), .int (xs (7 * k + 2)), .int (xs (7 * k + 3)), .int (xs (7 * k + 4)), .int (xs (7 * k + 5))]) (rest := []) hx hb hml hts hown hE hZ ⟨by decide, by decide⟩ ((gsound l D ax str s.heap.size 10 _ _ _ _ g1).1) (gfind_ok glw_ok_13 rfl) (by decide +kernel) (fun x h => by cases (Option.some.inj h); rfl) rfl rfl f1 (Nat.le_of_ble_eq_true rfl) hl.1 hR hS (Nat.le_trans (Nat.add_le_add_left (Nat.le_of_ble_eq_true rfl) _) hc0) (Nat.le_trans (Nat.add_le_add_left (Nat.le_of_ble_eq_true rfl) _) hs0) (fun H1 locs1 hR1 hS1 => ?_)
  have hR := hR1; have hS := hS1
  refine lv_aload_n hx hb (gfind_ok glw_ok_13 rfl) rfl (lv_at hl 2 rfl) ?_
  refine lw_arg (b := s.heap.size) (i0 := 7 * k) (j := 1) (L := L) hx hb hX hbl hbA hS (lv_at hl 0 rfl) (lv_at hl 3 rfl) (gfind_ok glw_ok_13 rfl) (gfind_ok glw_ok_13 rfl) (gfind_ok glw_ok_13 rfl) rfl (gfind_ok glw_ok_13 rfl) (gfind_ok glw_ok_13 rfl) (by omega) (by omega) ?_
  refine lw_arg (b := s.heap.size) (i0 := 7 * k) (j := 2) (L := L) hx hb hX hbl hbA hS (lv_at hl 0 rfl) (lv_at hl 3 rfl) (gfind_ok glw_ok_13 rfl) (gfind_ok glw_ok_13 rfl) (gfind_ok glw_ok_13 rfl) rfl (gfind_ok glw_ok_13 rfl) (gfind_ok glw_ok_13 rfl) (by omega) (by omega) ?_
  refine lw_arg (b := s.heap.size) (i0 := 7 * k) (j := 3) (L := L) hx hb hX hbl hbA hS (lv_at hl 0 rfl) (lv_at hl 3 rfl) (gfind_ok glw_ok_13 rfl) (gfind_ok glw_ok_13 rfl) (gfind_ok glw_ok_14 rfl) rfl (gfind_ok glw_ok_14 rfl) (gfind_ok glw_ok_14 rfl) (by omega) (by omega) ?_
  refine lw_arg (b := s.heap.size) (i0 := 7 * k) (j := 4) (L := L) hx hb hX hbl hbA hS (lv_at hl 0 rfl) (lv_at hl 3 rfl) (gfind_ok glw_ok_14 rfl) (gfind_ok glw_ok_14 rfl) (gfind_ok glw_ok_14 rfl) rfl (gfind_ok glw_ok_14 rfl) (gfind_ok glw_ok_14 rfl) (by omega) (by omega) ?_
  refine lw_arg (b := s.heap.size) (i0 := 7 * k) (j := 5) (L := L) hx hb hX hbl hbA hS (lv_at hl 0 rfl) (lv_at hl 3 rfl) (gfind_ok glw_ok_14 rfl) (gfind_ok glw_ok_14 rfl) (gfind_ok glw_ok_14 rfl) rfl (gfind_ok glw_ok_14 rfl) (gfind_ok glw_ok_14 rfl) (by omega) (by omega) ?_
  refine gcallL (als := als) (b := s.heap.size) (d := 10) (n := 234) (ps := (1701, 1702, 1703, 84)) (a := 81) (as := [.int (xs (7 * k + 1)), .int (xs (7 * k + 2)), .int (xs (7 * k + 3)), .int (xs (7 * k + 4)), .int (xs (7 * k + 5))]) (rest := [.int v]) hx hb hml hts hown hE hZ ⟨by decide, by decide⟩ ((gsound l D ax str s.heap.size 10 _ _ _ _ g2).1) (gfind_ok glw_ok_14 rfl) (by decide +kernel) (fun x h => by cases (Option.some.inj h); rfl) rfl rfl f2 (Nat.le_of_ble_eq_true rfl) hl.1 hR hS (Nat.le_trans (Nat.add_le_add_left (Nat.le_of_ble_eq_true rfl) _) hc1) (Nat.le_trans (Nat.add_le_add_left (Nat.le_of_ble_eq_true rfl) _) hs1) (fun H2 locs2 hR2 hS2 => ?_)
  refine lv_icmp_eq hx hb (gfind_ok glw_ok_14 rfl) (tgt := 1468) rfl (fun _ => ?_) (fun z => absurd rfl z)
  exact kk H2 locs2 _ _ hR2 hS2 (Nat.add_le_add (Nat.add_le_add_left (Nat.le_of_ble_eq_true rfl) _) (Nat.le_of_ble_eq_true rfl)) (Nat.add_le_add (Nat.add_le_add_left (Nat.le_of_ble_eq_true rfl) _) (Nat.le_of_ble_eq_true rfl))
set_option maxRecDepth 100000 in
set_option maxHeartbeats 4000000 in
theorem law_case_29 (C : gLc p s m args c D ax str sb L xs) (hl : lv_has als 4 (gLls s.heap.size sb k)) (hk : 7 * k + 7 ≤ L) (hR : gRep D ax str s.heap.size q H) (hS : va_S (fun x => s.heap.size ≤ x) s.heap H locs) (g1 : gR gmi gdf gcd 10 138 [.ref 0, .int (xs (7 * k + 1)), .int (xs (7 * k + 2)), .int (xs (7 * k + 3)), .int (xs (7 * k + 4)), .int (xs (7 * k + 5))] q (some (.int v), q1)) (g2 : gR gmi gdf gcd 10 235 [.ref 81, .int (xs (7 * k + 1)), .int (xs (7 * k + 2)), .int (xs (7 * k + 3)), .int (xs (7 * k + 4)), .int (xs (7 * k + 5))] q1 (some (.int v), q2)) {fs1 fs2 : List (Option (Option Nat))} (f1 : q.1.1 0 = some (.inr (.inr (11, fs1)))) (f2 : q1.1.1 81 = some (.inr (.inr (12, fs2)))) (hc : cells + 100 ≤ 600000) (hs : slots + 5000 ≤ 7302250)
    (kk : ∀ (H9 : Heap) (locs9 : List Loc) (cells9 slots9 : Nat), gRep D ax str s.heap.size q2 H9 → va_S (fun x => s.heap.size ≤ x) s.heap H9 locs9 → cells9 ≤ cells + 40 + 0 → slots9 ≤ slots + 2000 + 0 → W p l e room_1 s m args below meth c H9 locs9 cells9 slots9 Q (F0 m 1468 als [])) : W p l e room_1 s m args below meth c H locs cells slots Q (F0 m 1217 als []) := by
  obtain ⟨hx, hb, hml, hts, hown, hE, hZ, hX, hbl, hL⟩ := C
  have hbA : ¬ s.heap.size ≤ sb := by omega
  have hc0 : cells + 50 ≤ room_1.cells := by show cells + 50 ≤ 600000; omega
  have hs0 : slots + 2500 ≤ room_1.slots := by show slots + 2500 ≤ 7302250; omega
  have hl : lv_has als 4 [(0, .ref sb), (1, .ref (s.heap.size + 0)), (2, .ref (s.heap.size + 81)), (3, .int (nI (7 * k)))] := hl
  have hc1 : cells + 0 + 0 ≤ room_1.cells := by show cells + 0 + 0 ≤ 600000; omega
  have hs1 : slots + 0 + 0 ≤ room_1.slots := by show slots + 0 + 0 ≤ 7302250; omega
  refine lv_aload_n hx hb (gfind_ok glw_ok_14 rfl) rfl (lv_at hl 1 rfl) ?_
  refine lw_arg (b := s.heap.size) (i0 := 7 * k) (j := 1) (L := L) hx hb hX hbl hbA hS (lv_at hl 0 rfl) (lv_at hl 3 rfl) (gfind_ok glw_ok_14 rfl) (gfind_ok glw_ok_14 rfl) (gfind_ok glw_ok_14 rfl) rfl (gfind_ok glw_ok_14 rfl) (gfind_ok glw_ok_14 rfl) (by omega) (by omega) ?_
  refine lw_arg (b := s.heap.size) (i0 := 7 * k) (j := 2) (L := L) hx hb hX hbl hbA hS (lv_at hl 0 rfl) (lv_at hl 3 rfl) (gfind_ok glw_ok_14 rfl) (gfind_ok glw_ok_14 rfl) (gfind_ok glw_ok_14 rfl) rfl (gfind_ok glw_ok_14 rfl) (gfind_ok glw_ok_14 rfl) (by omega) (by omega) ?_
  refine lw_arg (b := s.heap.size) (i0 := 7 * k) (j := 3) (L := L) hx hb hX hbl hbA hS (lv_at hl 0 rfl) (lv_at hl 3 rfl) (gfind_ok glw_ok_14 rfl) (gfind_ok glw_ok_14 rfl) (gfind_ok glw_ok_14 rfl) rfl (gfind_ok glw_ok_14 rfl) (gfind_ok glw_ok_14 rfl) (by omega) (by omega) ?_
  refine lw_arg (b := s.heap.size) (i0 := 7 * k) (j := 4) (L := L) hx hb hX hbl hbA hS (lv_at hl 0 rfl) (lv_at hl 3 rfl) (gfind_ok glw_ok_14 rfl) (gfind_ok glw_ok_14 rfl) (gfind_ok glw_ok_14 rfl) rfl (gfind_ok glw_ok_14 rfl) (gfind_ok glw_ok_14 rfl) (by omega) (by omega) ?_
  refine lw_arg (b := s.heap.size) (i0 := 7 * k) (j := 5) (L := L) hx hb hX hbl hbA hS (lv_at hl 0 rfl) (lv_at hl 3 rfl) (gfind_ok glw_ok_14 rfl) (gfind_ok glw_ok_14 rfl) (gfind_ok glw_ok_14 rfl) rfl (gfind_ok glw_ok_14 rfl) (gfind_ok glw_ok_14 rfl) (by omega) (by omega) ?_
  refine gcallL (als := als) (b := s.heap.size) (d := 10) (n := 138) (ps := (1084, 1085, 1086, 71)) (a := 0) (as := [.int (xs (7 * k + 1)), .int (xs (7 * k + 2)), .int (xs (7 * k + 3)), .int (xs (7 * k + 4)), .int (xs (7 * k + 5))]) (rest := []) hx hb hml hts hown hE hZ ⟨by decide, by decide⟩ ((gsound l D ax str s.heap.size 10 _ _ _ _ g1).1) (gfind_ok glw_ok_14 rfl) (by decide +kernel) (fun x h => by cases (Option.some.inj h); rfl) rfl rfl f1 (Nat.le_of_ble_eq_true rfl) hl.1 hR hS (Nat.le_trans (Nat.add_le_add_left (Nat.le_of_ble_eq_true rfl) _) hc0) (Nat.le_trans (Nat.add_le_add_left (Nat.le_of_ble_eq_true rfl) _) hs0) (fun H1 locs1 hR1 hS1 => ?_)
  have hR := hR1; have hS := hS1
  refine lv_aload_n hx hb (gfind_ok glw_ok_14 rfl) rfl (lv_at hl 2 rfl) ?_
  refine lw_arg (b := s.heap.size) (i0 := 7 * k) (j := 1) (L := L) hx hb hX hbl hbA hS (lv_at hl 0 rfl) (lv_at hl 3 rfl) (gfind_ok glw_ok_14 rfl) (gfind_ok glw_ok_14 rfl) (gfind_ok glw_ok_14 rfl) rfl (gfind_ok glw_ok_14 rfl) (gfind_ok glw_ok_14 rfl) (by omega) (by omega) ?_
  refine lw_arg (b := s.heap.size) (i0 := 7 * k) (j := 2) (L := L) hx hb hX hbl hbA hS (lv_at hl 0 rfl) (lv_at hl 3 rfl) (gfind_ok glw_ok_14 rfl) (gfind_ok glw_ok_14 rfl) (gfind_ok glw_ok_14 rfl) rfl (gfind_ok glw_ok_14 rfl) (gfind_ok glw_ok_14 rfl) (by omega) (by omega) ?_
  refine lw_arg (b := s.heap.size) (i0 := 7 * k) (j := 3) (L := L) hx hb hX hbl hbA hS (lv_at hl 0 rfl) (lv_at hl 3 rfl) (gfind_ok glw_ok_14 rfl) (gfind_ok glw_ok_14 rfl) (gfind_ok glw_ok_14 rfl) rfl (gfind_ok glw_ok_14 rfl) (gfind_ok glw_ok_14 rfl) (by omega) (by omega) ?_
  refine lw_arg (b := s.heap.size) (i0 := 7 * k) (j := 4) (L := L) hx hb hX hbl hbA hS (lv_at hl 0 rfl) (lv_at hl 3 rfl) (gfind_ok glw_ok_15 rfl) (gfind_ok glw_ok_15 rfl) (gfind_ok glw_ok_15 rfl) rfl (gfind_ok glw_ok_15 rfl) (gfind_ok glw_ok_15 rfl) (by omega) (by omega) ?_
  refine lw_arg (b := s.heap.size) (i0 := 7 * k) (j := 5) (L := L) hx hb hX hbl hbA hS (lv_at hl 0 rfl) (lv_at hl 3 rfl) (gfind_ok glw_ok_15 rfl) (gfind_ok glw_ok_15 rfl) (gfind_ok glw_ok_15 rfl) rfl (gfind_ok glw_ok_15 rfl) (gfind_ok glw_ok_15 rfl) (by omega) (by omega) ?_
  refine gcallL (als := als) (b := s.heap.size) (d := 10) (n := 235) (ps := (1718, 1719, 1720, 84)) (a := 81) (as := [.int (xs (7 * k + 1)), .int (xs (7 * k + 2)), .int (xs (7 * k + 3)), .int (xs (7 * k + 4)), .int (xs (7 * k + 5))]) (rest := [.int v]) hx hb hml hts hown hE hZ ⟨by decide, by decide⟩ ((gsound l D ax str s.heap.size 10 _ _ _ _ g2).1) (gfind_ok glw_ok_15 rfl) (by decide +kernel) (fun x h => by cases (Option.some.inj h); rfl) rfl rfl f2 (Nat.le_of_ble_eq_true rfl) hl.1 hR hS (Nat.le_trans (Nat.add_le_add_left (Nat.le_of_ble_eq_true rfl) _) hc1) (Nat.le_trans (Nat.add_le_add_left (Nat.le_of_ble_eq_true rfl) _) hs1) (fun H2 locs2 hR2 hS2 => ?_)
  refine lv_icmp_eq hx hb (gfind_ok glw_ok_15 rfl) (tgt := 1468) rfl (fun _ => ?_) (fun z => absurd rfl z)
  exact kk H2 locs2 _ _ hR2 hS2 (Nat.add_le_add (Nat.add_le_add_left (Nat.le_of_ble_eq_true rfl) _) (Nat.le_of_ble_eq_true rfl)) (Nat.add_le_add (Nat.add_le_add_left (Nat.le_of_ble_eq_true rfl) _) (Nat.le_of_ble_eq_true rfl))
set_option maxRecDepth 100000 in
set_option maxHeartbeats 4000000 in
theorem law_case_30 (C : gLc p s m args c D ax str sb L xs) (hl : lv_has als 4 (gLls s.heap.size sb k)) (hk : 7 * k + 7 ≤ L) (hR : gRep D ax str s.heap.size q H) (hS : va_S (fun x => s.heap.size ≤ x) s.heap H locs) (g1 : gR gmi gdf gcd 10 139 [.ref 0] q (some (.int v), q1)) (g2 : gR gmi gdf gcd 10 224 [.ref 81] q1 (some (.int v), q2)) {fs1 fs2 : List (Option (Option Nat))} (f1 : q.1.1 0 = some (.inr (.inr (11, fs1)))) (f2 : q1.1.1 81 = some (.inr (.inr (12, fs2)))) (hc : cells + 100 ≤ 600000) (hs : slots + 5000 ≤ 7302250)
    (kk : ∀ (H9 : Heap) (locs9 : List Loc) (cells9 slots9 : Nat), gRep D ax str s.heap.size q2 H9 → va_S (fun x => s.heap.size ≤ x) s.heap H9 locs9 → cells9 ≤ cells + 40 + 0 → slots9 ≤ slots + 2000 + 0 → W p l e room_1 s m args below meth c H9 locs9 cells9 slots9 Q (F0 m 1468 als [])) : W p l e room_1 s m args below meth c H locs cells slots Q (F0 m 1280 als []) := by
  obtain ⟨hx, hb, hml, hts, hown, hE, hZ, hX, hbl, hL⟩ := C
  have hbA : ¬ s.heap.size ≤ sb := by omega
  have hc0 : cells + 50 ≤ room_1.cells := by show cells + 50 ≤ 600000; omega
  have hs0 : slots + 2500 ≤ room_1.slots := by show slots + 2500 ≤ 7302250; omega
  have hl : lv_has als 4 [(0, .ref sb), (1, .ref (s.heap.size + 0)), (2, .ref (s.heap.size + 81)), (3, .int (nI (7 * k)))] := hl
  have hc1 : cells + 31 + 0 ≤ room_1.cells := by show cells + 31 + 0 ≤ 600000; omega
  have hs1 : slots + 1386 + 0 ≤ room_1.slots := by show slots + 1386 + 0 ≤ 7302250; omega
  refine lv_aload_n hx hb (gfind_ok glw_ok_15 rfl) rfl (lv_at hl 1 rfl) ?_
  refine gcallL (als := als) (b := s.heap.size) (d := 10) (n := 139) (ps := (1092, 1093, 1094, 71)) (a := 0) (as := []) (rest := []) hx hb hml hts hown hE hZ ⟨by decide, by decide⟩ ((gsound l D ax str s.heap.size 10 _ _ _ _ g1).1) (gfind_ok glw_ok_15 rfl) (by decide +kernel) (fun x h => by cases (Option.some.inj h); rfl) rfl rfl f1 (Nat.le_of_ble_eq_true rfl) hl.1 hR hS (Nat.le_trans (Nat.add_le_add_left (Nat.le_of_ble_eq_true rfl) _) hc0) (Nat.le_trans (Nat.add_le_add_left (Nat.le_of_ble_eq_true rfl) _) hs0) (fun H1 locs1 hR1 hS1 => ?_)
  have hR := hR1; have hS := hS1
  refine lv_aload_n hx hb (gfind_ok glw_ok_15 rfl) rfl (lv_at hl 2 rfl) ?_
  refine gcallL (als := als) (b := s.heap.size) (d := 10) (n := 224) (ps := (1655, 1656, 1657, 84)) (a := 81) (as := []) (rest := [.int v]) hx hb hml hts hown hE hZ ⟨by decide, by decide⟩ ((gsound l D ax str s.heap.size 10 _ _ _ _ g2).1) (gfind_ok glw_ok_15 rfl) (by decide +kernel) (fun x h => by cases (Option.some.inj h); rfl) rfl rfl f2 (Nat.le_of_ble_eq_true rfl) hl.1 hR hS (Nat.le_trans (Nat.add_le_add_left (Nat.le_of_ble_eq_true rfl) _) hc1) (Nat.le_trans (Nat.add_le_add_left (Nat.le_of_ble_eq_true rfl) _) hs1) (fun H2 locs2 hR2 hS2 => ?_)
  refine lv_icmp_eq hx hb (gfind_ok glw_ok_15 rfl) (tgt := 1468) rfl (fun _ => ?_) (fun z => absurd rfl z)
  exact kk H2 locs2 _ _ hR2 hS2 (Nat.add_le_add (Nat.add_le_add_left (Nat.le_of_ble_eq_true rfl) _) (Nat.le_of_ble_eq_true rfl)) (Nat.add_le_add (Nat.add_le_add_left (Nat.le_of_ble_eq_true rfl) _) (Nat.le_of_ble_eq_true rfl))
set_option maxRecDepth 100000 in
set_option maxHeartbeats 4000000 in
theorem law_case_31 (C : gLc p s m args c D ax str sb L xs) (hl : lv_has als 4 (gLls s.heap.size sb k)) (hk : 7 * k + 7 ≤ L) (hR : gRep D ax str s.heap.size q H) (hS : va_S (fun x => s.heap.size ≤ x) s.heap H locs) (g1 : gR gmi gdf gcd 10 140 [.ref 0, .int (xs (7 * k + 1))] q (some (.int v), q1)) (g2 : gR gmi gdf gcd 10 225 [.ref 81, .int (xs (7 * k + 1))] q1 (some (.int v), q2)) {fs1 fs2 : List (Option (Option Nat))} (f1 : q.1.1 0 = some (.inr (.inr (11, fs1)))) (f2 : q1.1.1 81 = some (.inr (.inr (12, fs2)))) (hc : cells + 100 ≤ 600000) (hs : slots + 5000 ≤ 7302250)
    (kk : ∀ (H9 : Heap) (locs9 : List Loc) (cells9 slots9 : Nat), gRep D ax str s.heap.size q2 H9 → va_S (fun x => s.heap.size ≤ x) s.heap H9 locs9 → cells9 ≤ cells + 40 + 0 → slots9 ≤ slots + 2000 + 0 → W p l e room_1 s m args below meth c H9 locs9 cells9 slots9 Q (F0 m 1468 als [])) : W p l e room_1 s m args below meth c H locs cells slots Q (F0 m 1293 als []) := by
  obtain ⟨hx, hb, hml, hts, hown, hE, hZ, hX, hbl, hL⟩ := C
  have hbA : ¬ s.heap.size ≤ sb := by omega
  have hc0 : cells + 50 ≤ room_1.cells := by show cells + 50 ≤ 600000; omega
  have hs0 : slots + 2500 ≤ room_1.slots := by show slots + 2500 ≤ 7302250; omega
  have hl : lv_has als 4 [(0, .ref sb), (1, .ref (s.heap.size + 0)), (2, .ref (s.heap.size + 81)), (3, .int (nI (7 * k)))] := hl
  have hc1 : cells + 0 + 0 ≤ room_1.cells := by show cells + 0 + 0 ≤ 600000; omega
  have hs1 : slots + 0 + 0 ≤ room_1.slots := by show slots + 0 + 0 ≤ 7302250; omega
  refine lv_aload_n hx hb (gfind_ok glw_ok_15 rfl) rfl (lv_at hl 1 rfl) ?_
  refine lw_arg (b := s.heap.size) (i0 := 7 * k) (j := 1) (L := L) hx hb hX hbl hbA hS (lv_at hl 0 rfl) (lv_at hl 3 rfl) (gfind_ok glw_ok_15 rfl) (gfind_ok glw_ok_15 rfl) (gfind_ok glw_ok_15 rfl) rfl (gfind_ok glw_ok_15 rfl) (gfind_ok glw_ok_15 rfl) (by omega) (by omega) ?_
  refine gcallL (als := als) (b := s.heap.size) (d := 10) (n := 140) (ps := (1121, 1122, 1123, 71)) (a := 0) (as := [.int (xs (7 * k + 1))]) (rest := []) hx hb hml hts hown hE hZ ⟨by decide, by decide⟩ ((gsound l D ax str s.heap.size 10 _ _ _ _ g1).1) (gfind_ok glw_ok_15 rfl) (by decide +kernel) (fun x h => by cases (Option.some.inj h); rfl) rfl rfl f1 (Nat.le_of_ble_eq_true rfl) hl.1 hR hS (Nat.le_trans (Nat.add_le_add_left (Nat.le_of_ble_eq_true rfl) _) hc0) (Nat.le_trans (Nat.add_le_add_left (Nat.le_of_ble_eq_true rfl) _) hs0) (fun H1 locs1 hR1 hS1 => ?_)
  have hR := hR1; have hS := hS1
  refine lv_aload_n hx hb (gfind_ok glw_ok_15 rfl) rfl (lv_at hl 2 rfl) ?_
  refine lw_arg (b := s.heap.size) (i0 := 7 * k) (j := 1) (L := L) hx hb hX hbl hbA hS (lv_at hl 0 rfl) (lv_at hl 3 rfl) (gfind_ok glw_ok_15 rfl) (gfind_ok glw_ok_15 rfl) (gfind_ok glw_ok_15 rfl) rfl (gfind_ok glw_ok_15 rfl) (gfind_ok glw_ok_15 rfl) (by omega) (by omega) ?_
  refine gcallL (als := als) (b := s.heap.size) (d := 10) (n := 225) (ps := (1675, 1676, 1677, 84)) (a := 81) (as := [.int (xs (7 * k + 1))]) (rest := [.int v]) hx hb hml hts hown hE hZ ⟨by decide, by decide⟩ ((gsound l D ax str s.heap.size 10 _ _ _ _ g2).1) (gfind_ok glw_ok_15 rfl) (by decide +kernel) (fun x h => by cases (Option.some.inj h); rfl) rfl rfl f2 (Nat.le_of_ble_eq_true rfl) hl.1 hR hS (Nat.le_trans (Nat.add_le_add_left (Nat.le_of_ble_eq_true rfl) _) hc1) (Nat.le_trans (Nat.add_le_add_left (Nat.le_of_ble_eq_true rfl) _) hs1) (fun H2 locs2 hR2 hS2 => ?_)
  refine lv_icmp_eq hx hb (gfind_ok glw_ok_15 rfl) (tgt := 1468) rfl (fun _ => ?_) (fun z => absurd rfl z)
  exact kk H2 locs2 _ _ hR2 hS2 (Nat.add_le_add (Nat.add_le_add_left (Nat.le_of_ble_eq_true rfl) _) (Nat.le_of_ble_eq_true rfl)) (Nat.add_le_add (Nat.add_le_add_left (Nat.le_of_ble_eq_true rfl) _) (Nat.le_of_ble_eq_true rfl))
set_option maxRecDepth 100000 in
set_option maxHeartbeats 4000000 in
theorem law_case_32 (C : gLc p s m args c D ax str sb L xs) (hl : lv_has als 4 (gLls s.heap.size sb k)) (hk : 7 * k + 7 ≤ L) (hR : gRep D ax str s.heap.size q H) (hS : va_S (fun x => s.heap.size ≤ x) s.heap H locs) (g1 : gR gmi gdf gcd 10 141 [.ref 0, .int (xs (7 * k + 1)), .int (xs (7 * k + 2)), .int (xs (7 * k + 3))] q (some (.int v), q1)) (g2 : gR gmi gdf gcd 10 236 [.ref 81, .int (xs (7 * k + 1)), .int (xs (7 * k + 2)), .int (xs (7 * k + 3))] q1 (some (.int v), q2)) {fs1 fs2 : List (Option (Option Nat))} (f1 : q.1.1 0 = some (.inr (.inr (11, fs1)))) (f2 : q1.1.1 81 = some (.inr (.inr (12, fs2)))) (hc : cells + 100 ≤ 600000) (hs : slots + 5000 ≤ 7302250)
    (kk : ∀ (H9 : Heap) (locs9 : List Loc) (cells9 slots9 : Nat), gRep D ax str s.heap.size q2 H9 → va_S (fun x => s.heap.size ≤ x) s.heap H9 locs9 → cells9 ≤ cells + 40 + 0 → slots9 ≤ slots + 2000 + 0 → W p l e room_1 s m args below meth c H9 locs9 cells9 slots9 Q (F0 m 1468 als [])) : W p l e room_1 s m args below meth c H locs cells slots Q (F0 m 1316 als []) := by
  obtain ⟨hx, hb, hml, hts, hown, hE, hZ, hX, hbl, hL⟩ := C
  have hbA : ¬ s.heap.size ≤ sb := by omega
  have hc0 : cells + 50 ≤ room_1.cells := by show cells + 50 ≤ 600000; omega
  have hs0 : slots + 2500 ≤ room_1.slots := by show slots + 2500 ≤ 7302250; omega
  have hl : lv_has als 4 [(0, .ref sb), (1, .ref (s.heap.size + 0)), (2, .ref (s.heap.size + 81)), (3, .int (nI (7 * k)))] := hl
  have hc1 : cells + 0 + 0 ≤ room_1.cells := by show cells + 0 + 0 ≤ 600000; omega
  have hs1 : slots + 0 + 0 ≤ room_1.slots := by show slots + 0 + 0 ≤ 7302250; omega
  refine lv_aload_n hx hb (gfind_ok glw_ok_15 rfl) rfl (lv_at hl 1 rfl) ?_
  refine lw_arg (b := s.heap.size) (i0 := 7 * k) (j := 1) (L := L) hx hb hX hbl hbA hS (lv_at hl 0 rfl) (lv_at hl 3 rfl) (gfind_ok glw_ok_15 rfl) (gfind_ok glw_ok_15 rfl) (gfind_ok glw_ok_15 rfl) rfl (gfind_ok glw_ok_15 rfl) (gfind_ok glw_ok_15 rfl) (by omega) (by omega) ?_
  refine lw_arg (b := s.heap.size) (i0 := 7 * k) (j := 2) (L := L) hx hb hX hbl hbA hS (lv_at hl 0 rfl) (lv_at hl 3 rfl) (gfind_ok glw_ok_15 rfl) (gfind_ok glw_ok_15 rfl) (gfind_ok glw_ok_15 rfl) rfl (gfind_ok glw_ok_15 rfl) (gfind_ok glw_ok_15 rfl) (by omega) (by omega) ?_
  refine lw_arg (b := s.heap.size) (i0 := 7 * k) (j := 3) (L := L) hx hb hX hbl hbA hS (lv_at hl 0 rfl) (lv_at hl 3 rfl) (gfind_ok glw_ok_15 rfl) (gfind_ok glw_ok_15 rfl) (gfind_ok glw_ok_15 rfl) rfl (gfind_ok glw_ok_15 rfl) (gfind_ok glw_ok_15 rfl) (by omega) (by omega) ?_
  refine gcallL (als := als) (b := s.heap.size) (d := 10) (n := 141) (ps := (1125, 1126, 1127, 71)) (a := 0) (as := [.int (xs (7 * k + 1)), .int (xs (7 * k + 2)), .int (xs (7 * k + 3))]) (rest := []) hx hb hml hts hown hE hZ ⟨by decide, by decide⟩ ((gsound l D ax str s.heap.size 10 _ _ _ _ g1).1) (gfind_ok glw_ok_15 rfl) (by decide +kernel) (fun x h => by cases (Option.some.inj h); rfl) rfl rfl f1 (Nat.le_of_ble_eq_true rfl) hl.1 hR hS (Nat.le_trans (Nat.add_le_add_left (Nat.le_of_ble_eq_true rfl) _) hc0) (Nat.le_trans (Nat.add_le_add_left (Nat.le_of_ble_eq_true rfl) _) hs0) (fun H1 locs1 hR1 hS1 => ?_)
  have hR := hR1; have hS := hS1
  refine lv_aload_n hx hb (gfind_ok glw_ok_15 rfl) rfl (lv_at hl 2 rfl) ?_
  refine lw_arg (b := s.heap.size) (i0 := 7 * k) (j := 1) (L := L) hx hb hX hbl hbA hS (lv_at hl 0 rfl) (lv_at hl 3 rfl) (gfind_ok glw_ok_15 rfl) (gfind_ok glw_ok_15 rfl) (gfind_ok glw_ok_15 rfl) rfl (gfind_ok glw_ok_15 rfl) (gfind_ok glw_ok_16 rfl) (by omega) (by omega) ?_
  refine lw_arg (b := s.heap.size) (i0 := 7 * k) (j := 2) (L := L) hx hb hX hbl hbA hS (lv_at hl 0 rfl) (lv_at hl 3 rfl) (gfind_ok glw_ok_16 rfl) (gfind_ok glw_ok_16 rfl) (gfind_ok glw_ok_16 rfl) rfl (gfind_ok glw_ok_16 rfl) (gfind_ok glw_ok_16 rfl) (by omega) (by omega) ?_
  refine lw_arg (b := s.heap.size) (i0 := 7 * k) (j := 3) (L := L) hx hb hX hbl hbA hS (lv_at hl 0 rfl) (lv_at hl 3 rfl) (gfind_ok glw_ok_16 rfl) (gfind_ok glw_ok_16 rfl) (gfind_ok glw_ok_16 rfl) rfl (gfind_ok glw_ok_16 rfl) (gfind_ok glw_ok_16 rfl) (by omega) (by omega) ?_
  refine gcallL (als := als) (b := s.heap.size) (d := 10) (n := 236) (ps := (1722, 1723, 1724, 84)) (a := 81) (as := [.int (xs (7 * k + 1)), .int (xs (7 * k + 2)), .int (xs (7 * k + 3))]) (rest := [.int v]) hx hb hml hts hown hE hZ ⟨by decide, by decide⟩ ((gsound l D ax str s.heap.size 10 _ _ _ _ g2).1) (gfind_ok glw_ok_16 rfl) (by decide +kernel) (fun x h => by cases (Option.some.inj h); rfl) rfl rfl f2 (Nat.le_of_ble_eq_true rfl) hl.1 hR hS (Nat.le_trans (Nat.add_le_add_left (Nat.le_of_ble_eq_true rfl) _) hc1) (Nat.le_trans (Nat.add_le_add_left (Nat.le_of_ble_eq_true rfl) _) hs1) (fun H2 locs2 hR2 hS2 => ?_)
  refine lv_icmp_eq hx hb (gfind_ok glw_ok_16 rfl) (tgt := 1468) rfl (fun _ => ?_) (fun z => absurd rfl z)
  exact kk H2 locs2 _ _ hR2 hS2 (Nat.add_le_add (Nat.add_le_add_left (Nat.le_of_ble_eq_true rfl) _) (Nat.le_of_ble_eq_true rfl)) (Nat.add_le_add (Nat.add_le_add_left (Nat.le_of_ble_eq_true rfl) _) (Nat.le_of_ble_eq_true rfl))
set_option maxRecDepth 100000 in
set_option maxHeartbeats 4000000 in
theorem law_case_33 (C : gLc p s m args c D ax str sb L xs) (hl : lv_has als 4 (gLls s.heap.size sb k)) (hk : 7 * k + 7 ≤ L) (hR : gRep D ax str s.heap.size q H) (hS : va_S (fun x => s.heap.size ≤ x) s.heap H locs) (g1 : gR gmi gdf gcd 10 142 [.ref 0, .int (xs (7 * k + 1)), .int (xs (7 * k + 2)), .int (xs (7 * k + 3))] q (some (.int v), q1)) (g2 : gR gmi gdf gcd 10 237 [.ref 81, .int (xs (7 * k + 1)), .int (xs (7 * k + 2)), .int (xs (7 * k + 3))] q1 (some (.int v), q2)) {fs1 fs2 : List (Option (Option Nat))} (f1 : q.1.1 0 = some (.inr (.inr (11, fs1)))) (f2 : q1.1.1 81 = some (.inr (.inr (12, fs2)))) (hc : cells + 100 ≤ 600000) (hs : slots + 5000 ≤ 7302250)
    (kk : ∀ (H9 : Heap) (locs9 : List Loc) (cells9 slots9 : Nat), gRep D ax str s.heap.size q2 H9 → va_S (fun x => s.heap.size ≤ x) s.heap H9 locs9 → cells9 ≤ cells + 40 + 0 → slots9 ≤ slots + 2000 + 0 → W p l e room_1 s m args below meth c H9 locs9 cells9 slots9 Q (F0 m 1468 als [])) : W p l e room_1 s m args below meth c H locs cells slots Q (F0 m 1359 als []) := by
  obtain ⟨hx, hb, hml, hts, hown, hE, hZ, hX, hbl, hL⟩ := C
  have hbA : ¬ s.heap.size ≤ sb := by omega
  have hc0 : cells + 50 ≤ room_1.cells := by show cells + 50 ≤ 600000; omega
  have hs0 : slots + 2500 ≤ room_1.slots := by show slots + 2500 ≤ 7302250; omega
  have hl : lv_has als 4 [(0, .ref sb), (1, .ref (s.heap.size + 0)), (2, .ref (s.heap.size + 81)), (3, .int (nI (7 * k)))] := hl
  have hc1 : cells + 0 + 0 ≤ room_1.cells := by show cells + 0 + 0 ≤ 600000; omega
  have hs1 : slots + 0 + 0 ≤ room_1.slots := by show slots + 0 + 0 ≤ 7302250; omega
  refine lv_aload_n hx hb (gfind_ok glw_ok_16 rfl) rfl (lv_at hl 1 rfl) ?_
  refine lw_arg (b := s.heap.size) (i0 := 7 * k) (j := 1) (L := L) hx hb hX hbl hbA hS (lv_at hl 0 rfl) (lv_at hl 3 rfl) (gfind_ok glw_ok_16 rfl) (gfind_ok glw_ok_16 rfl) (gfind_ok glw_ok_16 rfl) rfl (gfind_ok glw_ok_16 rfl) (gfind_ok glw_ok_16 rfl) (by omega) (by omega) ?_
  refine lw_arg (b := s.heap.size) (i0 := 7 * k) (j := 2) (L := L) hx hb hX hbl hbA hS (lv_at hl 0 rfl) (lv_at hl 3 rfl) (gfind_ok glw_ok_16 rfl) (gfind_ok glw_ok_16 rfl) (gfind_ok glw_ok_16 rfl) rfl (gfind_ok glw_ok_16 rfl) (gfind_ok glw_ok_16 rfl) (by omega) (by omega) ?_
  refine lw_arg (b := s.heap.size) (i0 := 7 * k) (j := 3) (L := L) hx hb hX hbl hbA hS (lv_at hl 0 rfl) (lv_at hl 3 rfl) (gfind_ok glw_ok_16 rfl) (gfind_ok glw_ok_16 rfl) (gfind_ok glw_ok_16 rfl) rfl (gfind_ok glw_ok_16 rfl) (gfind_ok glw_ok_16 rfl) (by omega) (by omega) ?_
  refine gcallL (als := als) (b := s.heap.size) (d := 10) (n := 142) (ps := (1140, 1141, 1142, 71)) (a := 0) (as := [.int (xs (7 * k + 1)), .int (xs (7 * k + 2)), .int (xs (7 * k + 3))]) (rest := []) hx hb hml hts hown hE hZ ⟨by decide, by decide⟩ ((gsound l D ax str s.heap.size 10 _ _ _ _ g1).1) (gfind_ok glw_ok_16 rfl) (by decide +kernel) (fun x h => by cases (Option.some.inj h); rfl) rfl rfl f1 (Nat.le_of_ble_eq_true rfl) hl.1 hR hS (Nat.le_trans (Nat.add_le_add_left (Nat.le_of_ble_eq_true rfl) _) hc0) (Nat.le_trans (Nat.add_le_add_left (Nat.le_of_ble_eq_true rfl) _) hs0) (fun H1 locs1 hR1 hS1 => ?_)
  have hR := hR1; have hS := hS1
  refine lv_aload_n hx hb (gfind_ok glw_ok_16 rfl) rfl (lv_at hl 2 rfl) ?_
  refine lw_arg (b := s.heap.size) (i0 := 7 * k) (j := 1) (L := L) hx hb hX hbl hbA hS (lv_at hl 0 rfl) (lv_at hl 3 rfl) (gfind_ok glw_ok_16 rfl) (gfind_ok glw_ok_16 rfl) (gfind_ok glw_ok_16 rfl) rfl (gfind_ok glw_ok_16 rfl) (gfind_ok glw_ok_16 rfl) (by omega) (by omega) ?_
  refine lw_arg (b := s.heap.size) (i0 := 7 * k) (j := 2) (L := L) hx hb hX hbl hbA hS (lv_at hl 0 rfl) (lv_at hl 3 rfl) (gfind_ok glw_ok_16 rfl) (gfind_ok glw_ok_16 rfl) (gfind_ok glw_ok_16 rfl) rfl (gfind_ok glw_ok_16 rfl) (gfind_ok glw_ok_16 rfl) (by omega) (by omega) ?_
  refine lw_arg (b := s.heap.size) (i0 := 7 * k) (j := 3) (L := L) hx hb hX hbl hbA hS (lv_at hl 0 rfl) (lv_at hl 3 rfl) (gfind_ok glw_ok_16 rfl) (gfind_ok glw_ok_16 rfl) (gfind_ok glw_ok_16 rfl) rfl (gfind_ok glw_ok_16 rfl) (gfind_ok glw_ok_16 rfl) (by omega) (by omega) ?_
  refine gcallL (als := als) (b := s.heap.size) (d := 10) (n := 237) (ps := (1726, 1727, 1728, 84)) (a := 81) (as := [.int (xs (7 * k + 1)), .int (xs (7 * k + 2)), .int (xs (7 * k + 3))]) (rest := [.int v]) hx hb hml hts hown hE hZ ⟨by decide, by decide⟩ ((gsound l D ax str s.heap.size 10 _ _ _ _ g2).1) (gfind_ok glw_ok_16 rfl) (by decide +kernel) (fun x h => by cases (Option.some.inj h); rfl) rfl rfl f2 (Nat.le_of_ble_eq_true rfl) hl.1 hR hS (Nat.le_trans (Nat.add_le_add_left (Nat.le_of_ble_eq_true rfl) _) hc1) (Nat.le_trans (Nat.add_le_add_left (Nat.le_of_ble_eq_true rfl) _) hs1) (fun H2 locs2 hR2 hS2 => ?_)
  refine lv_icmp_eq hx hb (gfind_ok glw_ok_16 rfl) (tgt := 1468) rfl (fun _ => ?_) (fun z => absurd rfl z)
  exact kk H2 locs2 _ _ hR2 hS2 (Nat.add_le_add (Nat.add_le_add_left (Nat.le_of_ble_eq_true rfl) _) (Nat.le_of_ble_eq_true rfl)) (Nat.add_le_add (Nat.add_le_add_left (Nat.le_of_ble_eq_true rfl) _) (Nat.le_of_ble_eq_true rfl))
set_option maxRecDepth 100000 in
set_option maxHeartbeats 4000000 in
theorem law_case_34 (C : gLc p s m args c D ax str sb L xs) (hl : lv_has als 4 (gLls s.heap.size sb k)) (hk : 7 * k + 7 ≤ L) (hR : gRep D ax str s.heap.size q H) (hS : va_S (fun x => s.heap.size ≤ x) s.heap H locs) (g1 : gR gmi gdf gcd 10 143 [.ref 0, .int (xs (7 * k + 1)), .int (xs (7 * k + 2)), .int (xs (7 * k + 3))] q (some (.int v), q1)) (g2 : gR gmi gdf gcd 10 238 [.ref 81, .int (xs (7 * k + 1)), .int (xs (7 * k + 2)), .int (xs (7 * k + 3))] q1 (some (.int v), q2)) {fs1 fs2 : List (Option (Option Nat))} (f1 : q.1.1 0 = some (.inr (.inr (11, fs1)))) (f2 : q1.1.1 81 = some (.inr (.inr (12, fs2)))) (hc : cells + 100 ≤ 600000) (hs : slots + 5000 ≤ 7302250)
    (kk : ∀ (H9 : Heap) (locs9 : List Loc) (cells9 slots9 : Nat), gRep D ax str s.heap.size q2 H9 → va_S (fun x => s.heap.size ≤ x) s.heap H9 locs9 → cells9 ≤ cells + 40 + 0 → slots9 ≤ slots + 2000 + 0 → W p l e room_1 s m args below meth c H9 locs9 cells9 slots9 Q (F0 m 1468 als [])) : W p l e room_1 s m args below meth c H locs cells slots Q (F0 m 1402 als []) := by
  obtain ⟨hx, hb, hml, hts, hown, hE, hZ, hX, hbl, hL⟩ := C
  have hbA : ¬ s.heap.size ≤ sb := by omega
  have hc0 : cells + 50 ≤ room_1.cells := by show cells + 50 ≤ 600000; omega
  have hs0 : slots + 2500 ≤ room_1.slots := by show slots + 2500 ≤ 7302250; omega
  have hl : lv_has als 4 [(0, .ref sb), (1, .ref (s.heap.size + 0)), (2, .ref (s.heap.size + 81)), (3, .int (nI (7 * k)))] := hl
  have hc1 : cells + 0 + 0 ≤ room_1.cells := by show cells + 0 + 0 ≤ 600000; omega
  have hs1 : slots + 0 + 0 ≤ room_1.slots := by show slots + 0 + 0 ≤ 7302250; omega
  refine lv_aload_n hx hb (gfind_ok glw_ok_16 rfl) rfl (lv_at hl 1 rfl) ?_
  refine lw_arg (b := s.heap.size) (i0 := 7 * k) (j := 1) (L := L) hx hb hX hbl hbA hS (lv_at hl 0 rfl) (lv_at hl 3 rfl) (gfind_ok glw_ok_16 rfl) (gfind_ok glw_ok_16 rfl) (gfind_ok glw_ok_16 rfl) rfl (gfind_ok glw_ok_16 rfl) (gfind_ok glw_ok_16 rfl) (by omega) (by omega) ?_
  refine lw_arg (b := s.heap.size) (i0 := 7 * k) (j := 2) (L := L) hx hb hX hbl hbA hS (lv_at hl 0 rfl) (lv_at hl 3 rfl) (gfind_ok glw_ok_16 rfl) (gfind_ok glw_ok_16 rfl) (gfind_ok glw_ok_17 rfl) rfl (gfind_ok glw_ok_17 rfl) (gfind_ok glw_ok_17 rfl) (by omega) (by omega) ?_
  refine lw_arg (b := s.heap.size) (i0 := 7 * k) (j := 3) (L := L) hx hb hX hbl hbA hS (lv_at hl 0 rfl) (lv_at hl 3 rfl) (gfind_ok glw_ok_17 rfl) (gfind_ok glw_ok_17 rfl) (gfind_ok glw_ok_17 rfl) rfl (gfind_ok glw_ok_17 rfl) (gfind_ok glw_ok_17 rfl) (by omega) (by omega) ?_
  refine gcallL (als := als) (b := s.heap.size) (d := 10) (n := 143) (ps := (1148, 1149, 1150, 71)) (a := 0) (as := [.int (xs (7 * k + 1)), .int (xs (7 * k + 2)), .int (xs (7 * k + 3))]) (rest := []) hx hb hml hts hown hE hZ ⟨by decide, by decide⟩ ((gsound l D ax str s.heap.size 10 _ _ _ _ g1).1) (gfind_ok glw_ok_17 rfl) (by decide +kernel) (fun x h => by cases (Option.some.inj h); rfl) rfl rfl f1 (Nat.le_of_ble_eq_true rfl) hl.1 hR hS (Nat.le_trans (Nat.add_le_add_left (Nat.le_of_ble_eq_true rfl) _) hc0) (Nat.le_trans (Nat.add_le_add_left (Nat.le_of_ble_eq_true rfl) _) hs0) (fun H1 locs1 hR1 hS1 => ?_)
  have hR := hR1; have hS := hS1
  refine lv_aload_n hx hb (gfind_ok glw_ok_17 rfl) rfl (lv_at hl 2 rfl) ?_
  refine lw_arg (b := s.heap.size) (i0 := 7 * k) (j := 1) (L := L) hx hb hX hbl hbA hS (lv_at hl 0 rfl) (lv_at hl 3 rfl) (gfind_ok glw_ok_17 rfl) (gfind_ok glw_ok_17 rfl) (gfind_ok glw_ok_17 rfl) rfl (gfind_ok glw_ok_17 rfl) (gfind_ok glw_ok_17 rfl) (by omega) (by omega) ?_
  refine lw_arg (b := s.heap.size) (i0 := 7 * k) (j := 2) (L := L) hx hb hX hbl hbA hS (lv_at hl 0 rfl) (lv_at hl 3 rfl) (gfind_ok glw_ok_17 rfl) (gfind_ok glw_ok_17 rfl) (gfind_ok glw_ok_17 rfl) rfl (gfind_ok glw_ok_17 rfl) (gfind_ok glw_ok_17 rfl) (by omega) (by omega) ?_
  refine lw_arg (b := s.heap.size) (i0 := 7 * k) (j := 3) (L := L) hx hb hX hbl hbA hS (lv_at hl 0 rfl) (lv_at hl 3 rfl) (gfind_ok glw_ok_17 rfl) (gfind_ok glw_ok_17 rfl) (gfind_ok glw_ok_17 rfl) rfl (gfind_ok glw_ok_17 rfl) (gfind_ok glw_ok_17 rfl) (by omega) (by omega) ?_
  refine gcallL (als := als) (b := s.heap.size) (d := 10) (n := 238) (ps := (1730, 1731, 1732, 84)) (a := 81) (as := [.int (xs (7 * k + 1)), .int (xs (7 * k + 2)), .int (xs (7 * k + 3))]) (rest := [.int v]) hx hb hml hts hown hE hZ ⟨by decide, by decide⟩ ((gsound l D ax str s.heap.size 10 _ _ _ _ g2).1) (gfind_ok glw_ok_17 rfl) (by decide +kernel) (fun x h => by cases (Option.some.inj h); rfl) rfl rfl f2 (Nat.le_of_ble_eq_true rfl) hl.1 hR hS (Nat.le_trans (Nat.add_le_add_left (Nat.le_of_ble_eq_true rfl) _) hc1) (Nat.le_trans (Nat.add_le_add_left (Nat.le_of_ble_eq_true rfl) _) hs1) (fun H2 locs2 hR2 hS2 => ?_)
  refine lv_icmp_eq hx hb (gfind_ok glw_ok_17 rfl) (tgt := 1468) rfl (fun _ => ?_) (fun z => absurd rfl z)
  exact kk H2 locs2 _ _ hR2 hS2 (Nat.add_le_add (Nat.add_le_add_left (Nat.le_of_ble_eq_true rfl) _) (Nat.le_of_ble_eq_true rfl)) (Nat.add_le_add (Nat.add_le_add_left (Nat.le_of_ble_eq_true rfl) _) (Nat.le_of_ble_eq_true rfl))
set_option maxRecDepth 100000 in
set_option maxHeartbeats 4000000 in
theorem law_case_35 (C : gLc p s m args c D ax str sb L xs) (hl : lv_has als 4 (gLls s.heap.size sb k)) (hk : 7 * k + 7 ≤ L) (hR : gRep D ax str s.heap.size q H) (hS : va_S (fun x => s.heap.size ≤ x) s.heap H locs) (g1 : gR gmi gdf gcd 10 144 [.ref 0, .int (xs (7 * k + 1))] q (some (.int v), q1)) (g2 : gR gmi gdf gcd 10 239 [.ref 81, .int (xs (7 * k + 1))] q1 (some (.int v), q2)) {fs1 fs2 : List (Option (Option Nat))} (f1 : q.1.1 0 = some (.inr (.inr (11, fs1)))) (f2 : q1.1.1 81 = some (.inr (.inr (12, fs2)))) (hc : cells + 100 ≤ 600000) (hs : slots + 5000 ≤ 7302250)
    (kk : ∀ (H9 : Heap) (locs9 : List Loc) (cells9 slots9 : Nat), gRep D ax str s.heap.size q2 H9 → va_S (fun x => s.heap.size ≤ x) s.heap H9 locs9 → cells9 ≤ cells + 40 + 0 → slots9 ≤ slots + 2000 + 0 → W p l e room_1 s m args below meth c H9 locs9 cells9 slots9 Q (F0 m 1468 als [])) : W p l e room_1 s m args below meth c H locs cells slots Q (F0 m 1445 als []) := by
  obtain ⟨hx, hb, hml, hts, hown, hE, hZ, hX, hbl, hL⟩ := C
  have hbA : ¬ s.heap.size ≤ sb := by omega
  have hc0 : cells + 50 ≤ room_1.cells := by show cells + 50 ≤ 600000; omega
  have hs0 : slots + 2500 ≤ room_1.slots := by show slots + 2500 ≤ 7302250; omega
  have hl : lv_has als 4 [(0, .ref sb), (1, .ref (s.heap.size + 0)), (2, .ref (s.heap.size + 81)), (3, .int (nI (7 * k)))] := hl
  have hc1 : cells + 0 + 0 ≤ room_1.cells := by show cells + 0 + 0 ≤ 600000; omega
  have hs1 : slots + 0 + 0 ≤ room_1.slots := by show slots + 0 + 0 ≤ 7302250; omega
  refine lv_aload_n hx hb (gfind_ok glw_ok_17 rfl) rfl (lv_at hl 1 rfl) ?_
  refine lw_arg (b := s.heap.size) (i0 := 7 * k) (j := 1) (L := L) hx hb hX hbl hbA hS (lv_at hl 0 rfl) (lv_at hl 3 rfl) (gfind_ok glw_ok_17 rfl) (gfind_ok glw_ok_17 rfl) (gfind_ok glw_ok_17 rfl) rfl (gfind_ok glw_ok_17 rfl) (gfind_ok glw_ok_17 rfl) (by omega) (by omega) ?_
  refine gcallL (als := als) (b := s.heap.size) (d := 10) (n := 144) (ps := (1160, 1161, 1162, 71)) (a := 0) (as := [.int (xs (7 * k + 1))]) (rest := []) hx hb hml hts hown hE hZ ⟨by decide, by decide⟩ ((gsound l D ax str s.heap.size 10 _ _ _ _ g1).1) (gfind_ok glw_ok_17 rfl) (by decide +kernel) (fun x h => by cases (Option.some.inj h); rfl) rfl rfl f1 (Nat.le_of_ble_eq_true rfl) hl.1 hR hS (Nat.le_trans (Nat.add_le_add_left (Nat.le_of_ble_eq_true rfl) _) hc0) (Nat.le_trans (Nat.add_le_add_left (Nat.le_of_ble_eq_true rfl) _) hs0) (fun H1 locs1 hR1 hS1 => ?_)
  have hR := hR1; have hS := hS1
  refine lv_aload_n hx hb (gfind_ok glw_ok_17 rfl) rfl (lv_at hl 2 rfl) ?_
  refine lw_arg (b := s.heap.size) (i0 := 7 * k) (j := 1) (L := L) hx hb hX hbl hbA hS (lv_at hl 0 rfl) (lv_at hl 3 rfl) (gfind_ok glw_ok_17 rfl) (gfind_ok glw_ok_17 rfl) (gfind_ok glw_ok_17 rfl) rfl (gfind_ok glw_ok_17 rfl) (gfind_ok glw_ok_17 rfl) (by omega) (by omega) ?_
  refine gcallL (als := als) (b := s.heap.size) (d := 10) (n := 239) (ps := (1734, 1735, 1736, 84)) (a := 81) (as := [.int (xs (7 * k + 1))]) (rest := [.int v]) hx hb hml hts hown hE hZ ⟨by decide, by decide⟩ ((gsound l D ax str s.heap.size 10 _ _ _ _ g2).1) (gfind_ok glw_ok_17 rfl) (by decide +kernel) (fun x h => by cases (Option.some.inj h); rfl) rfl rfl f2 (Nat.le_of_ble_eq_true rfl) hl.1 hR hS (Nat.le_trans (Nat.add_le_add_left (Nat.le_of_ble_eq_true rfl) _) hc1) (Nat.le_trans (Nat.add_le_add_left (Nat.le_of_ble_eq_true rfl) _) hs1) (fun H2 locs2 hR2 hS2 => ?_)
  refine lv_icmp_eq hx hb (gfind_ok glw_ok_17 rfl) (tgt := 1468) rfl (fun _ => ?_) (fun z => absurd rfl z)
  exact kk H2 locs2 _ _ hR2 hS2 (Nat.add_le_add (Nat.add_le_add_left (Nat.le_of_ble_eq_true rfl) _) (Nat.le_of_ble_eq_true rfl)) (Nat.add_le_add (Nat.add_le_add_left (Nat.le_of_ble_eq_true rfl) _) (Nat.le_of_ble_eq_true rfl))
end GWALK
