/-! ===== the law: its loop, over any invariant that the calls keep ===== -/
def R_law : String := "OilTownLaw"
def lw_P (b : Addr) (xs : List Int32) (args : Array Value) (s : State) : Prop := args = #[.ref b] ∧ s.IntsAt b xs ∧ xs.length ≤ 3584 ∧ (Jvm.Cond.and given_1 narrow_1).before args s = true
def lw_Q (_ : Array Value) (s : State) (o : Outcome) (t : State) : Prop := o = .returned (some (.int 1)) ∧ Framed s o t [] 600000 7302250
def lw_Z (below : List Frame) (a : Array Value) (s : State) : State → Prop := fun t => ∃ o, t.status = .running ∧ Ended t below o ∧ lw_Q a s o t
/-- the law's own end, with 1 on the stack, nothing written that was there before, its room as the claim has it -/
theorem lw_ret {p : Program} {l : Launch} {e : Env} {s : State} {m : MethodId} {below : List Frame} {meth : Method} {c : Code} {b : Nat} (hx : p.tables.exec = Jvm.exec) (hb : c.code = code) (hr : meth.sig.returnType = ret) (hlocks : meth.locks = false) {pc : Nat} {H : Heap} {ls : Array Slot} (hdg : decode code pc = .ok (.ireturn, 1)) : W p l e room_1 s m #[Value.ref b] below meth c H [] 600000 7302250 (lw_Z below #[Value.ref b] s) (F0 m pc ls [.int 1]) := by
  intro T hT X
  obtain ⟨fs, hret, hrun, hended, hW, hframe⟩ := X.leave (v := some (.int 1)) (hlocks := hlocks) (fun h => by rw [hr] at h; cases h)
  have hmeth' : T.vm.method? m = some meth := X.method'
  refine ⟨T.setFrames fs, ?_, .returned (some (.int 1)), hrun, hended, rfl, ⟨_, rfl⟩, hW, hframe⟩
  jvm_step X.here [X.here.top, hx, hb, hdg, hmeth', hr, ret, narrow_b1]
  (try refine ⟨rfl, ?_⟩); (try refine ⟨rfl, ?_⟩)
  first | (intro acts; rw [hret _ acts rfl rfl rfl]) | rw [hret _ _ rfl rfl rfl]
  exact Steps.refl _
/-- what holds at the law's entry: the machine, the code, the tables' words (any of lw_tbl by 'hts w (by decide +kernel)'), the script of L ints xs at the cell b, what the Statement gives of the start (any of its parts by flat_of_before) -/
def lw_At (p : Program) (s : State) (m : MethodId) (meth : Method) (c : Code) (b L : Nat) (xs : Nat → Int32) : Prop :=
  p.tables.exec = Jvm.exec ∧ c.code = code ∧ meth.sig.returnType = ret ∧ c.maxLocals = 4 ∧ s.vm.findClass R_law = some m.cls ∧ (∀ w ∈ lw_tbl, w.before #[Value.ref b] s = true) ∧ va_X b L xs s s.heap ∧ b < s.heap.size ∧ meth.locks = false ∧ (Jvm.Cond.and given_1 narrow_1).before #[Value.ref b] s = true
def gqM : Nat → Nat := fun op => match op with
  | 0 => 164
  | 1 => 167
  | 2 => 168
  | 3 => 170
  | 4 => 178
  | 5 => 179
  | 6 => 180
  | 7 => 181
  | 8 => 183
  | 9 => 185
  | 10 => 186
  | 11 => 192
  | 12 => 193
  | 13 => 194
  | 14 => 195
  | 15 => 200
  | 16 => 201
  | 17 => 203
  | 18 => 204
  | 19 => 205
  | 20 => 206
  | 21 => 214
  | 22 => 215
  | 23 => 217
  | 24 => 218
  | 25 => 219
  | 26 => 226
  | 27 => 230
  | 28 => 234
  | 29 => 235
  | 30 => 224
  | 31 => 225
  | 32 => 236
  | 33 => 237
  | 34 => 238
  | _ => 239
def gArg (op : Nat) (x : Nat → Int32) : List Value := match op with
  | 0 => [.int (x 1), .int (x 2)]
  | 1 => [.int (x 1), .int (x 2), .int (x 3), .int (x 4), .int (x 5)]
  | 2 => [.int (x 1), .int (x 2)]
  | 3 => [.int (x 1), .int (x 2)]
  | 4 => []
  | 5 => []
  | 6 => [.int (x 1), .int (x 2)]
  | 7 => [.int (x 1), .int (x 2), .int (x 3), .int (x 4)]
  | 8 => [.int (x 1), .int (x 2)]
  | 9 => [.int (x 1)]
  | 10 => [.int (x 1), .int (x 2)]
  | 11 => [.int (x 1), .int (x 2), .int (x 3)]
  | 12 => [.int (x 1), .int (x 2)]
  | 13 => [.int (x 1), .int (x 2)]
  | 14 => [.int (x 1), .int (if x 2 = 0 then 0 else 1)]
  | 15 => [.int (x 1), .int (x 2)]
  | 16 => [.int (x 1), .int (x 2), .int (x 3)]
  | 17 => [.int (x 1), .int (x 2)]
  | 18 => [.int (x 1)]
  | 19 => [.long (((x 1).toInt64 <<< (Int32.toInt64 32 &&& 63)) ||| ((x 2).toInt64 &&& 4294967295))]
  | 20 => [.int (x 1)]
  | 21 => []
  | 22 => []
  | 23 => [.int (x 1), .int (x 2)]
  | 24 => [.int (x 1)]
  | 25 => [.int (x 1), .int (x 2), .int (x 3)]
  | 26 => [.int (x 1), .int (x 2)]
  | 27 => [.int (x 1), .int (x 2), .int (x 3), .int (x 4), .int (x 5), .int (x 6)]
  | 28 => [.int (x 1), .int (x 2), .int (x 3), .int (x 4), .int (x 5)]
  | 29 => [.int (x 1), .int (x 2), .int (x 3), .int (x 4), .int (x 5)]
  | 30 => []
  | 31 => [.int (x 1)]
  | 32 => [.int (x 1), .int (x 2), .int (x 3)]
  | 33 => [.int (x 1), .int (x 2), .int (x 3)]
  | 34 => [.int (x 1), .int (x 2), .int (x 3)]
  | _ => [.int (x 1)]
/-- an invariant that every call keeps, and under which class and reference answer alike -/
def gSim (I : Nat → gS → Prop) : Prop := (∀ (k op : Nat) (x : Nat → Int32) (q : gS), k < 512 → op < 36 → I k q → ∃ (v : Int32) (q1 q2 : gS), gR gmi gdf gcd 10 (109 + op) (.ref 0 :: gArg op x) q (some (.int v), q1) ∧ gR gmi gdf gcd 10 (gqM op) (.ref 81 :: gArg op x) q1 (some (.int v), q2) ∧ I (k + 1) q2 ∧ (∃ fs, q.1.1 0 = some (.inr (.inr (11, fs)))) ∧ ∃ fs, q1.1.1 81 = some (.inr (.inr (12, fs)))) ∧ ∀ (k : Nat) (q : gS), k < 512 → I k q → I (k + 1) q
set_option maxRecDepth 100000 in
set_option maxHeartbeats 4000000 in
theorem law_loop {p : Program} {l : Launch} {e : Env} {s : State} {m : MethodId} {below : List Frame} {meth : Method} {c : Code} {D : va_G} {ax : Nat → ClassId} {str : Nat → Nat} {sb L : Nat} {xs : Nat → Int32} (C : gLc p s m #[Value.ref sb] c D ax str sb L xs) (hr : meth.sig.returnType = ret) (hlocks : meth.locks = false) {I : Nat → gS → Prop} (hI : gSim I) :
    ∀ (n k : Nat) (q : gS) (H : Heap) (locs : List Loc) (cells slots : Nat) (als : Array Slot), L < 7 * k + n → k ≤ 512 → lv_has als 4 (gLls s.heap.size sb k) → gRep D ax str s.heap.size q H → va_S (fun x => s.heap.size ≤ x) s.heap H locs → cells ≤ 300 + 40 * k → slots ≤ 20000 + 2000 * k → I k q → W p l e room_1 s m #[Value.ref sb] below meth c H locs cells slots (lw_Z below #[Value.ref sb] s) (F0 m 18 als []) := by
  intro n
  have C0 := C
  obtain ⟨hx, hb, hml, hts, hown, hE, hZ, hX, hbl, hL⟩ := C0
  have hbA : ¬ s.heap.size ≤ sb := by omega
  have exit : ∀ (H : Heap) (locs : List Loc) (cells slots : Nat) (als : Array Slot), va_S (fun x => s.heap.size ≤ x) s.heap H locs → cells ≤ 600000 → slots ≤ 7302250 → W p l e room_1 s m #[Value.ref sb] below meth c H locs cells slots (lw_Z below #[Value.ref sb] s) (F0 m 1474 als []) := by
    intro H locs cells slots als hS hc hs
    refine lv_iconst (v := 1) hx hb (gfind_ok glw_ok_17 rfl) (by decide) ?_
    refine va_forget (fun q hq => hS.2.2 q hq) ?_
    refine W.widen (k := 600000) (n := 7302250) hc hs ?_
    exact lw_ret hx hb hr hlocks (gfind_ok glw_ok_17 rfl)
  have head : ∀ (k : Nat) (H : Heap) (locs : List Loc) (cells slots : Nat) (als : Array Slot), k ≤ 512 → lv_has als 4 (gLls s.heap.size sb k) → va_S (fun x => s.heap.size ≤ x) s.heap H locs → cells ≤ 300 + 40 * k → slots ≤ 20000 + 2000 * k → (7 * k + 7 ≤ L → W p l e room_1 s m #[Value.ref sb] below meth c H locs cells slots (lw_Z below #[Value.ref sb] s) (F0 m 27 als [])) → W p l e room_1 s m #[Value.ref sb] below meth c H locs cells slots (lw_Z below #[Value.ref sb] s) (F0 m 18 als []) := by
    intro k H locs cells slots als hk hl hS hc hs kk
    have hl : lv_has als 4 [(0, .ref sb), (1, .ref (s.heap.size + 0)), (2, .ref (s.heap.size + 81)), (3, .int (nI (7 * k)))] := hl
    refine lv_iload_n hx hb (gfind_ok glw_ok_0 rfl) rfl (lv_at hl 3 rfl) ?_
    refine lv_aload_n hx hb (gfind_ok glw_ok_0 rfl) rfl (lv_at hl 0 rfl) ?_
    refine va_slen hx hb hX hbl hbA hS (gfind_ok glw_ok_0 rfl) ?_
    refine lv_bipush (v := nI 7) hx hb (gfind_ok glw_ok_0 rfl) rfl ?_
    refine lv_isub hx hb (gfind_ok glw_ok_0 rfl) ?_
    have hsub : (Int32.ofNat L - nI 7).toInt = (L : Int) - 7 := pk_sub_toInt (a := L) (b := 7) (by omega) (by omega)
    have h7 : (nI (7 * k)).toInt = ((7 * k : Nat) : Int) := nI_toInt (by omega)
    refine lv_icmp_gt hx hb (gfind_ok glw_ok_0 rfl) (tgt := 1474) rfl (fun z => ?_) (fun z => ?_)
    · exact exit H locs cells slots als hS (by omega) (by omega)
    · refine kk ?_
      have := Int32.not_lt.mp z
      rw [Int32.le_iff_toInt_le, hsub, h7] at this
      omega
  induction n with
  | zero =>
    intro k q H locs cells slots als hn hk hl hR hS hc hs hIk
    exact head k H locs cells slots als hk hl hS hc hs (fun h => by omega)
  | succ n ih =>
    intro k q H locs cells slots als hn hk hl hR hS hc hs hIk
    refine head k H locs cells slots als hk hl hS hc hs (fun hk7 => ?_)
    have hk5 : k < 512 := by omega
    have hl' : lv_has als 4 [(0, .ref sb), (1, .ref (s.heap.size + 0)), (2, .ref (s.heap.size + 81)), (3, .int (nI (7 * k)))] := hl
    have next : ∀ (q2 : gS) (H9 : Heap) (locs9 : List Loc) (cells9 slots9 : Nat), I (k + 1) q2 → gRep D ax str s.heap.size q2 H9 → va_S (fun x => s.heap.size ≤ x) s.heap H9 locs9 → cells9 ≤ 300 + 40 * (k + 1) → slots9 ≤ 20000 + 2000 * (k + 1) → W p l e room_1 s m #[Value.ref sb] below meth c H9 locs9 cells9 slots9 (lw_Z below #[Value.ref sb] s) (F0 m 1468 als []) := by
      intro q2 H9 locs9 cells9 slots9 hI2 hR9 hS9 hc9 hs9
      refine lv_iinc (v := nI (7 * (k + 1))) (lv' := [(3, .int (nI (7 * (k + 1)))), (0, .ref sb), (1, .ref (s.heap.size + 0)), (2, .ref (s.heap.size + 81))]) hx hb (gfind_ok glw_ok_17 rfl) hl' (k := 3) rfl (by rw [show Int32.ofInt 7 = nI 7 from rfl, nI_add, Nat.mul_add]) (by decide) rfl (fun ls hls => ?_)
      refine lv_goto hx hb (gfind_ok glw_ok_17 rfl) (tgt := 18) rfl ?_
      exact ih (k + 1) q2 H9 locs9 cells9 slots9 ls (by omega) (by omega) (lv_sub hls [1, 2, 3, 0] rfl) hR9 hS9 hc9 hs9 hI2
    refine lv_aload_n hx hb (gfind_ok glw_ok_0 rfl) rfl (lv_at hl' 0 rfl) ?_
    refine lv_iload_n hx hb (gfind_ok glw_ok_0 rfl) rfl (lv_at hl' 3 rfl) ?_
    refine va_sld hx hb hX hbl hbA hS (vp_in_nI (by omega) (by omega)) (gfind_ok glw_ok_0 rfl) ?_
    refine lv_bipush (v := 63) hx hb (gfind_ok glw_ok_0 rfl) rfl ?_
    refine lv_iand hx hb (gfind_ok glw_ok_0 rfl) ?_
    obtain ⟨t, ht64, het⟩ := pk_andE (xs (nI (7 * k)).toNatClampNeg) (m := 63) 6 (by decide)
    rw [het]
    match t, ht64 with
    | 0, ht =>
      refine lv_tableIn hx hb (gfind_ok glw_ok_0 rfl) (off := 159) (tgt := 192) (by decide) (by decide) rfl rfl ?_
      obtain ⟨v, q1, q2, g1, g2, hI2, ⟨fs1, f1⟩, fs2, f2⟩ := hI.1 k 0 (fun j => xs (7 * k + j)) q hk5 (by decide) hIk
      exact law_case_0 C hl hk7 hR hS g1 g2 f1 f2 (by omega) (by omega) (fun H9 locs9 cells9 slots9 hR9 hS9 hc9 hs9 => next q2 H9 locs9 cells9 slots9 hI2 hR9 hS9 (by omega) (by omega))
    | 1, ht =>
      refine lv_tableIn hx hb (gfind_ok glw_ok_0 rfl) (off := 192) (tgt := 225) (by decide) (by decide) rfl rfl ?_
      obtain ⟨v, q1, q2, g1, g2, hI2, ⟨fs1, f1⟩, fs2, f2⟩ := hI.1 k 1 (fun j => xs (7 * k + j)) q hk5 (by decide) hIk
      exact law_case_1 C hl hk7 hR hS g1 g2 f1 f2 (by omega) (by omega) (fun H9 locs9 cells9 slots9 hR9 hS9 hc9 hs9 => next q2 H9 locs9 cells9 slots9 hI2 hR9 hS9 (by omega) (by omega))
    | 2, ht =>
      refine lv_tableIn hx hb (gfind_ok glw_ok_0 rfl) (off := 255) (tgt := 288) (by decide) (by decide) rfl rfl ?_
      obtain ⟨v, q1, q2, g1, g2, hI2, ⟨fs1, f1⟩, fs2, f2⟩ := hI.1 k 2 (fun j => xs (7 * k + j)) q hk5 (by decide) hIk
      exact law_case_2 C hl hk7 hR hS g1 g2 f1 f2 (by omega) (by omega) (fun H9 locs9 cells9 slots9 hR9 hS9 hc9 hs9 => next q2 H9 locs9 cells9 slots9 hI2 hR9 hS9 (by omega) (by omega))
    | 3, ht =>
      refine lv_tableIn hx hb (gfind_ok glw_ok_0 rfl) (off := 288) (tgt := 321) (by decide) (by decide) rfl rfl ?_
      obtain ⟨v, q1, q2, g1, g2, hI2, ⟨fs1, f1⟩, fs2, f2⟩ := hI.1 k 3 (fun j => xs (7 * k + j)) q hk5 (by decide) hIk
      exact law_case_3 C hl hk7 hR hS g1 g2 f1 f2 (by omega) (by omega) (fun H9 locs9 cells9 slots9 hR9 hS9 hc9 hs9 => next q2 H9 locs9 cells9 slots9 hI2 hR9 hS9 (by omega) (by omega))
    | 4, ht =>
      refine lv_tableIn hx hb (gfind_ok glw_ok_0 rfl) (off := 321) (tgt := 354) (by decide) (by decide) rfl rfl ?_
      obtain ⟨v, q1, q2, g1, g2, hI2, ⟨fs1, f1⟩, fs2, f2⟩ := hI.1 k 4 (fun j => xs (7 * k + j)) q hk5 (by decide) hIk
      exact law_case_4 C hl hk7 hR hS g1 g2 f1 f2 (by omega) (by omega) (fun H9 locs9 cells9 slots9 hR9 hS9 hc9 hs9 => next q2 H9 locs9 cells9 slots9 hI2 hR9 hS9 (by omega) (by omega))
    | 5, ht =>
      refine lv_tableIn hx hb (gfind_ok glw_ok_0 rfl) (off := 334) (tgt := 367) (by decide) (by decide) rfl rfl ?_
      obtain ⟨v, q1, q2, g1, g2, hI2, ⟨fs1, f1⟩, fs2, f2⟩ := hI.1 k 5 (fun j => xs (7 * k + j)) q hk5 (by decide) hIk
      exact law_case_5 C hl hk7 hR hS g1 g2 f1 f2 (by omega) (by omega) (fun H9 locs9 cells9 slots9 hR9 hS9 hc9 hs9 => next q2 H9 locs9 cells9 slots9 hI2 hR9 hS9 (by omega) (by omega))
    | 6, ht =>
      refine lv_tableIn hx hb (gfind_ok glw_ok_0 rfl) (off := 347) (tgt := 380) (by decide) (by decide) rfl rfl ?_
      obtain ⟨v, q1, q2, g1, g2, hI2, ⟨fs1, f1⟩, fs2, f2⟩ := hI.1 k 6 (fun j => xs (7 * k + j)) q hk5 (by decide) hIk
      exact law_case_6 C hl hk7 hR hS g1 g2 f1 f2 (by omega) (by omega) (fun H9 locs9 cells9 slots9 hR9 hS9 hc9 hs9 => next q2 H9 locs9 cells9 slots9 hI2 hR9 hS9 (by omega) (by omega))
    | 7, ht =>
      refine lv_tableIn hx hb (gfind_ok glw_ok_0 rfl) (off := 380) (tgt := 413) (by decide) (by decide) rfl rfl ?_
      obtain ⟨v, q1, q2, g1, g2, hI2, ⟨fs1, f1⟩, fs2, f2⟩ := hI.1 k 7 (fun j => xs (7 * k + j)) q hk5 (by decide) hIk
      exact law_case_7 C hl hk7 hR hS g1 g2 f1 f2 (by omega) (by omega) (fun H9 locs9 cells9 slots9 hR9 hS9 hc9 hs9 => next q2 H9 locs9 cells9 slots9 hI2 hR9 hS9 (by omega) (by omega))
    | 8, ht =>
      refine lv_tableIn hx hb (gfind_ok glw_ok_0 rfl) (off := 433) (tgt := 466) (by decide) (by decide) rfl rfl ?_
      obtain ⟨v, q1, q2, g1, g2, hI2, ⟨fs1, f1⟩, fs2, f2⟩ := hI.1 k 8 (fun j => xs (7 * k + j)) q hk5 (by decide) hIk
      exact law_case_8 C hl hk7 hR hS g1 g2 f1 f2 (by omega) (by omega) (fun H9 locs9 cells9 slots9 hR9 hS9 hc9 hs9 => next q2 H9 locs9 cells9 slots9 hI2 hR9 hS9 (by omega) (by omega))
    | 9, ht =>
      refine lv_tableIn hx hb (gfind_ok glw_ok_0 rfl) (off := 466) (tgt := 499) (by decide) (by decide) rfl rfl ?_
      obtain ⟨v, q1, q2, g1, g2, hI2, ⟨fs1, f1⟩, fs2, f2⟩ := hI.1 k 9 (fun j => xs (7 * k + j)) q hk5 (by decide) hIk
      exact law_case_9 C hl hk7 hR hS g1 g2 f1 f2 (by omega) (by omega) (fun H9 locs9 cells9 slots9 hR9 hS9 hc9 hs9 => next q2 H9 locs9 cells9 slots9 hI2 hR9 hS9 (by omega) (by omega))
    | 10, ht =>
      refine lv_tableIn hx hb (gfind_ok glw_ok_0 rfl) (off := 489) (tgt := 522) (by decide) (by decide) rfl rfl ?_
      obtain ⟨v, q1, q2, g1, g2, hI2, ⟨fs1, f1⟩, fs2, f2⟩ := hI.1 k 10 (fun j => xs (7 * k + j)) q hk5 (by decide) hIk
      exact law_case_10 C hl hk7 hR hS g1 g2 f1 f2 (by omega) (by omega) (fun H9 locs9 cells9 slots9 hR9 hS9 hc9 hs9 => next q2 H9 locs9 cells9 slots9 hI2 hR9 hS9 (by omega) (by omega))
    | 11, ht =>
      refine lv_tableIn hx hb (gfind_ok glw_ok_0 rfl) (off := 522) (tgt := 555) (by decide) (by decide) rfl rfl ?_
      obtain ⟨v, q1, q2, g1, g2, hI2, ⟨fs1, f1⟩, fs2, f2⟩ := hI.1 k 11 (fun j => xs (7 * k + j)) q hk5 (by decide) hIk
      exact law_case_11 C hl hk7 hR hS g1 g2 f1 f2 (by omega) (by omega) (fun H9 locs9 cells9 slots9 hR9 hS9 hc9 hs9 => next q2 H9 locs9 cells9 slots9 hI2 hR9 hS9 (by omega) (by omega))
    | 12, ht =>
      refine lv_tableIn hx hb (gfind_ok glw_ok_0 rfl) (off := 565) (tgt := 598) (by decide) (by decide) rfl rfl ?_
      obtain ⟨v, q1, q2, g1, g2, hI2, ⟨fs1, f1⟩, fs2, f2⟩ := hI.1 k 12 (fun j => xs (7 * k + j)) q hk5 (by decide) hIk
      exact law_case_12 C hl hk7 hR hS g1 g2 f1 f2 (by omega) (by omega) (fun H9 locs9 cells9 slots9 hR9 hS9 hc9 hs9 => next q2 H9 locs9 cells9 slots9 hI2 hR9 hS9 (by omega) (by omega))
    | 13, ht =>
      refine lv_tableIn hx hb (gfind_ok glw_ok_0 rfl) (off := 598) (tgt := 631) (by decide) (by decide) rfl rfl ?_
      obtain ⟨v, q1, q2, g1, g2, hI2, ⟨fs1, f1⟩, fs2, f2⟩ := hI.1 k 13 (fun j => xs (7 * k + j)) q hk5 (by decide) hIk
      exact law_case_13 C hl hk7 hR hS g1 g2 f1 f2 (by omega) (by omega) (fun H9 locs9 cells9 slots9 hR9 hS9 hc9 hs9 => next q2 H9 locs9 cells9 slots9 hI2 hR9 hS9 (by omega) (by omega))
    | 14, ht =>
      refine lv_tableIn hx hb (gfind_ok glw_ok_0 rfl) (off := 631) (tgt := 664) (by decide) (by decide) rfl rfl ?_
      obtain ⟨v, q1, q2, g1, g2, hI2, ⟨fs1, f1⟩, fs2, f2⟩ := hI.1 k 14 (fun j => xs (7 * k + j)) q hk5 (by decide) hIk
      exact law_case_14 C hl hk7 hR hS g1 g2 f1 f2 (by omega) (by omega) (fun H9 locs9 cells9 slots9 hR9 hS9 hc9 hs9 => next q2 H9 locs9 cells9 slots9 hI2 hR9 hS9 (by omega) (by omega))
    | 15, ht =>
      refine lv_tableIn hx hb (gfind_ok glw_ok_0 rfl) (off := 680) (tgt := 713) (by decide) (by decide) rfl rfl ?_
      obtain ⟨v, q1, q2, g1, g2, hI2, ⟨fs1, f1⟩, fs2, f2⟩ := hI.1 k 15 (fun j => xs (7 * k + j)) q hk5 (by decide) hIk
      exact law_case_15 C hl hk7 hR hS g1 g2 f1 f2 (by omega) (by omega) (fun H9 locs9 cells9 slots9 hR9 hS9 hc9 hs9 => next q2 H9 locs9 cells9 slots9 hI2 hR9 hS9 (by omega) (by omega))
    | 16, ht =>
      refine lv_tableIn hx hb (gfind_ok glw_ok_0 rfl) (off := 713) (tgt := 746) (by decide) (by decide) rfl rfl ?_
      obtain ⟨v, q1, q2, g1, g2, hI2, ⟨fs1, f1⟩, fs2, f2⟩ := hI.1 k 16 (fun j => xs (7 * k + j)) q hk5 (by decide) hIk
      exact law_case_16 C hl hk7 hR hS g1 g2 f1 f2 (by omega) (by omega) (fun H9 locs9 cells9 slots9 hR9 hS9 hc9 hs9 => next q2 H9 locs9 cells9 slots9 hI2 hR9 hS9 (by omega) (by omega))
    | 17, ht =>
      refine lv_tableIn hx hb (gfind_ok glw_ok_0 rfl) (off := 756) (tgt := 789) (by decide) (by decide) rfl rfl ?_
      obtain ⟨v, q1, q2, g1, g2, hI2, ⟨fs1, f1⟩, fs2, f2⟩ := hI.1 k 17 (fun j => xs (7 * k + j)) q hk5 (by decide) hIk
      exact law_case_17 C hl hk7 hR hS g1 g2 f1 f2 (by omega) (by omega) (fun H9 locs9 cells9 slots9 hR9 hS9 hc9 hs9 => next q2 H9 locs9 cells9 slots9 hI2 hR9 hS9 (by omega) (by omega))
    | 18, ht =>
      refine lv_tableIn hx hb (gfind_ok glw_ok_0 rfl) (off := 789) (tgt := 822) (by decide) (by decide) rfl rfl ?_
      obtain ⟨v, q1, q2, g1, g2, hI2, ⟨fs1, f1⟩, fs2, f2⟩ := hI.1 k 18 (fun j => xs (7 * k + j)) q hk5 (by decide) hIk
      exact law_case_18 C hl hk7 hR hS g1 g2 f1 f2 (by omega) (by omega) (fun H9 locs9 cells9 slots9 hR9 hS9 hc9 hs9 => next q2 H9 locs9 cells9 slots9 hI2 hR9 hS9 (by omega) (by omega))
    | 19, ht =>
      refine lv_tableIn hx hb (gfind_ok glw_ok_0 rfl) (off := 812) (tgt := 845) (by decide) (by decide) rfl rfl ?_
      obtain ⟨v, q1, q2, g1, g2, hI2, ⟨fs1, f1⟩, fs2, f2⟩ := hI.1 k 19 (fun j => xs (7 * k + j)) q hk5 (by decide) hIk
      exact law_case_19 C hl hk7 hR hS g1 g2 f1 f2 (by omega) (by omega) (fun H9 locs9 cells9 slots9 hR9 hS9 hc9 hs9 => next q2 H9 locs9 cells9 slots9 hI2 hR9 hS9 (by omega) (by omega))
    | 20, ht =>
      refine lv_tableIn hx hb (gfind_ok glw_ok_0 rfl) (off := 865) (tgt := 898) (by decide) (by decide) rfl rfl ?_
      obtain ⟨v, q1, q2, g1, g2, hI2, ⟨fs1, f1⟩, fs2, f2⟩ := hI.1 k 20 (fun j => xs (7 * k + j)) q hk5 (by decide) hIk
      exact law_case_20 C hl hk7 hR hS g1 g2 f1 f2 (by omega) (by omega) (fun H9 locs9 cells9 slots9 hR9 hS9 hc9 hs9 => next q2 H9 locs9 cells9 slots9 hI2 hR9 hS9 (by omega) (by omega))
    | 21, ht =>
      refine lv_tableIn hx hb (gfind_ok glw_ok_0 rfl) (off := 888) (tgt := 921) (by decide) (by decide) rfl rfl ?_
      obtain ⟨v, q1, q2, g1, g2, hI2, ⟨fs1, f1⟩, fs2, f2⟩ := hI.1 k 21 (fun j => xs (7 * k + j)) q hk5 (by decide) hIk
      exact law_case_21 C hl hk7 hR hS g1 g2 f1 f2 (by omega) (by omega) (fun H9 locs9 cells9 slots9 hR9 hS9 hc9 hs9 => next q2 H9 locs9 cells9 slots9 hI2 hR9 hS9 (by omega) (by omega))
    | 22, ht =>
      refine lv_tableIn hx hb (gfind_ok glw_ok_0 rfl) (off := 901) (tgt := 934) (by decide) (by decide) rfl rfl ?_
      obtain ⟨v, q1, q2, g1, g2, hI2, ⟨fs1, f1⟩, fs2, f2⟩ := hI.1 k 22 (fun j => xs (7 * k + j)) q hk5 (by decide) hIk
      exact law_case_22 C hl hk7 hR hS g1 g2 f1 f2 (by omega) (by omega) (fun H9 locs9 cells9 slots9 hR9 hS9 hc9 hs9 => next q2 H9 locs9 cells9 slots9 hI2 hR9 hS9 (by omega) (by omega))
    | 23, ht =>
      refine lv_tableIn hx hb (gfind_ok glw_ok_0 rfl) (off := 914) (tgt := 947) (by decide) (by decide) rfl rfl ?_
      obtain ⟨v, q1, q2, g1, g2, hI2, ⟨fs1, f1⟩, fs2, f2⟩ := hI.1 k 23 (fun j => xs (7 * k + j)) q hk5 (by decide) hIk
      exact law_case_23 C hl hk7 hR hS g1 g2 f1 f2 (by omega) (by omega) (fun H9 locs9 cells9 slots9 hR9 hS9 hc9 hs9 => next q2 H9 locs9 cells9 slots9 hI2 hR9 hS9 (by omega) (by omega))
    | 24, ht =>
      refine lv_tableIn hx hb (gfind_ok glw_ok_0 rfl) (off := 947) (tgt := 980) (by decide) (by decide) rfl rfl ?_
      obtain ⟨v, q1, q2, g1, g2, hI2, ⟨fs1, f1⟩, fs2, f2⟩ := hI.1 k 24 (fun j => xs (7 * k + j)) q hk5 (by decide) hIk
      exact law_case_24 C hl hk7 hR hS g1 g2 f1 f2 (by omega) (by omega) (fun H9 locs9 cells9 slots9 hR9 hS9 hc9 hs9 => next q2 H9 locs9 cells9 slots9 hI2 hR9 hS9 (by omega) (by omega))
    | 25, ht =>
      refine lv_tableIn hx hb (gfind_ok glw_ok_0 rfl) (off := 970) (tgt := 1003) (by decide) (by decide) rfl rfl ?_
      obtain ⟨v, q1, q2, g1, g2, hI2, ⟨fs1, f1⟩, fs2, f2⟩ := hI.1 k 25 (fun j => xs (7 * k + j)) q hk5 (by decide) hIk
      exact law_case_25 C hl hk7 hR hS g1 g2 f1 f2 (by omega) (by omega) (fun H9 locs9 cells9 slots9 hR9 hS9 hc9 hs9 => next q2 H9 locs9 cells9 slots9 hI2 hR9 hS9 (by omega) (by omega))
    | 26, ht =>
      refine lv_tableIn hx hb (gfind_ok glw_ok_0 rfl) (off := 1013) (tgt := 1046) (by decide) (by decide) rfl rfl ?_
      obtain ⟨v, q1, q2, g1, g2, hI2, ⟨fs1, f1⟩, fs2, f2⟩ := hI.1 k 26 (fun j => xs (7 * k + j)) q hk5 (by decide) hIk
      exact law_case_26 C hl hk7 hR hS g1 g2 f1 f2 (by omega) (by omega) (fun H9 locs9 cells9 slots9 hR9 hS9 hc9 hs9 => next q2 H9 locs9 cells9 slots9 hI2 hR9 hS9 (by omega) (by omega))
    | 27, ht =>
      refine lv_tableIn hx hb (gfind_ok glw_ok_0 rfl) (off := 1046) (tgt := 1079) (by decide) (by decide) rfl rfl ?_
      obtain ⟨v, q1, q2, g1, g2, hI2, ⟨fs1, f1⟩, fs2, f2⟩ := hI.1 k 27 (fun j => xs (7 * k + j)) q hk5 (by decide) hIk
      exact law_case_27 C hl hk7 hR hS g1 g2 f1 f2 (by omega) (by omega) (fun H9 locs9 cells9 slots9 hR9 hS9 hc9 hs9 => next q2 H9 locs9 cells9 slots9 hI2 hR9 hS9 (by omega) (by omega))
    | 28, ht =>
      refine lv_tableIn hx hb (gfind_ok glw_ok_0 rfl) (off := 1121) (tgt := 1154) (by decide) (by decide) rfl rfl ?_
      obtain ⟨v, q1, q2, g1, g2, hI2, ⟨fs1, f1⟩, fs2, f2⟩ := hI.1 k 28 (fun j => xs (7 * k + j)) q hk5 (by decide) hIk
      exact law_case_28 C hl hk7 hR hS g1 g2 f1 f2 (by omega) (by omega) (fun H9 locs9 cells9 slots9 hR9 hS9 hc9 hs9 => next q2 H9 locs9 cells9 slots9 hI2 hR9 hS9 (by omega) (by omega))
    | 29, ht =>
      refine lv_tableIn hx hb (gfind_ok glw_ok_0 rfl) (off := 1184) (tgt := 1217) (by decide) (by decide) rfl rfl ?_
      obtain ⟨v, q1, q2, g1, g2, hI2, ⟨fs1, f1⟩, fs2, f2⟩ := hI.1 k 29 (fun j => xs (7 * k + j)) q hk5 (by decide) hIk
      exact law_case_29 C hl hk7 hR hS g1 g2 f1 f2 (by omega) (by omega) (fun H9 locs9 cells9 slots9 hR9 hS9 hc9 hs9 => next q2 H9 locs9 cells9 slots9 hI2 hR9 hS9 (by omega) (by omega))
    | 30, ht =>
      refine lv_tableIn hx hb (gfind_ok glw_ok_0 rfl) (off := 1247) (tgt := 1280) (by decide) (by decide) rfl rfl ?_
      obtain ⟨v, q1, q2, g1, g2, hI2, ⟨fs1, f1⟩, fs2, f2⟩ := hI.1 k 30 (fun j => xs (7 * k + j)) q hk5 (by decide) hIk
      exact law_case_30 C hl hk7 hR hS g1 g2 f1 f2 (by omega) (by omega) (fun H9 locs9 cells9 slots9 hR9 hS9 hc9 hs9 => next q2 H9 locs9 cells9 slots9 hI2 hR9 hS9 (by omega) (by omega))
    | 31, ht =>
      refine lv_tableIn hx hb (gfind_ok glw_ok_0 rfl) (off := 1260) (tgt := 1293) (by decide) (by decide) rfl rfl ?_
      obtain ⟨v, q1, q2, g1, g2, hI2, ⟨fs1, f1⟩, fs2, f2⟩ := hI.1 k 31 (fun j => xs (7 * k + j)) q hk5 (by decide) hIk
      exact law_case_31 C hl hk7 hR hS g1 g2 f1 f2 (by omega) (by omega) (fun H9 locs9 cells9 slots9 hR9 hS9 hc9 hs9 => next q2 H9 locs9 cells9 slots9 hI2 hR9 hS9 (by omega) (by omega))
    | 32, ht =>
      refine lv_tableIn hx hb (gfind_ok glw_ok_0 rfl) (off := 1283) (tgt := 1316) (by decide) (by decide) rfl rfl ?_
      obtain ⟨v, q1, q2, g1, g2, hI2, ⟨fs1, f1⟩, fs2, f2⟩ := hI.1 k 32 (fun j => xs (7 * k + j)) q hk5 (by decide) hIk
      exact law_case_32 C hl hk7 hR hS g1 g2 f1 f2 (by omega) (by omega) (fun H9 locs9 cells9 slots9 hR9 hS9 hc9 hs9 => next q2 H9 locs9 cells9 slots9 hI2 hR9 hS9 (by omega) (by omega))
    | 33, ht =>
      refine lv_tableIn hx hb (gfind_ok glw_ok_0 rfl) (off := 1326) (tgt := 1359) (by decide) (by decide) rfl rfl ?_
      obtain ⟨v, q1, q2, g1, g2, hI2, ⟨fs1, f1⟩, fs2, f2⟩ := hI.1 k 33 (fun j => xs (7 * k + j)) q hk5 (by decide) hIk
      exact law_case_33 C hl hk7 hR hS g1 g2 f1 f2 (by omega) (by omega) (fun H9 locs9 cells9 slots9 hR9 hS9 hc9 hs9 => next q2 H9 locs9 cells9 slots9 hI2 hR9 hS9 (by omega) (by omega))
    | 34, ht =>
      refine lv_tableIn hx hb (gfind_ok glw_ok_0 rfl) (off := 1369) (tgt := 1402) (by decide) (by decide) rfl rfl ?_
      obtain ⟨v, q1, q2, g1, g2, hI2, ⟨fs1, f1⟩, fs2, f2⟩ := hI.1 k 34 (fun j => xs (7 * k + j)) q hk5 (by decide) hIk
      exact law_case_34 C hl hk7 hR hS g1 g2 f1 f2 (by omega) (by omega) (fun H9 locs9 cells9 slots9 hR9 hS9 hc9 hs9 => next q2 H9 locs9 cells9 slots9 hI2 hR9 hS9 (by omega) (by omega))
    | 35, ht =>
      refine lv_tableIn hx hb (gfind_ok glw_ok_0 rfl) (off := 1412) (tgt := 1445) (by decide) (by decide) rfl rfl ?_
      obtain ⟨v, q1, q2, g1, g2, hI2, ⟨fs1, f1⟩, fs2, f2⟩ := hI.1 k 35 (fun j => xs (7 * k + j)) q hk5 (by decide) hIk
      exact law_case_35 C hl hk7 hR hS g1 g2 f1 f2 (by omega) (by omega) (fun H9 locs9 cells9 slots9 hR9 hS9 hc9 hs9 => next q2 H9 locs9 cells9 slots9 hI2 hR9 hS9 (by omega) (by omega))
    | t + 36, ht =>
      refine lv_tableOut hx hb (gfind_ok glw_ok_0 rfl) (tgt := 1468) (Or.inr (by rw [nI_toInt (by omega)]; omega)) rfl ?_
      exact next q H locs cells slots (hI.2 k q hk5 hIk) hR hS (by omega) (by omega)
