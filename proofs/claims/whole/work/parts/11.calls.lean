/-! ===== soundness: one instruction ===== -/
def gCx (p : Program) (R : Room) (s : State) (m : MethodId) (args : Array Value) (meth : Method) (c : Code) (cc : ByteArray) (o : Nat) (ini : Bool) (rt : Option FieldType) (mx mc ms : Nat) (D : va_G) (ax : Nat → ClassId) (str : Nat → Nat) (b : Nat) (q0 : gS) : Prop :=
  p.tables.exec = Jvm.exec ∧ c.code = cc ∧ c.maxLocals = mx ∧ (∀ w ∈ gT, w.before args s = true) ∧ s.vm.findClass (gnm o) = some m.cls ∧ genv D ax str s ∧ gstr str b s s.heap ∧ (ini = true → meth.name = "<init>") ∧ meth.sig.returnType = rt ∧ meth.locks = false ∧ (R.cells = mc ∧ R.slots = ms ∧ 1 ≤ R.frames ∧ 40 ≤ R.locals) ∧ s.heap.size = b + q0.1.2
def gWp (p : Program) (l : Launch) (e : Env) (R : Room) (s : State) (m : MethodId) (args : Array Value) (below : List Frame) (meth : Method) (c : Code) (mx mc ms : Nat) (D : va_G) (ax : Nat → ClassId) (str : Nat → Nat) (b : Nat) (q0 : gS) (Q : State → Prop) (pc : Nat) (ls : gL) (st : List Value) (q : gS) (bd : Nat × Nat) : Prop :=
  ∀ (H : Heap) (locs : List Loc) (cells slots : Nat) (als : Array Slot), lv_has als mx (gas b str 0 ls) → gRep D ax str b q H → va_S (gA b q0.1) s.heap H locs → (∀ x, gA b q.1 x → gA b q0.1 x) → cells + bd.1 ≤ mc → slots + bd.2 ≤ ms → W p l e R s m args below meth c H locs cells slots Q (F0 m pc als (st.map (genc b str)))
/-- a call of a method of the table, by its contract -/
def gMet (l : Launch) (D : va_G) (ax : Nat → ClassId) (str : Nat → Nat) (b d n : Nat) (as : List Value) (q : gS) (r : Option Value × gS) : Prop :=
  ∀ x, gnth gtab n = some x → Met l x.1.1 (.code x.1.1 x.1.2.1 x.1.2.2.1 x.1.2.2.2 :: gT) (grm d x.2.2.1.2.2.1 x.2.2.1.2.2.2) (gPc D ax str b as q) (gQc D ax str b q r) x.2.2.1.2.2.1 x.2.2.1.2.2.2 (gA b q.1)
theorem g_run {p : Program} {l : Launch} {e : Env} {R : Room} {s : State} {m : MethodId} {args : Array Value} {below : List Frame} {meth : Method} {c : Code} {H H0 : Heap} {locs : List Loc} {cells slots mc ms : Nat} {Q : State → Prop} {pc : Nat} {als : Array Slot} {st0 rest : List Value} {D : va_G} {ax : Nat → ClassId} {str : Nat → Nat} {b : Nat} {A : Nat → Prop} {q : gS} {r : Option Value × gS} {a : Array Value}
    (hr : va_Run p l e R s m args below meth c H locs cells slots mc ms (F0 m pc als st0) rest (gQc D ax str b q r a) (gA b q.1)) (hS : va_S A H0 H locs) (hA : ∀ x, gA b q.1 x → A x)
    (kk : ∀ (H1 : Heap) (locs1 : List Loc), gRep D ax str b r.2 H1 → va_S A H0 H1 locs1 → (∀ x, gA b r.2.1 x → A x) → W p l e R s m args below meth c H1 locs1 (cells + mc) (slots + ms) Q (F0 m (pc + 3) als ((r.1.map (genc b str)).toList ++ rest))) : W p l e R s m args below meth c H locs cells slots Q (F0 m pc als st0) := by
  intro T hT X
  obtain ⟨v, st₀, t, T', L, h0, X', hL, e1, e2, ⟨ho, hR, hsb, hz, hk⟩, st⟩ := hr T hT X
  have hv : v = r.1.map (genc b str) := Outcome.returned.inj ho
  subst hv
  rw [h0] at hz hk
  obtain ⟨t2, a1, b1⟩ := kk T'.heap (locs ++ L) (by rw [e1]; exact hR)
    ⟨Nat.le_trans hS.1 (by rw [e1]; exact hz), fun x h1 h2 => by rw [e1, hk x (Nat.lt_of_lt_of_le h1 hS.1) (fun z => h2 (hA x z))]; exact hS.2.1 x h1 h2, fun x hx => by
      rcases List.mem_append.mp hx with h | h
      · exact hS.2.2 x h
      · exact hA _ (hL x h)⟩ (fun x h => hA x (hsb x h)) T' rfl X'
  exact ⟨t2, st t2 a1, b1⟩
theorem gst_map (b : Nat) (str : Nat → Nat) (v : Option Value) (st : List Value) : (v.toList ++ st).map (genc b str) = (v.map (genc b str)).toList ++ st.map (genc b str) := by
  cases v <;> rfl
theorem gA_b {b : Nat} {sh : gH} {x : Nat} (h : gA b sh x) : b ≤ x := by
  obtain ⟨id, rfl, -⟩ := h
  omega
theorem gnew {b : Nat} {q0 : gS} {H0 : Heap} (hsz : H0.size = b + q0.1.2) : ∀ x, H0.size ≤ x → gA b q0.1 x := fun x h => ⟨x - b, by omega, Or.inl (by omega)⟩
theorem gstr_now {str : Nat → Nat} {b : Nat} {s U : State} {q0 : gS} {H : Heap} {locs : List Loc} (hW : s.WarmedH U.vm) (hZ : gstr str b s s.heap) (hS : va_S (gA b q0.1) s.heap H locs) : gstr str b U H := by
  obtain ⟨⟨adV, h⟩, h5, h6⟩ := hZ
  have hk : ∀ a : Nat, a < s.heap.size → ¬ b ≤ a → H[a]? = s.heap[a]? := fun a h1 h2 => hS.2.1 a h1 (fun z => h2 (gA_b z))
  exact ⟨⟨adV, vk_S.moved hW.alike (h.kept hk)⟩, va_Z.moved hW.alike (h5.kept hk), va_Zq.moved hW.alike (h6.kept hk)⟩
theorem gcond {b : Bool} {P : Prop} (h : cond b P False) : b = true ∧ P := by
  cases b with
  | true => exact ⟨rfl, h⟩
  | false => exact (h : False).elim
/-! ===== soundness: arrays that are made, calls ===== -/
theorem gGood {ws : List Cond} (h : ∀ w ∈ ws, w ∈ gT) : GoodIn gT ws := fun w hw => ⟨h w hw, good_of_word (List.mem_filter.mp (h w hw)).2⟩
theorem gmi_of {n a9 nn c1 c2 : Nat} (h : gmi n = some (a9, nn, c1, c2)) : ∃ x, gnth gtab n = some x ∧ x.2.2.1 = (a9, nn, c1, c2) := by
  unfold gmi at h
  split at h
  · rename_i x hx
    exact ⟨x, hx, Option.some.inj h⟩
  · cases h
theorem gpop0 {n : Nat} {st as st' : List Value} {b : Nat} {str : Nat → Nat} (h : gpop n [] st = some (as, st')) : st.map (genc b str) = (as.map (genc b str)).reverse ++ st'.map (genc b str) ∧ (as.map (genc b str)).length = n := by
  obtain ⟨bs, h1, h2, h3⟩ := gpop_spec h
  rw [List.append_nil] at h1
  subst h1
  subst h2
  rw [List.map_append, ← List.map_reverse, List.reverse_reverse, List.length_map, List.length_reverse]
  exact ⟨rfl, h3⟩
/-- a call of a String's method, by its contract -/
def gStrMet (l : Launch) (D : va_G) (ax : Nat → ClassId) (str : Nat → Nat) (b d n : Nat) (as : List Value) (q : gS) (r : Option Value × gS) : Prop := match n with
  | 900 => Met l yJ0_length_8abf5 (.code yJ0_length_8abf5 cJ0_length_8abf5 1 (some .int) :: gT) (grm d 0 0) (gPc D ax str b as q) (gQc D ax str b q r) 0 0 (gA b q.1)
  | _ => Met l yJ0_charAt_5068e (.code yJ0_charAt_5068e cJ0_charAt_5068e 2 (some .char) :: gT) (grm d 0 0) (gPc D ax str b as q) (gQc D ax str b q r) 0 0 (gA b q.1)
section GCALL
variable {p : Program} {l : Launch} {e : Env} {R : Room} {s : State} {m : MethodId} {args : Array Value} {below : List Frame} {meth : Method} {c : Code} {H : Heap} {locs : List Loc} {cells slots : Nat} {Q : State → Prop} {cc : ByteArray} {pc : Nat} {als : Array Slot} {rest : List Value}
variable {o mx mc ms d : Nat} {D : va_G} {ax : Nat → ClassId} {str : Nat → Nat} {b : Nat} {q0 q : gS} {r : Option Value × gS} {bd : Nat × Nat} {st st9 as : List Value} {n i a9 nn c1 c2 a : Nat}
theorem gnewar (hx : p.tables.exec = Jvm.exec) (hb : c.code = cc) (hK : va_K D gcl (gtys ax) s) (hR : gRep D ax str b q H) (hS : va_S (gA b q0.1) s.heap H locs) {kd : Nat} {atype : ArrayType} (hkd : (kd = 0 ∧ atype = .int) ∨ (kd = 1 ∧ atype = .boolean) ∨ (kd = 2 ∧ atype = .long)) (harr : (Cond.arrayClass (newarray.typeOf atype)).before args s = true) (hRc : R.cells = mc) (hRs : R.slots = ms) (hc : cells + bd.1 ≤ mc) (hs : slots + bd.2 ≤ ms) {x : Int32} (hd : decode cc pc = .ok (.newarray atype, 2)) {q' : gS}
    (hq : q' = ((gsh q.1.1 q.1.2 (.inl (kd, x.toNatClampNeg)), q.1.2 + 1), if kd = 2 then (q.2.1, grow q.2.2 q.1.2 (fun _ => 0)) else (grow q.2.1 q.1.2 (fun _ => 0), q.2.2))) {P : Prop} (h : cond (decide (0 ≤ x) && Nat.ble 1 bd.1 && Nat.ble x.toNatClampNeg bd.2 && Nat.ble x.toNatClampNeg 8000) P False)
    (kk : P → 1 ≤ bd.1 → x.toNatClampNeg ≤ bd.2 → ∀ H9 : Heap, gRep D ax str b q' H9 → va_S (gA b q0.1) s.heap H9 locs → W p l e R s m args below meth c H9 locs (cells + 1) (slots + x.toNatClampNeg) Q (F0 m (pc + 2) als (.ref (b + q.1.2) :: rest))) : W p l e R s m args below meth c H locs cells slots Q (F0 m pc als (.int x :: rest)) := by
  cases hbd : (decide (0 ≤ x) && Nat.ble 1 bd.1 && Nat.ble x.toNatClampNeg bd.2 && Nat.ble x.toNatClampNeg 8000) with
  | false =>
    rw [hbd] at h
    exact (h : False).elim
  | true =>
    rw [hbd] at h
    simp only [Bool.and_eq_true, decide_eq_true_eq] at hbd
    obtain ⟨⟨⟨h0, hb1⟩, hb2⟩, hb3⟩ := hbd
    have hb1 := Nat.le_of_ble_eq_true hb1
    have hb2 := Nat.le_of_ble_eq_true hb2
    have hb3 := Nat.le_of_ble_eq_true hb3
    exact g_newa hx hb hK hR hS hkd harr (Int32.not_lt.mpr h0) hb3 (by omega) (by omega) hd hq (kk h hb1 hb2)
theorem gcallS {ps : Nat × Nat × Nat × Nat} (hx : p.tables.exec = Jvm.exec) (hb : c.code = cc) (hml : c.maxLocals = mx) (hts : ∀ w ∈ gT, w.before args s = true) (hown : s.vm.findClass (gnm o) = some m.cls) (hE : genv D ax str s) (hZ : gstr str b s s.heap) (hRf : d + 1 ≤ R.frames ∧ 40 * d + 40 ≤ R.locals) (hRc : R.cells = mc) (hRs : R.slots = ms) (hM : gMet l D ax str b d n as q r) (hd : decode cc pc = .ok (.invokestatic i, 3)) (hq : (o, i, n, 0, ps) ∈ gML)
    (hmi : gmi n = some (a9, nn, c1, c2)) (hpop : gpop nn [] st = some (as, st9)) (hcan : gcan c1 c2 bd st9 = true) (hls : als.size = mx) (hR : gRep D ax str b q H) (hS : va_S (gA b q0.1) s.heap H locs) (hA : ∀ x, gA b q.1 x → gA b q0.1 x) (hc : cells + bd.1 ≤ mc) (hs : slots + bd.2 ≤ ms)
    (kk : ∀ (H9 : Heap) (locs9 : List Loc), gRep D ax str b r.2 H9 → va_S (gA b q0.1) s.heap H9 locs9 → (∀ x, gA b r.2.1 x → gA b q0.1 x) → W p l e R s m args below meth c H9 locs9 (cells + c1) (slots + c2) Q (F0 m (pc + 3) als ((r.1.map (genc b str)).toList ++ st9.map (genc b str)))) : W p l e R s m args below meth c H locs cells slots Q (F0 m pc als (st.map (genc b str))) := by
  obtain ⟨x, hnx, hx9⟩ := gmi_of hmi
  have hP := gtab_ok x (gnth_mem hnx)
  have hw := List.all_eq_true.mp gML_all _ hq
  unfold gmlB at hw
  dsimp only at hw
  rw [hnx] at hw
  simp only [Bool.and_eq_true] at hw
  obtain ⟨w1, w2, w3⟩ := hw
  obtain ⟨g1, g2, g3⟩ := gcan_w hcan
  obtain ⟨hst, hln⟩ := gpop0 (b := b) (str := str) hpop
  have hM := hM x hnx
  obtain ⟨⟨y, by', mxx, rtt⟩, ⟨oo, inn⟩, mm, code⟩ := x
  dsimp only at hx9
  subst hx9
  obtain ⟨p1, p2, p3, p4, p5, -⟩ := hP
  refine g_run (va_runS (As := as.map (genc b str)) (rest := st9.map (genc b str)) ⟨hx, hb, hml, hown, hts⟩ hM (va_cwS nn hts (gGood (fun w hw => ?_)) rfl rfl rfl p3 ⟨hRf.1, ?_⟩) ⟨gPc.blind, fun U hU hW => ⟨rfl, by rw [hU]; exact hR, hE.warm hW, by rw [hU]; exact gstr_now hW hZ hS⟩⟩ rfl hln hls hst (lv_room (by rw [gw_map]; exact g3)) hd ⟨by show cells + c1 ≤ R.cells; omega, by show slots + c2 ≤ R.slots; omega⟩) hS hA kk
  · unfold va_wsS at hw
    rcases List.mem_append.mp hw with hw | hw
    · simp only [List.mem_cons, List.not_mem_nil, or_false] at hw
      rcases hw with rfl | rfl | rfl
      · exact gix_mem w1
      · exact gix_mem w2
      · exact gix_mem w3
    · rcases List.mem_cons.mp hw with rfl | hw
      · exact p1
      · exact hw
  · show 8 + (mxx + 11) + 40 * d ≤ _
    have : mxx ≤ 20 := p5
    omega
theorem gcallV {ps : Nat × Nat × Nat × Nat} {ci : Nat} {fs : List (Option (Option Nat))} (hx : p.tables.exec = Jvm.exec) (hb : c.code = cc) (hml : c.maxLocals = mx) (hts : ∀ w ∈ gT, w.before args s = true) (hown : s.vm.findClass (gnm o) = some m.cls) (hE : genv D ax str s) (hZ : gstr str b s s.heap) (hRf : d + 1 ≤ R.frames ∧ 40 * d + 40 ≤ R.locals) (hRc : R.cells = mc) (hRs : R.slots = ms) (hM : gMet l D ax str b d n (.ref a :: as) q r) (hd : decode cc pc = .ok (.invokevirtual i, 3)) (hq : (o, i, n, 1, ps) ∈ gML)
    (hmi : gmi n = some (ci, nn, c1, c2)) (hpop : gpop nn [] st = some (as, .ref a :: st9)) (hsa : q.1.1 a = some (.inr (.inr (ci, fs)))) (hcan : gcan c1 c2 bd st9 = true) (hls : als.size = mx) (hR : gRep D ax str b q H) (hS : va_S (gA b q0.1) s.heap H locs) (hA : ∀ x, gA b q.1 x → gA b q0.1 x) (hc : cells + bd.1 ≤ mc) (hs : slots + bd.2 ≤ ms)
    (kk : ∀ (H9 : Heap) (locs9 : List Loc), gRep D ax str b r.2 H9 → va_S (gA b q0.1) s.heap H9 locs9 → (∀ x, gA b r.2.1 x → gA b q0.1 x) → W p l e R s m args below meth c H9 locs9 (cells + c1) (slots + c2) Q (F0 m (pc + 3) als ((r.1.map (genc b str)).toList ++ st9.map (genc b str)))) : W p l e R s m args below meth c H locs cells slots Q (F0 m pc als (st.map (genc b str))) := by
  obtain ⟨x, hnx, hx9⟩ := gmi_of hmi
  have hP := gtab_ok x (gnth_mem hnx)
  have hw := List.all_eq_true.mp gML_all _ hq
  unfold gmlB at hw
  dsimp only at hw
  rw [hnx] at hw
  simp only [Bool.and_eq_true, decide_eq_true_eq] at hw
  obtain ⟨w1, w2, w3, w4, w5⟩ := hw
  obtain ⟨g1, g2, g3⟩ := gcan_w hcan
  obtain ⟨hst, hln⟩ := gpop0 (b := b) (str := str) hpop
  have hM := hM x hnx
  obtain ⟨⟨y, by', mxx, rtt⟩, ⟨oo, inn⟩, mm, code⟩ := x
  dsimp only at hx9
  subst hx9
  obtain ⟨p1, p2, p3, p4, p5, -⟩ := hP
  have hrec : ∃ cellB : Cell, H[b + a]? = some cellB ∧ cellB.vm.isStatics = false ∧ s.vm.findClass y.cls = some cellB.cls := by
    obtain ⟨rr, z1, -, cell, z2, z3, z4, -⟩ := hR.2 a _ hsa
    rw [gnth_get, z1] at w5
    have e5 : rr.1 = y.cls := Option.some.inj w5
    exact ⟨cell, z2, by rw [z4]; rfl, by rw [z3, ← e5]; exact (hE.1.1 ci rr z1).2.1⟩
  refine g_run (va_runV (C := y.cls) (b := b + a) (As := as.map (genc b str)) (rest := st9.map (genc b str)) ⟨hx, hb, hml, hown, hts⟩ hM (cwV nn hts (gGood (fun w hw => ?_)) rfl rfl rfl ⟨rfl, p3⟩ ⟨hRf.1, ?_⟩) ⟨gPc.blind, hrec, fun U hU hW => ⟨rfl, by rw [hU]; exact hR, hE.warm hW, by rw [hU]; exact gstr_now hW hZ hS⟩⟩ rfl hln hls hst (lv_room (by rw [gw_map]; exact g3)) hd ⟨by show cells + c1 ≤ R.cells; omega, by show slots + c2 ≤ R.slots; omega⟩) hS hA kk
  · unfold wsV at hw
    rcases List.mem_append.mp hw with hw | hw
    · simp only [List.mem_cons, List.not_mem_nil, or_false] at hw
      rcases hw with rfl | rfl | rfl | rfl
      · exact gix_mem w1
      · exact gix_mem w2
      · exact gix_mem w3
      · exact gix_mem w4
    · rcases List.mem_cons.mp hw with rfl | hw
      · exact p1
      · exact hw
  · show 8 + (mxx + 11) + 40 * d ≤ _
    have : mxx ≤ 20 := p5
    omega
theorem gcallI (hx : p.tables.exec = Jvm.exec) (hb : c.code = cc) (hml : c.maxLocals = mx) (hts : ∀ w ∈ gT, w.before args s = true) (hown : s.vm.findClass (gnm o) = some m.cls) (hE : genv D ax str s) (hZ : gstr str b s s.heap) (hRf : d + 1 ≤ R.frames ∧ 40 * d + 40 ≤ R.locals) (hRc : R.cells = mc) (hRs : R.slots = ms) (hM : gMet l D ax str b d n (.ref a :: as) q r) (hd : decode cc pc = .ok (.invokespecial i, 3)) (hq : gmlk o i n 2 = true ∨ gmlk o i n 3 = true)
    (hmi : gmi n = some (a9, nn, c1, c2)) (hpop : gpop nn [] st = some (as, .ref a :: st9)) (hcan : gcan c1 c2 bd st9 = true) (hls : als.size = mx) (hR : gRep D ax str b q H) (hS : va_S (gA b q0.1) s.heap H locs) (hA : ∀ x, gA b q.1 x → gA b q0.1 x) (hc : cells + bd.1 ≤ mc) (hs : slots + bd.2 ≤ ms)
    (kk : ∀ (H9 : Heap) (locs9 : List Loc), gRep D ax str b r.2 H9 → va_S (gA b q0.1) s.heap H9 locs9 → (∀ x, gA b r.2.1 x → gA b q0.1 x) → W p l e R s m args below meth c H9 locs9 (cells + c1) (slots + c2) Q (F0 m (pc + 3) als ((r.1.map (genc b str)).toList ++ st9.map (genc b str)))) : W p l e R s m args below meth c H locs cells slots Q (F0 m pc als (st.map (genc b str))) := by
  obtain ⟨x, hnx, hx9⟩ := gmi_of hmi
  have hP := gtab_ok x (gnth_mem hnx)
  obtain ⟨g1, g2, g3⟩ := gcan_w hcan
  obtain ⟨hst, hln⟩ := gpop0 (b := b) (str := str) hpop
  have hM := hM x hnx
  have hpre : PreS s H (gPc D ax str b (.ref a :: as) q) (.ref (b + a) :: as.map (genc b str)) := ⟨gPc.blind, fun U hU hW => ⟨rfl, by rw [hU]; exact hR, hE.warm hW, by rw [hU]; exact gstr_now hW hZ hS⟩⟩
  rcases hq with hq | hq
  · obtain ⟨ps, hq⟩ := gmlk_mem hq
    have hw := List.all_eq_true.mp gML_all _ hq
    unfold gmlB at hw
    dsimp only at hw
    rw [hnx] at hw
    simp only [Bool.and_eq_true] at hw
    obtain ⟨w1, w2, w4, w5⟩ := hw
    obtain ⟨⟨y, by', mxx, rtt⟩, ⟨oo, inn⟩, mm, code⟩ := x
    dsimp only at hx9 w5
    subst hx9
    obtain ⟨p1, p2, p3, p4, p5, p6, p7, -⟩ := hP
    have e7 : rtt = none := p7 w5
    subst e7
    refine g_run (va_runI (b := b + a) (As := as.map (genc b str)) (rest := st9.map (genc b str)) ⟨hx, hb, hml, hown, hts⟩ hM (cwI nn hts (gGood (fun w hw => ?_)) rfl rfl rfl (hts _ (gix_mem w4)) (hts _ (gix_mem w1)) (hts _ (gix_mem w2)) (p6 w5) p3 ⟨hRf.1, ?_⟩) hpre rfl hln hls hst (lv_room (by rw [gw_map]; exact g3)) hd ⟨by show cells + c1 ≤ R.cells; omega, by show slots + c2 ≤ R.slots; omega⟩) hS hA kk
    · rcases List.mem_cons.mp hw with rfl | hw
      · exact p1
      · exact hw
    · show 8 + (mxx + 11) + 40 * d ≤ _
      have : mxx ≤ 20 := p5
      omega
  · obtain ⟨ps, hq⟩ := gmlk_mem hq
    have hw := List.all_eq_true.mp gML_all _ hq
    have hN := hE.2.1 _ hq rfl x hnx
    unfold gmlB at hw
    dsimp only at hw
    rw [hnx] at hw
    simp only [Bool.and_eq_true] at hw
    obtain ⟨w2, w4, w5⟩ := hw
    obtain ⟨⟨y, by', mxx, rtt⟩, ⟨oo, inn⟩, mm, code⟩ := x
    dsimp only at hx9 w5 hN
    subst hx9
    obtain ⟨p1, p2, p3, p4, p5, p6, p7, -⟩ := hP
    have e7 : rtt = none := p7 w5
    subst e7
    refine g_run (va_runIN (host := RX11) (b := b + a) (As := as.map (genc b str)) (rest := st9.map (genc b str)) ⟨hx, hb, hml, hown, hts⟩ hM ⟨va_cnB nn hts (gGood (fun w hw => ?_)) rfl rfl rfl hN (hts _ (gix_mem w4)) p3 ⟨hRf.1, ?_⟩, p6 w5, hts _ (gix_mem w2)⟩ hpre rfl hln hls hst (lv_room (by rw [gw_map]; exact g3)) hd ⟨by show cells + c1 ≤ R.cells; omega, by show slots + c2 ≤ R.slots; omega⟩) hS hA kk
    · rcases List.mem_cons.mp hw with rfl | hw
      · exact p1
      · exact hw
    · show 8 + (mxx + 11) + 40 * d ≤ _
      have : mxx ≤ 20 := p5
      omega
end GCALL
