/-! ===== soundness: calls of a String constant's methods; what gstep is at the builtins ===== -/
theorem gcallT {p : Program} {l : Launch} {e : Env} {R : Room} {s : State} {m : MethodId} {args : Array Value} {below : List Frame} {meth : Method} {c : Code} {H : Heap} {locs : List Loc} {cells slots : Nat} {Q : State → Prop} {cc : ByteArray} {pc : Nat} {als : Array Slot} {o mx mc ms d : Nat} {D : va_G} {ax : Nat → ClassId} {str : Nat → Nat} {b : Nat} {q0 q : gS} {r : Option Value × gS} {bd : Nat × Nat} {st9 as : List Value} {i nn j : Nat} {y : MethodName} {cy : ByteArray} {mxx : Nat} {rtt : Option FieldType}
    (hx : p.tables.exec = Jvm.exec) (hb : c.code = cc) (hml : c.maxLocals = mx) (hts : ∀ w ∈ gT, w.before args s = true) (hown : s.vm.findClass (gnm o) = some m.cls) (hE : genv D ax str s) (hZ : gstr str b s s.heap) (hRf : d + 1 ≤ R.frames ∧ 40 * d + 40 ≤ R.locals) (hRc : R.cells = mc) (hRs : R.slots = ms)
    (hM : Met l y (.code y cy mxx rtt :: gT) (grm d 0 0) (gPc D ax str b (.retAddr j :: as) q) (gQc D ax str b q r) 0 0 (gA b q.1)) (hj : j < 7) (hd : decode cc pc = .ok (.invokevirtual i, 3))
    (w1 : Cond.methodLink (gnm o) i y ∈ gT) (w2 : Cond.instanceMethod y ∈ gT) (w3 : Cond.selects "java/lang/String" y y ∈ gT) (w4 : Cond.initialized "java/lang/String" ∈ gT) (p1 : Cond.code y cy mxx rtt ∈ gT) (hcls : y.cls = "java/lang/String") (p3 : y.cls ≠ "java/lang/invoke/MethodHandle" ∧ y.cls ≠ "java/lang/invoke/VarHandle" ∧ (parseMethodDescriptor y.desc).map (fun d => d.parameters.length) = some nn) (p5 : mxx ≤ 20)
    (hln : as.length = nn) (hcan : gcan 0 0 bd st9 = true) (hls : als.size = mx) (hR : gRep D ax str b q H) (hS : va_S (gA b q0.1) s.heap H locs) (hA : ∀ x, gA b q.1 x → gA b q0.1 x) (hc : cells + bd.1 ≤ mc) (hs : slots + bd.2 ≤ ms)
    (kk : ∀ (H9 : Heap) (locs9 : List Loc), gRep D ax str b r.2 H9 → va_S (gA b q0.1) s.heap H9 locs9 → (∀ x, gA b r.2.1 x → gA b q0.1 x) → W p l e R s m args below meth c H9 locs9 (cells + 0) (slots + 0) Q (F0 m (pc + 3) als ((r.1.map (genc b str)).toList ++ st9.map (genc b str)))) : W p l e R s m args below meth c H locs cells slots Q (F0 m pc als ((as.map (genc b str)).reverse ++ .ref (str j) :: st9.map (genc b str))) := by
  obtain ⟨g1, g2, g3⟩ := gcan_w hcan
  have hrec : ∃ cellB : Cell, H[str j]? = some cellB ∧ cellB.vm.isStatics = false ∧ s.vm.findClass y.cls = some cellB.cls := by
    obtain ⟨⟨adV, hV⟩, -, -⟩ := hZ
    obtain ⟨cell, h1, h2, h3, h4⟩ := (hV.1 j hj).1
    have hlt : str j < s.heap.size := (Array.getElem?_eq_some_iff.mp h1).1
    exact ⟨cell, by rw [hS.2.1 _ hlt (fun z => h4 (gA_b z))]; exact h1, h2, by rw [hcls]; exact h3⟩
  refine g_run (va_runV (C := y.cls) (b := str j) (As := as.map (genc b str)) (rest := st9.map (genc b str)) ⟨hx, hb, hml, hown, hts⟩ hM (cwV nn hts (gGood (fun w hw => ?_)) rfl rfl rfl ⟨rfl, p3⟩ ⟨hRf.1, ?_⟩) ⟨gPc.blind, hrec, fun U hU hW => ⟨rfl, by rw [hU]; exact hR, hE.warm hW, by rw [hU]; exact gstr_now hW hZ hS⟩⟩ rfl (by rw [List.length_map]; exact hln) hls rfl (lv_room (by rw [gw_map]; exact g3)) hd ⟨by show cells + 0 ≤ R.cells; omega, by show slots + 0 ≤ R.slots; omega⟩) hS hA kk
  · unfold wsV at hw
    rcases List.mem_append.mp hw with hw | hw
    · simp only [List.mem_cons, List.not_mem_nil, or_false] at hw
      rw [hcls] at hw
      rcases hw with rfl | rfl | rfl | rfl
      · exact w1
      · exact w2
      · exact w3
      · exact w4
    · rcases List.mem_cons.mp hw with rfl | hw
      · exact p1
      · exact hw
  · show 8 + (mxx + 11) + 40 * d ≤ _
    omega
section GDYN
variable {C : Nat → List Value → gS → Option Value × gS → Prop} {mi : Nat → Option (Nat × Nat × Nat × Nat)} {df : Nat → List (Option (Option Nat))} {nx : Nat} {v : Int32} {ls : gL} {st : List Value} {s : gS} {bd : Nat × Nat} {post : gPost} {k : Nat → gL → List Value → gS → Nat × Nat → Prop}
theorem gdyn0 (h : gstep C mi df (.invokedynamic 0) nx v ls st s bd post k) : ∃ n dp b sp a st9 n0 n1, st = .int n :: .int dp :: .ref b :: .int sp :: .ref a :: st9 ∧ s.1.1 a = some (.inl (0, n0)) ∧ s.1.1 b = some (.inl (0, n1)) ∧ gcan 0 0 bd st9 = true ∧ 0 ≤ sp ∧ 0 ≤ dp ∧ 0 ≤ n ∧ sp.toNatClampNeg + n.toNatClampNeg ≤ n0 ∧ dp.toNatClampNeg + n.toNatClampNeg ≤ n1 ∧ k nx ls st9 (s.1, gcpy s.2.1 a b sp.toNatClampNeg dp.toNatClampNeg n.toNatClampNeg, s.2.2) bd := by
  unfold gstep at h
  simp only at h
  split at h
  · rename_i n dp b sp a st9
    split at h
    · rename_i n0 n1 ha hb
      obtain ⟨hcd, h⟩ := gcond h
      simp only [Bool.and_eq_true, decide_eq_true_eq] at hcd
      obtain ⟨⟨⟨⟨⟨hcan, h1⟩, h2⟩, h3⟩, h4⟩, h5⟩ := hcd
      exact ⟨n, dp, b, sp, a, st9, n0, n1, rfl, ha, hb, hcan, h1, h2, h3, Nat.le_of_ble_eq_true h4, Nat.le_of_ble_eq_true h5, h⟩
    · exact h.elim
  · exact h.elim
theorem gdyn1 (h : gstep C mi df (.invokedynamic 1) nx v ls st s bd post k) : ∃ j st9 r, st = .retAddr j :: st9 ∧ gcan 0 0 bd st9 = true ∧ C 900 [.retAddr j] s r ∧ k nx ls (r.1.toList ++ st9) r.2 bd := by
  unfold gstep at h
  simp only at h
  split at h
  · obtain ⟨hcan, r, h1, h2⟩ := gcond h
    exact ⟨_, _, r, rfl, hcan, h1, h2⟩
  · exact h.elim
theorem gdyn2 (h : gstep C mi df (.invokedynamic 2) nx v ls st s bd post k) : ∃ i j st9 r, st = .int i :: .retAddr j :: st9 ∧ gcan 0 0 bd st9 = true ∧ C 901 [.retAddr j, .int i] s r ∧ k nx ls (r.1.toList ++ st9) r.2 bd := by
  unfold gstep at h
  simp only at h
  split at h
  · obtain ⟨hcan, r, h1, h2⟩ := gcond h
    exact ⟨_, _, _, r, rfl, hcan, h1, h2⟩
  · exact h.elim
theorem gdyn3 (h : gstep C mi df (.invokedynamic 3) nx v ls st s bd post k) : ∃ y x st9, st = .int y :: .int x :: st9 ∧ gcan 0 0 bd st9 = true ∧ k nx ls (.int (gmax x y) :: st9) s bd := by
  unfold gstep at h
  simp only at h
  split at h
  · obtain ⟨hcan, h⟩ := gcond h
    exact ⟨_, _, _, rfl, hcan, h⟩
  · exact h.elim
theorem gdyn4 (h : gstep C mi df (.invokedynamic 4) nx v ls st s bd post k) : ∃ y x st9, st = .int y :: .int x :: st9 ∧ gcan 0 0 bd st9 = true ∧ k nx ls (.int (gmin x y) :: st9) s bd := by
  unfold gstep at h
  simp only at h
  split at h
  · obtain ⟨hcan, h⟩ := gcond h
    exact ⟨_, _, _, rfl, hcan, h⟩
  · exact h.elim
theorem gdyn5 (h : gstep C mi df (.invokedynamic 5) nx v ls st s bd post k) : ∃ x st9, st = .int x :: st9 ∧ gcan 0 0 bd st9 = true ∧ k nx ls (.int (gabs x) :: st9) s bd := by
  unfold gstep at h
  simp only at h
  split at h
  · obtain ⟨hcan, h⟩ := gcond h
    exact ⟨_, _, rfl, hcan, h⟩
  · exact h.elim
end GDYN
