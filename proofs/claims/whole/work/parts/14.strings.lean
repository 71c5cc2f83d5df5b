/-! ===== String.length, String.charAt ===== -/
theorem gcallU {p : Program} {l : Launch} {e : Env} {R : Room} {s : State} {m : MethodId} {args : Array Value} {below : List Frame} {meth : Method} {c : Code} {H : Heap} {locs : List Loc} {cells slots : Nat} {Q : State → Prop} {cc : ByteArray} {pc : Nat} {als : Array Slot} {own : String} {mx mc ms d : Nat} {D : va_G} {ax : Nat → ClassId} {str : Nat → Nat} {b : Nat} {q0 q : gS} {r : Option Value × gS} {bd : Nat × Nat} {st9 as : List Value} {i nn j : Nat} {y : MethodName} {cy : ByteArray} {mxx : Nat} {rtt : Option FieldType}
    (hx : p.tables.exec = Jvm.exec) (hb : c.code = cc) (hml : c.maxLocals = mx) (hts : ∀ w ∈ gT, w.before args s = true) (hown : s.vm.findClass own = some m.cls) (hE : genv D ax str s) (hZ : gstr str b s s.heap) (hRf : d + 1 ≤ R.frames ∧ 40 * d + 40 ≤ R.locals) (hRc : R.cells = mc) (hRs : R.slots = ms)
    (hM : Met l y (.code y cy mxx rtt :: gT) (grm d 0 0) (gPc D ax str b (.retAddr j :: as) q) (gQc D ax str b q r) 0 0 (gA b q.1)) (hj : j < 7) (hd : decode cc pc = .ok (.invokevirtual i, 3))
    (w1 : Cond.methodLink own i y ∈ gT) (w2 : Cond.instanceMethod y ∈ gT) (w3 : Cond.selects "java/lang/String" y y ∈ gT) (w4 : Cond.initialized "java/lang/String" ∈ gT) (p1 : Cond.code y cy mxx rtt ∈ gT) (hcls : y.cls = "java/lang/String") (p3 : y.cls ≠ "java/lang/invoke/MethodHandle" ∧ y.cls ≠ "java/lang/invoke/VarHandle" ∧ (parseMethodDescriptor y.desc).map (fun d => d.parameters.length) = some nn) (p5 : mxx ≤ 20)
    (hln : as.length = nn) (hcan : gcan 0 0 bd st9 = true) (hls : als.size = mx) (hR : gRep D ax str b q H) (hS : va_S (gA b q0.1) s.heap H locs) (hA : ∀ x, gA b q.1 x → gA b q0.1 x) (hc : cells + bd.1 ≤ mc) (hs : slots + bd.2 ≤ ms)
    (kk : ∀ (H9 : Heap) (locs9 : List Loc), gRep D ax str b r.2 H9 → va_S (gA b q0.1) s.heap H9 locs9 → (∀ x, gA b r.2.1 x → gA b q0.1 x) → W p l e R s m args below meth c H9 locs9 (cells + 0) (slots + 0) Q (F0 m (pc + 3) als ((r.1.map (genc b str)).toList ++ st9.map (genc b str)))) : W p l e R s m args below meth c H locs cells slots Q (F0 m pc als ((as.map (genc b str)).reverse ++ .ref (str j) :: st9.map (genc b str))) := by
  obtain ⟨g1, g2, g3⟩ := gcan_w hcan
  have hrec : ∃ cellB : Cell, H[str j]? = some cellB ∧ cellB.vm.isStatics = false ∧ s.vm.findClass y.cls = some cellB.cls := by
    obtain ⟨⟨adV, hV⟩, -, -⟩ := hZ
    obtain ⟨cell, h1, h2, h3, h4⟩ := (hV.1 j hj).1
    have hlt : str j < s.heap.size := (Array.getElem?_eq_some_iff.mp h1).1
    exact ⟨cell, by rw [hS.2.1 _ hlt (fun z => h4 (gA_b z))]; exact h1, h2, by rw [hcls]; exact h3⟩
  refine g_run (va_runV (C := y.cls) (b := str j) (As := as.map (genc b str)) (rest := st9.map (genc b str)) ⟨hx, hb, hml, hown, hts⟩ hM (cwV nn hts (gGood (fun w hw => ?_)) rfl rfl rfl ⟨rfl, p3⟩ ⟨hRf.1, ?_⟩) ⟨gPc.blind, hrec, fun U hU hW => ⟨rfl, by rw [hU]; exact hR, hE.warm hW, by rw [hU]; exact gstr_now hW hZ hS⟩⟩ rfl (by rw [List.length_map]; exact hln) hls rfl (lv_room (by rw [gw_map]; exact g3)) hd ⟨by show cells + 0 ≤ R.cells; omega, by show slots + 0 ≤ R.slots; omega⟩) hS hA kk
  · unfold wsV at hw
    rcases List.mem_append.mp hw with hw | hw
    · simp only [List.mem_cons, List.not_mem_nil, or_false] at hw
      rw [hcls] at hw
      rcases hw with rfl | rfl | rfl | rfl
      · exact w1
      · exact w2
      · exact w3
      · exact w4
    · rcases List.mem_cons.mp hw with rfl | hw
      · exact p1
      · exact hw
  · show 8 + (mxx + 11) + 40 * d ≤ _
    omega
section GST3
variable {l : Launch} {D : va_G} {ax : Nat → ClassId} {str : Nat → Nat} {b : Nat} {q : gS}
theorem gs_l7 : ∀ j, j < 7 → [4, 5, 4, 4, 4, 6, 4].getD j 0 = gslen j := by decide +kernel
theorem gs_b7 (j i : Nat) : (gstrs.getD j []).getD i 0 = gsch j i := rfl
theorem gs_shr (x : Int32) : x >>> ((0 : Int32) &&& 31) = x := by
  have h : ((0 : Int32) &&& 31) = 0 := by decide
  rw [h]
  apply Int32.toBitVec_inj.mp
  simp
theorem gs_len (d : Nat) {j : Nat} (hj : j < 7) : Met l yJ0_length_8abf5 (.code yJ0_length_8abf5 cJ0_length_8abf5 1 (some .int) :: gT) (grm (d + 1) 0 0) (gPc D ax str b [.retAddr j] q) (gQc D ax str b q (some (.int (Int32.ofNat (gslen j))), q)) 0 0 (gA b q.1) := by
  refine gOfW (by decide +kernel) ?_
  rintro p e s m args below meth c hx hb hml hr hts hown hnm hlk ⟨rfl, hR, hE, hZ⟩
  have hS : va_S (gA b q.1) s.heap s.heap [] := va_S.rf
  have hSb : va_S (fun x => b ≤ x) s.heap s.heap [] := va_S.rf
  have hl := lv_entry ([Value.ref (str j)]) (n := 1) (Nat.le_of_ble_eq_true rfl)
  show W p l e (grm (d + 1) 0 0) s m (List.toArray [Value.ref (str j)]) below meth c s.heap [] 0 0 (MQ below (gQc D ax str b q (some (.int (Int32.ofNat (gslen j))), q)) (List.toArray [Value.ref (str j)]) s 0 0 (gA b q.1)) (entryFrame m (List.toArray [Value.ref (str j)]) 1)
  rw [lg_entry_eq]
  generalize (lg_sl ([Value.ref (str j)]) ++ List.replicate (1 - (lg_sl ([Value.ref (str j)])).length) Slot.unset).toArray = ls at hl ⊢
  have hl : lv_has ls 1 [(0, .ref (str j))] := hl
  have d0 : decode cJ0_length_8abf5 0 = .ok (.aload_n 0, 1) := by decide +kernel
  have d1 : decode cJ0_length_8abf5 1 = .ok (.getfield 9, 3) := by decide +kernel
  have d4 : decode cJ0_length_8abf5 4 = .ok (.arraylength, 1) := by decide +kernel
  have d5 : decode cJ0_length_8abf5 5 = .ok (.aload_n 0, 1) := by decide +kernel
  have d6 : decode cJ0_length_8abf5 6 = .ok (.invokevirtual 335, 3) := by decide +kernel
  have d9 : decode cJ0_length_8abf5 9 = .ok (.ishr, 1) := by decide +kernel
  have d10 : decode cJ0_length_8abf5 10 = .ok (.ireturn, 1) := by decide +kernel
  have hZ0 := hZ
  obtain ⟨⟨adV, hV⟩, hZ1, -⟩ := hZ
  refine lv_aload_n hx hb d0 rfl (lv_at hl 0 rfl) ?_
  refine vk_getf hx hb (hV.1 j hj).2.2.1 hSb hown (hts _ gs_1739) (fun x h => h) d1 ?_
  refine va_tlen hx hb (hV.1 j hj).2.2.2 hSb (v := Int32.ofNat (gslen j)) (by rw [gs_l7 j hj]) d4 ?_
  refine lv_aload_n hx hb d5 rfl (lv_at hl 0 rfl) ?_
  refine gcallU (as := []) (nn := 0) (st9 := [.int (Int32.ofNat (gslen j))]) (bd := (0, 0)) (q0 := q) hx hb hml hts hown hE hZ0 (d := d) ⟨Nat.le_refl _, by show 40 * d + 40 ≤ 40 * (d + 1); omega⟩ rfl rfl (gs_cod d hj) hj d6 gs_888 gs_889 gs_890 gs_86 gs_891 rfl ⟨by decide +kernel, by decide +kernel, by decide +kernel⟩ (by decide) rfl rfl hl.1 hR hS (fun x h => h) (Nat.le_refl _) (Nat.le_refl _) (fun H9 locs9 hR9 hS9 hA9 => ?_)
  refine lv_ishr hx hb d9 ?_
  rw [gs_shr]
  exact W.iret hx hb hr (fun t ht hW => ⟨rfl, by rw [ht]; exact hR9, fun x h => h, hS9.F ht⟩) hS9.2.2 d10
theorem gs_chr (d : Nat) {j : Nat} (hj : j < 7) {i : Int32} (hi : gib i (gslen j) = true) : Met l yJ0_charAt_5068e (.code yJ0_charAt_5068e cJ0_charAt_5068e 2 (some .char) :: gT) (grm (d + 3) 0 0) (gPc D ax str b [.retAddr j, .int i] q) (gQc D ax str b q (some (.int (gsch j i.toNatClampNeg)), q)) 0 0 (gA b q.1) := by
  refine gOfW (by decide +kernel) ?_
  rintro p e s m args below meth c hx hb hml hr hts hown hnm hlk ⟨rfl, hR, hE, hZ⟩
  have hS : va_S (gA b q.1) s.heap s.heap [] := va_S.rf
  have hSb : va_S (fun x => b ≤ x) s.heap s.heap [] := va_S.rf
  have hl := lv_entry ([Value.ref (str j), .int i]) (n := 2) (Nat.le_of_ble_eq_true rfl)
  show W p l e (grm (d + 3) 0 0) s m (List.toArray [Value.ref (str j), .int i]) below meth c s.heap [] 0 0 (MQ below (gQc D ax str b q (some (.int (gsch j i.toNatClampNeg)), q)) (List.toArray [Value.ref (str j), .int i]) s 0 0 (gA b q.1)) (entryFrame m (List.toArray [Value.ref (str j), .int i]) 2)
  rw [lg_entry_eq]
  generalize (lg_sl ([Value.ref (str j), .int i]) ++ List.replicate (2 - (lg_sl ([Value.ref (str j), .int i])).length) Slot.unset).toArray = ls at hl ⊢
  have hl : lv_has ls 2 [(0, .ref (str j)), (1, .int i)] := hl
  have d0 : decode cJ0_charAt_5068e 0 = .ok (.aload_n 0, 1) := by decide +kernel
  have d1 : decode cJ0_charAt_5068e 1 = .ok (.invokevirtual 492, 3) := by decide +kernel
  have d4 : decode cJ0_charAt_5068e 4 = .ok (.ifCond .eq 12, 3) := by decide +kernel
  have d7 : decode cJ0_charAt_5068e 7 = .ok (.aload_n 0, 1) := by decide +kernel
  have d8 : decode cJ0_charAt_5068e 8 = .ok (.getfield 9, 3) := by decide +kernel
  have d11 : decode cJ0_charAt_5068e 11 = .ok (.iload_n 1, 1) := by decide +kernel
  have d12 : decode cJ0_charAt_5068e 12 = .ok (.invokestatic 495, 3) := by decide +kernel
  have d15 : decode cJ0_charAt_5068e 15 = .ok (.ireturn, 1) := by decide +kernel
  have hZ0 := hZ
  obtain ⟨⟨adV, hV⟩, hZ1, -⟩ := hZ
  have hlt : gslen j < 2147483648 := by have : ∀ j, j < 7 → gslen j < 2147483648 := by decide +kernel
                                        exact this j hj
  have hsz : i.toNatClampNeg < gslen j := by
    unfold gib at hi
    rw [Bool.and_eq_true, decide_eq_true_eq, decide_eq_true_eq] at hi
    exact hi.2
  refine lv_aload_n hx hb d0 rfl (lv_at hl 0 rfl) ?_
  refine gcallU (as := []) (nn := 0) (st9 := []) (bd := (0, 0)) (q0 := q) hx hb hml hts hown hE hZ0 (d := d + 2) ⟨Nat.le_refl _, by show 40 * (d + 2) + 40 ≤ 40 * (d + 3); omega⟩ rfl rfl (gs_lat (d + 2) hj) hj d1 gs_898 gs_899 gs_900 gs_86 gs_901 rfl ⟨by decide +kernel, by decide +kernel, by decide +kernel⟩ (by decide) rfl rfl hl.1 hR hS (fun x h => h) (Nat.le_refl _) (Nat.le_refl _) (fun H9 locs9 hR9 hS9 hA9 => ?_)
  have hSb9 : va_S (fun x => b ≤ x) s.heap H9 locs9 := ⟨hS9.1, fun x h1 h2 => hS9.2.1 x h1 (fun z => h2 (gA_b z)), fun x hx => gA_b (hS9.2.2 x hx)⟩
  refine lv_if_eq hx hb d4 (tgt := 16) rfl (fun z => absurd z (by decide)) (fun z => ?_)
  refine lv_aload_n hx hb d7 rfl (lv_at hl 0 rfl) ?_
  refine vk_getf hx hb (hV.1 j hj).2.2.1 hSb9 hown (hts _ gs_1739) (fun x h => h) d8 ?_
  refine lv_iload_n hx hb d11 rfl (lv_at hl 1 rfl) ?_
  refine g_run (va_runS (As := [.ref (adV j), .int i]) (rest := []) ⟨hx, hb, hml, hown, hts⟩ (gs_cA1 d (f := fun k => gsch j k) hlt hi) (va_cwS 2 hts (gGood (fun w hw => ?_)) rfl rfl rfl ⟨by decide +kernel, by decide +kernel, by decide +kernel⟩ ⟨Nat.le_refl _, ?_⟩) ⟨gPz.blindT, fun U hU hW => ⟨rfl, by rw [hU]; exact hR9, hE.warm hW, by rw [hU]; exact gstr_now (q0 := q) hW hZ0 hS9, by show va_T .byte (adV j) (gslen j) _ _ U U.heap; rw [hU, ← gs_l7 j hj]; exact va_T.moved hW.alike ((hV.1 j hj).2.2.2.kept hSb9.2.1)⟩⟩ rfl rfl hl.1 rfl (lv_room (by decide)) d12 ⟨Nat.le_refl _, Nat.le_refl _⟩) hS9 (fun x h => h) (fun H8 locs8 hR8 hS8 hA8 => ?_)
  · unfold va_wsS at hw
    rcases List.mem_append.mp hw with hw | hw
    · simp only [List.mem_cons, List.not_mem_nil, or_false] at hw
      rcases hw with rfl | rfl | rfl
      · exact gs_902
      · exact gs_903
      · exact gs_87
    · rcases List.mem_cons.mp hw with rfl | hw
      · exact gs_904
      · exact hw
  · show 8 + (2 + 11) + 40 * (d + 2) ≤ 40 * (d + 3)
    omega
  · have e1 : gsch j i.toNatClampNeg &&& 255 = gsch j i.toNatClampNeg := gs_byte j hj _ hsz
    show W p l e (grm (d + 3) 0 0) s m _ below meth c H8 locs8 _ _ _ (F0 m 15 ls [.int (gsch j i.toNatClampNeg &&& 255)])
    rw [e1]
    exact W.zret hx hb hr (by rw [← e1]; exact sc_nar _) (fun t ht hW => ⟨rfl, by rw [ht]; exact hR8, fun x h => h, hS8.F ht⟩) hS8.2.2 d15
end GST3
