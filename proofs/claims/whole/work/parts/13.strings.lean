/-! ===== contracts out of walks; the String constants' methods ===== -/
theorem gOfW {l : Launch} {y : MethodName} {cc : ByteArray} {mx : Nat} {rt : Option FieldType} {d mc ms : Nat} {Pc : Array Value → State → Prop} {Qc : Array Value → State → Outcome → State → Prop} {free : Addr → Prop} (hy : plainName y.cls = true)
    (body : ∀ (p : Program) (e : Env) (s : State) (m : MethodId) (args : Array Value) (below : List Frame) (meth : Method) (c : Code), p.tables.exec = Jvm.exec → c.code = cc → c.maxLocals = mx → meth.sig.returnType = rt → (∀ w ∈ gT, w.before args s = true) → s.vm.findClass y.cls = some m.cls → meth.name = y.name → meth.locks = false → Pc args s → W p l e (grm d mc ms) s m args below meth c s.heap [] 0 0 (MQ below Qc args s mc ms free) (entryFrame m args mx)) : Met l y (.code y cc mx rt :: gT) (grm d mc ms) Pc Qc mc ms free := by
  refine Met.ofW (cc := cc) (maxL := mx) (ret := rt) hy rfl ?_
  intro p e s m args below meth c s₁ B hml hv
  have hts := atoms_spec (ws := .code y cc mx rt :: gT) B.pre
  exact body p e s m args below meth c B.exec B.bytes hml B.returns (fun w hw => hts w (List.mem_cons_of_mem _ hw)) (findClass_of_methodNamed B.named) (name_of_methodNamed B.named B.method).1 B.notSynchronized hv
/-- a start of a String's method: arguments as they are, and what X says -/
def gPz (D : va_G) (ax : Nat → ClassId) (str : Nat → Nat) (b : Nat) (q : gS) (vs : List Value) (X : State → Prop) : Array Value → State → Prop := fun a U => a = vs.toArray ∧ gRep D ax str b q U.heap ∧ genv D ax str U ∧ gstr str b U U.heap ∧ X U
theorem gstr.blind {str : Nat → Nat} {b : Nat} {U : State} {g : JFrame} {mk : MethodId} {a : Array Value} (h : gstr str b U U.heap) : gstr str b (U.calling g mk a) (U.calling g mk a).heap := by
  obtain ⟨⟨adV, h4⟩, h5, h6⟩ := h
  exact ⟨⟨adV, vk_S.moved (Vm.Alike.refl U.vm) h4⟩, va_Z.moved (Vm.Alike.refl U.vm) h5, va_Zq.moved (Vm.Alike.refl U.vm) h6⟩
theorem gPz.blind {D : va_G} {ax : Nat → ClassId} {str : Nat → Nat} {b : Nat} {q : gS} {vs : List Value} : FrameBlind (gPz D ax str b q vs (fun _ => True)) := by
  rintro a U g mk ⟨h1, h2, h3, h4, -⟩
  exact ⟨h1, h2, h3.same rfl, gstr.blind h4, trivial⟩
theorem gPz.blindT {D : va_G} {ax : Nat → ClassId} {str : Nat → Nat} {b : Nat} {q : gS} {vs : List Value} {t n : Nat} {f : Nat → Value} : FrameBlind (gPz D ax str b q vs (fun U => va_T .byte t n f (fun x => b ≤ x) U U.heap)) := by
  rintro a U g mk ⟨h1, h2, h3, h4, h5⟩
  exact ⟨h1, h2, h3.same rfl, gstr.blind h4, va_T.moved (Vm.Alike.refl U.vm) h5⟩
section GST
variable {l : Launch} {D : va_G} {ax : Nat → ClassId} {str : Nat → Nat} {b : Nat} {q : gS}
theorem gin_lt {i : Int32} {n : Nat} (h : gib i n = true) (hn : n < 2147483648) : ¬ i < 0 ∧ i < Int32.ofNat n := by
  unfold gib at h
  rw [Bool.and_eq_true, decide_eq_true_eq, decide_eq_true_eq] at h
  refine ⟨Int32.not_lt.mpr h.1, ?_⟩
  rw [Int32.lt_iff_toInt_lt, Int32.toInt_ofNat_of_lt (by omega)]
  have h1 := Int32.le_iff_toInt_le.mp h.1
  have h2 : (i.toNatClampNeg : Int) = i.toInt := by
    unfold Int32.toNatClampNeg
    have : (0 : Int) ≤ i.toInt := by simpa using h1
    omega
  omega
theorem gs_cI3 (d : Nat) {i n : Int32} {fv : Value} (hf : fv.category = 1) (hi : ¬ i < 0) (hn : i < n) : Met l yJ3_checkIndex_8e157 (.code yJ3_checkIndex_8e157 cJ3_checkIndex_8e157 3 (some .int) :: gT) (grm d 0 0) (gPz D ax str b q [.int i, .int n, fv] (fun _ => True)) (gQc D ax str b q (some (.int i), q)) 0 0 (gA b q.1) := by
  refine gOfW (by decide +kernel) ?_
  rintro p e s m args below meth c hx hb hml hr hts hown hnm hlk ⟨rfl, hR, hE, hZ, -⟩
  have hS : va_S (gA b q.1) s.heap s.heap [] := va_S.rf
  have hl := lv_entry ([.int i, .int n, fv]) (n := 3) (by simp only [lg_sl, List.flatMap_cons, List.flatMap_nil, hf]; exact Nat.le_of_ble_eq_true rfl)
  rw [lg_entry_eq]
  generalize (lg_sl ([.int i, .int n, fv]) ++ List.replicate (3 - (lg_sl ([.int i, .int n, fv])).length) Slot.unset).toArray = ls at hl ⊢
  have hl : lv_has ls 3 [(0, .int i), (1, .int n), (2, fv)] := hl
  have d0 : decode cJ3_checkIndex_8e157 0 = .ok (.iload_n 0, 1) := by decide +kernel
  have d1 : decode cJ3_checkIndex_8e157 1 = .ok (.ifCond .lt 8, 3) := by decide +kernel
  have d4 : decode cJ3_checkIndex_8e157 4 = .ok (.iload_n 0, 1) := by decide +kernel
  have d5 : decode cJ3_checkIndex_8e157 5 = .ok (.iload_n 1, 1) := by decide +kernel
  have d6 : decode cJ3_checkIndex_8e157 6 = .ok (.if_icmp .lt 10, 3) := by decide +kernel
  have d16 : decode cJ3_checkIndex_8e157 16 = .ok (.iload_n 0, 1) := by decide +kernel
  have d17 : decode cJ3_checkIndex_8e157 17 = .ok (.ireturn, 1) := by decide +kernel
  refine lv_iload_n hx hb d0 rfl (lv_at hl 0 rfl) ?_
  refine lv_if_lt hx hb d1 (tgt := 9) rfl (fun z => absurd z hi) (fun z => ?_)
  refine lv_iload_n hx hb d4 rfl (lv_at hl 0 rfl) ?_
  refine lv_iload_n hx hb d5 rfl (lv_at hl 1 rfl) ?_
  refine lv_icmp_lt hx hb d6 (tgt := 16) rfl (fun z => ?_) (fun z => absurd hn z)
  refine lv_iload_n hx hb d16 rfl (lv_at hl 0 rfl) ?_
  exact W.iret (v := i) hx hb hr (fun t ht hW => ⟨rfl, by rw [ht]; exact hR, fun x h => h, hS.F ht⟩) hS.2.2 d17
theorem gs_cI0 (d : Nat) {i n : Int32} (hi : ¬ i < 0) (hn : i < n) : Met l yJ0_checkIndex_df160 (.code yJ0_checkIndex_df160 cJ0_checkIndex_df160 2 none :: gT) (grm (d + 1) 0 0) (gPz D ax str b q [.int i, .int n] (fun _ => True)) (gQc D ax str b q (none, q)) 0 0 (gA b q.1) := by
  refine gOfW (by decide +kernel) ?_
  rintro p e s m args below meth c hx hb hml hr hts hown hnm hlk ⟨rfl, hR, hE, hZ, -⟩
  have hS : va_S (gA b q.1) s.heap s.heap [] := va_S.rf
  have hl := lv_entry ([.int i, .int n]) (n := 2) (Nat.le_of_ble_eq_true rfl)
  rw [lg_entry_eq]
  generalize (lg_sl ([.int i, .int n]) ++ List.replicate (2 - (lg_sl ([.int i, .int n])).length) Slot.unset).toArray = ls at hl ⊢
  have hl : lv_has ls 2 [(0, .int i), (1, .int n)] := hl
  have d0 : decode cJ0_checkIndex_df160 0 = .ok (.iload_n 0, 1) := by decide +kernel
  have d1 : decode cJ0_checkIndex_df160 1 = .ok (.iload_n 1, 1) := by decide +kernel
  have d2 : decode cJ0_checkIndex_df160 2 = .ok (.getstatic 1053, 3) := by decide +kernel
  have d5 : decode cJ0_checkIndex_df160 5 = .ok (.invokestatic 1059, 3) := by decide +kernel
  have d8 : decode cJ0_checkIndex_df160 8 = .ok (.pop, 1) := by decide +kernel
  have d9 : decode cJ0_checkIndex_df160 9 = .ok (.return_, 1) := by decide +kernel
  refine lv_iload_n hx hb d0 rfl (lv_at hl 0 rfl) ?_
  refine lv_iload_n hx hb d1 rfl (lv_at hl 1 rfl) ?_
  have hSb : va_S (fun x => b ≤ x) s.heap s.heap [] := va_S.rf
  have key : ∀ fv : Value, fv.category = 1 → W p l e (grm (d + 1) 0 0) s m (List.toArray [.int i, .int n]) below meth c s.heap [] 0 0 (MQ below (gQc D ax str b q (none, q)) (List.toArray [.int i, .int n]) s 0 0 (gA b q.1)) (F0 m 5 ls [fv, .int n, .int i]) := by
    intro fv hf
    refine g_run (va_runS (As := [.int i, .int n, fv]) (rest := []) ⟨hx, hb, hml, hown, hts⟩ (gs_cI3 d hf hi hn) (va_cwS 3 hts (gGood (fun w hw => ?_)) rfl rfl rfl ⟨by decide +kernel, by decide +kernel, by decide +kernel⟩ ⟨Nat.le_refl _, ?_⟩) ⟨gPz.blind, fun U hU hW => ⟨rfl, by rw [hU]; exact hR, hE.warm hW, by rw [hU]; exact gstr_now (q0 := q) hW hZ hS, trivial⟩⟩ rfl rfl hl.1 rfl (lv_room (by decide)) d5 ⟨Nat.le_refl _, Nat.le_refl _⟩) hS (fun x h => h) (fun H9 locs9 hR9 hS9 hA9 => ?_)
    · unfold va_wsS at hw
      rcases List.mem_append.mp hw with hw | hw
      · simp only [List.mem_cons, List.not_mem_nil, or_false] at hw
        rcases hw with rfl | rfl | rfl
        · exact gs_910
        · exact gs_911
        · exact gs_88
      · rcases List.mem_cons.mp hw with rfl | hw
        · exact gs_912
        · exact hw
    · show 8 + (3 + 11) + 40 * d ≤ 40 * (d + 1)
      omega
    · refine lv_pop hx hb d8 rfl ?_
      exact W.vret hx hb hr (fun t ht hW => ⟨rfl, by rw [ht]; exact hR9, fun x h => h, hS9.F ht⟩) hS9.2.2 d9
  rcases hZ.2.2 with h | ⟨t, h⟩
  · exact va_gets hx hb h hSb hown (hts _ gs_908) (fun x h => h) d2 (key _ rfl)
  · exact va_gets hx hb h hSb hown (hts _ gs_908) (fun x h => h) d2 (key _ rfl)
end GST
section GST2
variable {l : Launch} {D : va_G} {ax : Nat → ClassId} {str : Nat → Nat} {b : Nat} {q : gS}
theorem gs_byte : ∀ j, j < 7 → ∀ k, k < gslen j → (gsch j k) &&& 255 = gsch j k := by decide +kernel
theorem gs_cA1 (d : Nat) {t n : Nat} {f : Nat → Int32} {i : Int32} (hn : n < 2147483648) (hi : gib i n = true) : Met l yJ1_charAt_3b067 (.code yJ1_charAt_3b067 cJ1_charAt_3b067 2 (some .char) :: gT) (grm (d + 2) 0 0) (gPz D ax str b q [.ref t, .int i] (fun U => va_T .byte t n (fun j => .int (f j)) (fun x => b ≤ x) U U.heap)) (gQc D ax str b q (some (.int (f i.toNatClampNeg &&& 255)), q)) 0 0 (gA b q.1) := by
  refine gOfW (by decide +kernel) ?_
  rintro p e s m args below meth c hx hb hml hr hts hown hnm hlk ⟨rfl, hR, hE, hZ, hT⟩
  have hS : va_S (gA b q.1) s.heap s.heap [] := va_S.rf
  have hl := lv_entry ([.ref t, .int i]) (n := 2) (Nat.le_of_ble_eq_true rfl)
  rw [lg_entry_eq]
  generalize (lg_sl ([.ref t, .int i]) ++ List.replicate (2 - (lg_sl ([.ref t, .int i])).length) Slot.unset).toArray = ls at hl ⊢
  have hl : lv_has ls 2 [(0, .ref t), (1, .int i)] := hl
  have d0 : decode cJ1_charAt_3b067 0 = .ok (.iload_n 1, 1) := by decide +kernel
  have d1 : decode cJ1_charAt_3b067 1 = .ok (.aload_n 0, 1) := by decide +kernel
  have d2 : decode cJ1_charAt_3b067 2 = .ok (.arraylength, 1) := by decide +kernel
  have d3 : decode cJ1_charAt_3b067 3 = .ok (.invokestatic 9, 3) := by decide +kernel
  have d6 : decode cJ1_charAt_3b067 6 = .ok (.aload_n 0, 1) := by decide +kernel
  have d7 : decode cJ1_charAt_3b067 7 = .ok (.iload_n 1, 1) := by decide +kernel
  have d8 : decode cJ1_charAt_3b067 8 = .ok (.baload, 1) := by decide +kernel
  have d9 : decode cJ1_charAt_3b067 9 = .ok (.sipush 255, 3) := by decide +kernel
  have d12 : decode cJ1_charAt_3b067 12 = .ok (.iand, 1) := by decide +kernel
  have d13 : decode cJ1_charAt_3b067 13 = .ok (.i2c, 1) := by decide +kernel
  have d14 : decode cJ1_charAt_3b067 14 = .ok (.ireturn, 1) := by decide +kernel
  obtain ⟨i1, i2⟩ := gin_lt hi hn
  have hSb : va_S (fun x => b ≤ x) s.heap s.heap [] := va_S.rf
  refine lv_iload_n hx hb d0 rfl (lv_at hl 1 rfl) ?_
  refine lv_aload_n hx hb d1 rfl (lv_at hl 0 rfl) ?_
  refine va_tlen hx hb hT hSb rfl d2 ?_
  refine g_run (va_runS (As := [.int i, .int (Int32.ofNat n)]) (rest := []) ⟨hx, hb, hml, hown, hts⟩ (gs_cI0 d i1 i2) (va_cwS 2 hts (gGood (fun w hw => ?_)) rfl rfl rfl ⟨by decide +kernel, by decide +kernel, by decide +kernel⟩ ⟨Nat.le_refl _, ?_⟩) ⟨gPz.blind, fun U hU hW => ⟨rfl, by rw [hU]; exact hR, hE.warm hW, by rw [hU]; exact gstr_now (q0 := q) hW hZ hS, trivial⟩⟩ rfl rfl hl.1 rfl (lv_room (by decide)) d3 ⟨Nat.le_refl _, Nat.le_refl _⟩) hS (fun x h => h) (fun H9 locs9 hR9 hS9 hA9 => ?_)
  · unfold va_wsS at hw
    rcases List.mem_append.mp hw with hw | hw
    · simp only [List.mem_cons, List.not_mem_nil, or_false] at hw
      rcases hw with rfl | rfl | rfl
      · exact gs_905
      · exact gs_906
      · exact gs_86
    · rcases List.mem_cons.mp hw with rfl | hw
      · exact gs_907
      · exact hw
  · show 8 + (2 + 11) + 40 * (d + 1) ≤ 40 * (d + 2)
    omega
  · have hSb9 : va_S (fun x => b ≤ x) s.heap H9 locs9 := ⟨hS9.1, fun x h1 h2 => hS9.2.1 x h1 (fun z => h2 (gA_b z)), fun x hx => gA_b (hS9.2.2 x hx)⟩
    refine lv_aload_n hx hb d6 rfl (lv_at hl 0 rfl) ?_
    refine lv_iload_n hx hb d7 rfl (lv_at hl 1 rfl) ?_
    refine va_tb hx hb hT hSb9 (gib_in hi) (v := .int (f i.toNatClampNeg)) rfl d8 ?_
    refine lv_sipush hx hb d9 (v := 255) (by decide) ?_
    refine lv_iand hx hb d12 ?_
    refine lv_i2c hx hb d13 (sc_c2 _) ?_
    exact W.zret hx hb hr (sc_nar _) (fun t ht hW => ⟨rfl, by rw [ht]; exact hR9, fun x h => h, hS9.F ht⟩) hS9.2.2 d14
theorem gs_lat (d : Nat) {j : Nat} (hj : j < 7) : Met l yJ0_isLatin1_aae02 (.code yJ0_isLatin1_aae02 cJ0_isLatin1_aae02 1 (some .boolean) :: gT) (grm d 0 0) (gPc D ax str b [.retAddr j] q) (gQc D ax str b q (some (.int 1), q)) 0 0 (gA b q.1) := by
  refine gOfW (by decide +kernel) ?_
  rintro p e s m args below meth c hx hb hml hr hts hown hnm hlk ⟨rfl, hR, hE, hZ⟩
  have hS : va_S (gA b q.1) s.heap s.heap [] := va_S.rf
  have hSb : va_S (fun x => b ≤ x) s.heap s.heap [] := va_S.rf
  have hl := lv_entry ([Value.ref (str j)]) (n := 1) (Nat.le_of_ble_eq_true rfl)
  show W p l e (grm d 0 0) s m (List.toArray [Value.ref (str j)]) below meth c s.heap [] 0 0 (MQ below (gQc D ax str b q (some (.int 1), q)) (List.toArray [Value.ref (str j)]) s 0 0 (gA b q.1)) (entryFrame m (List.toArray [Value.ref (str j)]) 1)
  rw [lg_entry_eq]
  generalize (lg_sl ([Value.ref (str j)]) ++ List.replicate (1 - (lg_sl ([Value.ref (str j)])).length) Slot.unset).toArray = ls at hl ⊢
  have hl : lv_has ls 1 [(0, .ref (str j))] := hl
  have d0 : decode cJ0_isLatin1_aae02 0 = .ok (.getstatic 38, 3) := by decide +kernel
  have d3 : decode cJ0_isLatin1_aae02 3 = .ok (.ifCond .eq 14, 3) := by decide +kernel
  have d6 : decode cJ0_isLatin1_aae02 6 = .ok (.aload_n 0, 1) := by decide +kernel
  have d7 : decode cJ0_isLatin1_aae02 7 = .ok (.getfield 15, 3) := by decide +kernel
  have d10 : decode cJ0_isLatin1_aae02 10 = .ok (.ifCond .ne 7, 3) := by decide +kernel
  have d13 : decode cJ0_isLatin1_aae02 13 = .ok (.iconst 1, 1) := by decide +kernel
  have d14 : decode cJ0_isLatin1_aae02 14 = .ok (.goto 4, 3) := by decide +kernel
  have d18 : decode cJ0_isLatin1_aae02 18 = .ok (.ireturn, 1) := by decide +kernel
  obtain ⟨⟨adV, hV⟩, hZ1, -⟩ := hZ
  refine va_gets hx hb hZ1 hSb hown (hts _ gs_892) (fun x h => h) d0 ?_
  refine lv_if_eq hx hb d3 (tgt := 17) rfl (fun z => absurd z (by decide)) (fun z => ?_)
  refine lv_aload_n hx hb d6 rfl (lv_at hl 0 rfl) ?_
  refine vk_getf hx hb (hV.1 j hj).2.1 hSb hown (hts _ gs_1740) (fun x h => h) d7 ?_
  refine lv_if_ne hx hb d10 (tgt := 17) rfl (fun z => absurd rfl z) (fun z => ?_)
  refine lv_iconst hx hb d13 (v := 1) rfl ?_
  refine lv_goto hx hb d14 (tgt := 18) rfl ?_
  exact W.zret hx hb hr rfl (fun t ht hW => ⟨rfl, by rw [ht]; exact hR, fun x h => h, hS.F ht⟩) hS.2.2 d18
theorem gs_cod (d : Nat) {j : Nat} (hj : j < 7) : Met l yJ0_coder_7d493 (.code yJ0_coder_7d493 cJ0_coder_7d493 1 (some .byte) :: gT) (grm d 0 0) (gPc D ax str b [.retAddr j] q) (gQc D ax str b q (some (.int 0), q)) 0 0 (gA b q.1) := by
  refine gOfW (by decide +kernel) ?_
  rintro p e s m args below meth c hx hb hml hr hts hown hnm hlk ⟨rfl, hR, hE, hZ⟩
  have hS : va_S (gA b q.1) s.heap s.heap [] := va_S.rf
  have hSb : va_S (fun x => b ≤ x) s.heap s.heap [] := va_S.rf
  have hl := lv_entry ([Value.ref (str j)]) (n := 1) (Nat.le_of_ble_eq_true rfl)
  show W p l e (grm d 0 0) s m (List.toArray [Value.ref (str j)]) below meth c s.heap [] 0 0 (MQ below (gQc D ax str b q (some (.int 0), q)) (List.toArray [Value.ref (str j)]) s 0 0 (gA b q.1)) (entryFrame m (List.toArray [Value.ref (str j)]) 1)
  rw [lg_entry_eq]
  generalize (lg_sl ([Value.ref (str j)]) ++ List.replicate (1 - (lg_sl ([Value.ref (str j)])).length) Slot.unset).toArray = ls at hl ⊢
  have hl : lv_has ls 1 [(0, .ref (str j))] := hl
  have d0 : decode cJ0_coder_7d493 0 = .ok (.getstatic 38, 3) := by decide +kernel
  have d3 : decode cJ0_coder_7d493 3 = .ok (.ifCond .eq 10, 3) := by decide +kernel
  have d6 : decode cJ0_coder_7d493 6 = .ok (.aload_n 0, 1) := by decide +kernel
  have d7 : decode cJ0_coder_7d493 7 = .ok (.getfield 15, 3) := by decide +kernel
  have d10 : decode cJ0_coder_7d493 10 = .ok (.goto 4, 3) := by decide +kernel
  have d14 : decode cJ0_coder_7d493 14 = .ok (.ireturn, 1) := by decide +kernel
  obtain ⟨⟨adV, hV⟩, hZ1, -⟩ := hZ
  refine va_gets hx hb hZ1 hSb hown (hts _ gs_892) (fun x h => h) d0 ?_
  refine lv_if_eq hx hb d3 (tgt := 13) rfl (fun z => absurd z (by decide)) (fun z => ?_)
  refine lv_aload_n hx hb d6 rfl (lv_at hl 0 rfl) ?_
  refine vk_getf hx hb (hV.1 j hj).2.1 hSb hown (hts _ gs_1740) (fun x h => h) d7 ?_
  refine lv_goto hx hb d10 (tgt := 14) rfl ?_
  exact W.zret hx hb hr rfl (fun t ht hW => ⟨rfl, by rw [ht]; exact hR, fun x h => h, hS.F ht⟩) hS.2.2 d14
end GST2
