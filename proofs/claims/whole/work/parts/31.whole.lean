/-! ===== the law: from its entry to its loop ===== -/
def gckL (ci : Nat) : Bool := match gnth gcl ci with
  | some r => Nat.beq (gdf ci).length r.2.2 && (List.range r.2.2).all (fun k => match parseFieldDescriptor (r.2.1 k).2.2.1, (gdf ci).getD k none with
      | some .int, none => true
      | some .boolean, none => true
      | some (.object _), some none => true
      | some (.array _), some none => true
      | _, _ => false)
  | none => false
theorem gckL_11 : gckL 11 = true := by decide +kernel
theorem gckL_12 : gckL 12 = true := by decide +kernel
theorem gckL_of (b : Nat) (str : Nat → Nat) {a3 : Nat} (h : gckL a3 = true) : ∃ (C : String) (T : u_T) (N : Nat), gcl[a3]? = some (C, T, N) ∧ (gdf a3).length = N ∧
    ∀ ty : Nat → FieldType, (∀ k, k < N → parseFieldDescriptor (T k).2.2.1 = some (ty k)) → ∀ k, k < N → defaultValue (ty k) = genc b str (gfv (fun _ _ => 0, fun _ _ => 0) 0 k ((gdf a3).getD k none)) := by
  unfold gckL at h
  split at h
  · rename_i r hr
    rw [gnth_get] at hr
    simp only [Bool.and_eq_true] at h
    obtain ⟨h4, h5⟩ := h
    refine ⟨r.1, r.2.1, r.2.2, hr, Nat.eq_of_beq_eq_true h4, fun ty hty k hk => ?_⟩
    have h6 := List.all_eq_true.mp h5 k (List.mem_range.mpr hk)
    rw [hty k hk] at h6
    revert h6
    generalize (gdf a3).getD k none = f
    generalize ty k = t
    intro h6
    rcases f with _ | _ | f
    · cases t <;> first | rfl | cases h6
    · cases t <;> first | rfl | cases h6
    · cases t <;> cases h6
  · cases h
theorem gcallLI {p : Program} {l : Launch} {e : Env} {R : Room} {s : State} {m : MethodId} {args : Array Value} {below : List Frame} {meth : Method} {c : Code} {H : Heap} {locs : List Loc} {cells slots : Nat} {Q : State → Prop} {cc : ByteArray} {pc : Nat} {als : Array Slot} {rest : List Value} {mx d : Nat} {D : va_G} {ax : Nat → ClassId} {str : Nat → Nat} {b : Nat} {q : gS} {r : Option Value × gS} {n i c1 c2 a a9 : Nat} {ps : Nat × Nat × Nat × Nat} (hx : p.tables.exec = Jvm.exec) (hb : c.code = cc) (hml : c.maxLocals = mx) (hts : ∀ w ∈ gT, w.before args s = true) (hown : s.vm.findClass "OilTownLaw" = some m.cls) (hE : genv D ax str s) (hZ : gstr str b s s.heap) (hRf : d + 1 ≤ R.frames ∧ 40 * d + 40 ≤ R.locals) (hM : gMet l D ax str b d n [.ref a] q r) (hd : decode cc pc = .ok (.invokespecial i, 3)) (hq : (i, n, ps) ∈ gLL)
    (hmi : gmi n = some (a9, 0, c1, c2)) (hini : ∀ x, gnth gtab n = some x → x.2.1.2 = true) (hw8 : (rest.map fun v => v.category).sum ≤ 8) (hls : als.size = mx) (hR : gRep D ax str b q H) (hS : va_S (fun x => b ≤ x) s.heap H locs) (hc : cells + c1 ≤ R.cells) (hs : slots + c2 ≤ R.slots)
    (kk : ∀ (H9 : Heap) (locs9 : List Loc), gRep D ax str b r.2 H9 → va_S (fun x => b ≤ x) s.heap H9 locs9 → W p l e R s m args below meth c H9 locs9 (cells + c1) (slots + c2) Q (F0 m (pc + 3) als ((r.1.map (genc b str)).toList ++ rest))) : W p l e R s m args below meth c H locs cells slots Q (F0 m pc als (.ref (b + a) :: rest)) := by
  obtain ⟨x, hnx, hx9⟩ := gmi_of hmi
  have hP := gtab_ok x (gnth_mem hnx)
  have hw := List.all_eq_true.mp gLL_all _ hq
  have hi1 := hini x hnx
  unfold gLLb at hw
  dsimp only at hw
  rw [hnx] at hw
  simp only [Bool.and_eq_true] at hw
  obtain ⟨w1, w2, w4, -⟩ := hw
  have hM := hM x hnx
  obtain ⟨⟨y, by', mxx, rtt⟩, ⟨oo, inn⟩, mm, code⟩ := x
  dsimp only at hx9 hi1
  subst hx9
  subst hi1
  obtain ⟨p1, p2, p3, p4, p5, p6, p7, -⟩ := hP
  have e7 : rtt = none := p7 rfl
  subst e7
  refine g_run (A := fun x => b ≤ x) (va_runI (b := b + a) (As := []) (rest := rest) ⟨hx, hb, hml, hown, hts⟩ hM (cwI 0 hts (gGood (fun w hw => ?_)) rfl rfl rfl (hts _ (gix_mem w4)) (hts _ (gix_mem w1)) (hts _ (gix_mem w2)) (p6 rfl) p3 ⟨hRf.1, ?_⟩) ⟨gPc.blind, fun U hU hW => ⟨rfl, by rw [hU]; exact hR, hE.warm hW, by rw [hU]; exact gstr_nowA hW hZ hS⟩⟩ rfl rfl hls rfl (lv_room hw8) hd ⟨hc, hs⟩) hS (fun x h => gA_b h) (fun H9 locs9 hR9 hS9 _ => kk H9 locs9 hR9 hS9)
  · rcases List.mem_cons.mp hw with rfl | hw
    · exact p1
    · exact hw
  · show 8 + (mxx + 11) + 40 * d ≤ _
    have : mxx ≤ 20 := p5
    omega
/-- the world as the two makers leave it -/
def gBegun (q : gS) : Prop := q.1.2 = 128 ∧ gHas q.1.1 0 (gsh_OT [none, none, none]) ∧ gHas q.1.1 81 gsh_MO ∧ ∀ id x, id < 128 → q.2.1 id x = gI0 id x
set_option maxRecDepth 100000 in
set_option maxHeartbeats 4000000 in
theorem whole_of {I : Nat → gS → Prop} (hI : gSim I) (hI0 : ∀ q, gBegun q → I 0 q) {p : Program} {e : Env} {s : State} {m : MethodId} {below : List Frame} {meth : Method} {c : Code} (l : Launch) {b L : Nat} {xs : Nat → Int32} (hL : L ≤ 3584) (C0 : lw_At p s m meth c b L xs) : W p l e room_1 s m #[Value.ref b] below meth c s.heap [] 0 0 (lw_Z below #[Value.ref b] s) (entryFrame m ([Value.ref b] : List Value).toArray 4) := by
  obtain ⟨hx, hb, hr, hml, hown, hts, hX, hbl, hlocks, hgv⟩ := C0
  have hown : s.vm.findClass "OilTownLaw" = some m.cls := hown
  have hT : ∀ w ∈ gT, w.before #[Value.ref b] s = true := fun w hw => hts w (List.mem_filter.mp hw).1
  obtain ⟨D, ax, str, hE, hZ⟩ := gstart hts hgv
  have hC : gLc p s m #[Value.ref b] c D ax str b L xs := ⟨hx, hb, hml, hT, hown, hE, hZ, hX, hbl, hL⟩
  obtain ⟨⟨⟨S1, n1⟩, N1, L1⟩, g1, hn1, hh1, hm1⟩ := made_OT
  have hn1 : n1 = 81 := hn1
  subst hn1
  obtain ⟨s2, g2, hn2, hh2, hk2, hm2⟩ := made_MO (S := S1) (N := N1) (Lg := L1)
  have hB : gBegun s2 := by
    refine ⟨hn2, hh1.lt (B := 81) (Nat.le_refl _) hk2.1, hh2, fun id x hid => ?_⟩
    rcases Nat.lt_or_ge id 81 with h | h
    · rw [hk2.2.1 id h]
      exact hm1 id x h
    · obtain ⟨j, rfl⟩ : ∃ j, id = 81 + j := ⟨id - 81, by omega⟩
      exact hm2 j x (by omega)
  have hS : va_S (fun x => s.heap.size ≤ x) s.heap s.heap [] := va_S.rf
  have hR0 : gRep D ax str s.heap.size gs0 s.heap := ⟨rfl, fun id e h => by cases h⟩
  have hl := lv_entry ([.ref b]) (n := 4) (Nat.le_of_ble_eq_true rfl)
  rw [lg_entry_eq]
  generalize (lg_sl ([.ref b]) ++ List.replicate (4 - (lg_sl ([.ref b])).length) Slot.unset).toArray = ls at hl ⊢
  have hl : lv_has ls 4 [(0, .ref b)] := hl
  obtain ⟨C1, T1, M1, c1, l1, d1⟩ := gckL_of s.heap.size str gckL_11
  cases c1
  refine g_new (ci := 11) (index := 7) (fs := gdf 11) hx hb hT (fun w hw => hw) hown hE.1 hR0 hS rfl l1 d1 (hT _ (gix_mem (i := 91) (by decide +kernel))) (hT _ (gix_mem (i := 92) (by decide +kernel))) (hT _ (gix_mem (i := 71) (by decide +kernel))) (Nat.le_of_ble_eq_true rfl) (Nat.le_of_ble_eq_true rfl) (gfind_ok glw_ok_0 rfl) (fun H1 hR1 hS1 => ?_)
  refine lv_dup hx hb (gfind_ok glw_ok_0 rfl) rfl ?_
  refine gcallLI (b := s.heap.size) (d := 10) (n := 108) (a := 0) (ps := (93, 94, 0, 71)) (rest := [.ref (s.heap.size + 0)]) hx hb hml hT hown hE hZ ⟨by decide, by decide⟩ ((gsound l D ax str s.heap.size 10 _ _ _ _ g1).1) (gfind_ok glw_ok_0 rfl) (by decide +kernel) rfl (fun x h => by cases (Option.some.inj h); rfl) (Nat.le_of_ble_eq_true rfl) hl.1 hR1 hS1 (Nat.le_of_ble_eq_true rfl) (Nat.le_of_ble_eq_true rfl) (fun H2 locs2 hR2 hS2 => ?_)
  refine lv_astore_n (lv' := [(1, .ref (s.heap.size + 0)), (0, .ref b)]) hx hb (gfind_ok glw_ok_0 rfl) rfl hl (by decide) rfl (fun ls hl => ?_)
  obtain ⟨C2, T2, M2, c2, l2, d2⟩ := gckL_of s.heap.size str gckL_12
  cases c2
  refine g_new (ci := 12) (index := 10) (fs := gdf 12) hx hb hT (fun w hw => hw) hown hE.1 hR2 hS2 rfl l2 d2 (hT _ (gix_mem (i := 1187) (by decide +kernel))) (hT _ (gix_mem (i := 1188) (by decide +kernel))) (hT _ (gix_mem (i := 84) (by decide +kernel))) (Nat.le_of_ble_eq_true rfl) (Nat.le_of_ble_eq_true rfl) (gfind_ok glw_ok_0 rfl) (fun H3 hR3 hS3 => ?_)
  refine lv_dup hx hb (gfind_ok glw_ok_0 rfl) rfl ?_
  refine gcallLI (b := s.heap.size) (d := 10) (n := 156) (a := 81) (ps := (1189, 1190, 0, 84)) (rest := [.ref (s.heap.size + 81)]) hx hb hml hT hown hE hZ ⟨by decide, by decide⟩ ((gsound l D ax str s.heap.size 10 _ _ _ _ g2).1) (gfind_ok glw_ok_0 rfl) (by decide +kernel) rfl (fun x h => by cases (Option.some.inj h); rfl) (Nat.le_of_ble_eq_true rfl) hl.1 hR3 hS3 (Nat.le_of_ble_eq_true rfl) (Nat.le_of_ble_eq_true rfl) (fun H4 locs4 hR4 hS4 => ?_)
  refine lv_astore_n (lv' := [(2, .ref (s.heap.size + 81)), (1, .ref (s.heap.size + 0)), (0, .ref b)]) hx hb (gfind_ok glw_ok_0 rfl) rfl hl (by decide) rfl (fun ls hl => ?_)
  refine lv_iconst (v := nI 0) hx hb (gfind_ok glw_ok_0 rfl) rfl ?_
  refine lv_istore_n (lv' := [(3, .int (nI 0)), (2, .ref (s.heap.size + 81)), (1, .ref (s.heap.size + 0)), (0, .ref b)]) hx hb (gfind_ok glw_ok_0 rfl) rfl hl (by decide) rfl (fun ls hl => ?_)
  exact law_loop hC hr hlocks hI (L + 1) 0 s2 H4 locs4 _ _ ls (by omega) (by omega) (lv_sub hl [3, 2, 1, 0] rfl) hR4 hS4 (Nat.le_of_ble_eq_true rfl) (Nat.le_of_ble_eq_true rfl) (hI0 s2 hB)
