/-! ===== soundness: one instruction ===== -/
set_option maxHeartbeats 8000000 in
set_option maxRecDepth 100000 in
theorem gone {p : Program} {l : Launch} {e : Env} {R : Room} {s : State} {m : MethodId} {args : Array Value} {below : List Frame} {meth : Method} {c : Code} {cc : ByteArray} {o : Nat} {ini : Bool} {rt : Option FieldType} {mx mc ms : Nat} {D : va_G} {ax : Nat → ClassId} {str : Nat → Nat} {b : Nat} {q0 : gS} {r : Option Value × gS} {d : Nat}
    (cx : gCx p R s m args meth c cc o ini rt mx mc ms D ax str b q0) (hRf : d + 1 ≤ R.frames ∧ 40 * d + 40 ≤ R.locals) {C : Nat → List Value → gS → Option Value × gS → Prop} (hC : ∀ n as q r, C n as q r → gMet l D ax str b d n as q r)
    (hX : ∀ n as q r, C n as q r → n = 900 ∨ n = 901 → (∀ j as', as = .retAddr j :: as' → j < 7) ∧ gStrMet l D ax str b d n as q r)
    {k : Nat → gL → List Value → gS → Nat × Nat → Prop} (hk : ∀ pc ls st q bd, k pc ls st q bd → gWp p l e R s m args below meth c mx mc ms D ax str b q0 (MQ below (gQc D ax str b q0 r) args s mc ms (gA b q0.1)) pc ls st q bd)
    {post : gPost} (hp : ∀ v t, post v t → (v, t) = r) {pc nx kp : Nat} {ins : Instr} {v : Int32} {ls : gL} {st : List Value} {q : gS} {bd : Nat × Nat} (hck : gck o ini rt mx cc (pc, ins, nx, v, kp) = true)
    (h : gstep C gmi gdf ins nx v ls st q bd post k) : gWp p l e R s m args below meth c mx mc ms D ax str b q0 (MQ below (gQc D ax str b q0 r) args s mc ms (gA b q0.1)) pc ls st q bd := by
  obtain ⟨hx, hb, hml, hts, hown, hE, hZ, hin, hr, hlk, ⟨hRc, hRs, hfr, hlo⟩, hsz⟩ := cx
  obtain ⟨cins, len, hd, rfl, hm⟩ := gck_of hck
  intro H locs cells slots als hl hR hS hA hc hs
  have hK := hE.1
  have go := fun pc ls st q bd h => hk pc ls st q bd h H locs cells slots
  cases ins with
  | iadd =>
    have hm : (gplain .iadd && (decide (cins = .iadd) && Nat.beq len 1)) = true := hm
    rw [Bool.and_eq_true, Bool.and_eq_true, decide_eq_true_eq] at hm
    obtain ⟨-, rfl, h1⟩ := hm
    cases Nat.eq_of_beq_eq_true h1
    unfold gstep at h
    dsimp only at h
    split at h
    · exact lv_iadd hx hb hd (go _ _ _ _ _ h als hl hR hS hA hc hs)
    · exact h.elim
  | isub =>
    have hm : (gplain .isub && (decide (cins = .isub) && Nat.beq len 1)) = true := hm
    rw [Bool.and_eq_true, Bool.and_eq_true, decide_eq_true_eq] at hm
    obtain ⟨-, rfl, h1⟩ := hm
    cases Nat.eq_of_beq_eq_true h1
    unfold gstep at h
    dsimp only at h
    split at h
    · exact lv_isub hx hb hd (go _ _ _ _ _ h als hl hR hS hA hc hs)
    · exact h.elim
  | imul =>
    have hm : (gplain .imul && (decide (cins = .imul) && Nat.beq len 1)) = true := hm
    rw [Bool.and_eq_true, Bool.and_eq_true, decide_eq_true_eq] at hm
    obtain ⟨-, rfl, h1⟩ := hm
    cases Nat.eq_of_beq_eq_true h1
    unfold gstep at h
    dsimp only at h
    split at h
    · exact lv_imul hx hb hd (go _ _ _ _ _ h als hl hR hS hA hc hs)
    · exact h.elim
  | iand =>
    have hm : (gplain .iand && (decide (cins = .iand) && Nat.beq len 1)) = true := hm
    rw [Bool.and_eq_true, Bool.and_eq_true, decide_eq_true_eq] at hm
    obtain ⟨-, rfl, h1⟩ := hm
    cases Nat.eq_of_beq_eq_true h1
    unfold gstep at h
    dsimp only at h
    split at h
    · exact lv_iand hx hb hd (go _ _ _ _ _ h als hl hR hS hA hc hs)
    · exact h.elim
  | ior =>
    have hm : (gplain .ior && (decide (cins = .ior) && Nat.beq len 1)) = true := hm
    rw [Bool.and_eq_true, Bool.and_eq_true, decide_eq_true_eq] at hm
    obtain ⟨-, rfl, h1⟩ := hm
    cases Nat.eq_of_beq_eq_true h1
    unfold gstep at h
    dsimp only at h
    split at h
    · exact lv_ior hx hb hd (go _ _ _ _ _ h als hl hR hS hA hc hs)
    · exact h.elim
  | ixor =>
    have hm : (gplain .ixor && (decide (cins = .ixor) && Nat.beq len 1)) = true := hm
    rw [Bool.and_eq_true, Bool.and_eq_true, decide_eq_true_eq] at hm
    obtain ⟨-, rfl, h1⟩ := hm
    cases Nat.eq_of_beq_eq_true h1
    unfold gstep at h
    dsimp only at h
    split at h
    · exact lv_ixor hx hb hd (go _ _ _ _ _ h als hl hR hS hA hc hs)
    · exact h.elim
  | ishl =>
    have hm : (gplain .ishl && (decide (cins = .ishl) && Nat.beq len 1)) = true := hm
    rw [Bool.and_eq_true, Bool.and_eq_true, decide_eq_true_eq] at hm
    obtain ⟨-, rfl, h1⟩ := hm
    cases Nat.eq_of_beq_eq_true h1
    unfold gstep at h
    dsimp only at h
    split at h
    · exact lv_ishl hx hb hd (go _ _ _ _ _ h als hl hR hS hA hc hs)
    · exact h.elim
  | ishr =>
    have hm : (gplain .ishr && (decide (cins = .ishr) && Nat.beq len 1)) = true := hm
    rw [Bool.and_eq_true, Bool.and_eq_true, decide_eq_true_eq] at hm
    obtain ⟨-, rfl, h1⟩ := hm
    cases Nat.eq_of_beq_eq_true h1
    unfold gstep at h
    dsimp only at h
    split at h
    · exact lv_ishr hx hb hd (go _ _ _ _ _ h als hl hR hS hA hc hs)
    · exact h.elim
  | ineg =>
    have hm : (gplain .ineg && (decide (cins = .ineg) && Nat.beq len 1)) = true := hm
    rw [Bool.and_eq_true, Bool.and_eq_true, decide_eq_true_eq] at hm
    obtain ⟨-, rfl, h1⟩ := hm
    cases Nat.eq_of_beq_eq_true h1
    unfold gstep at h
    dsimp only at h
    split at h
    · exact lv_ineg hx hb hd (go _ _ _ _ _ h als hl hR hS hA hc hs)
    · exact h.elim
  | idiv =>
    have hm : (gplain .idiv && (decide (cins = .idiv) && Nat.beq len 1)) = true := hm
    rw [Bool.and_eq_true, Bool.and_eq_true, decide_eq_true_eq] at hm
    obtain ⟨-, rfl, h1⟩ := hm
    cases Nat.eq_of_beq_eq_true h1
    unfold gstep at h
    dsimp only at h
    split at h
    · split at h
      · exact h.elim
      · rename_i hne
        exact lv_idiv hx hb hd hne (go _ _ _ _ _ h als hl hR hS hA hc hs)
    · exact h.elim
  | irem =>
    have hm : (gplain .irem && (decide (cins = .irem) && Nat.beq len 1)) = true := hm
    rw [Bool.and_eq_true, Bool.and_eq_true, decide_eq_true_eq] at hm
    obtain ⟨-, rfl, h1⟩ := hm
    cases Nat.eq_of_beq_eq_true h1
    unfold gstep at h
    dsimp only at h
    split at h
    · split at h
      · exact h.elim
      · rename_i hne
        exact lv_irem hx hb hd hne (go _ _ _ _ _ h als hl hR hS hA hc hs)
    · exact h.elim
  | ladd =>
    have hm : (gplain .ladd && (decide (cins = .ladd) && Nat.beq len 1)) = true := hm
    rw [Bool.and_eq_true, Bool.and_eq_true, decide_eq_true_eq] at hm
    obtain ⟨-, rfl, h1⟩ := hm
    cases Nat.eq_of_beq_eq_true h1
    unfold gstep at h
    dsimp only at h
    split at h
    · exact lv_ladd hx hb hd (go _ _ _ _ _ h als hl hR hS hA hc hs)
    · exact h.elim
  | lmul =>
    have hm : (gplain .lmul && (decide (cins = .lmul) && Nat.beq len 1)) = true := hm
    rw [Bool.and_eq_true, Bool.and_eq_true, decide_eq_true_eq] at hm
    obtain ⟨-, rfl, h1⟩ := hm
    cases Nat.eq_of_beq_eq_true h1
    unfold gstep at h
    dsimp only at h
    split at h
    · exact lv_lmul hx hb hd (go _ _ _ _ _ h als hl hR hS hA hc hs)
    · exact h.elim
  | ldiv =>
    have hm : (gplain .ldiv && (decide (cins = .ldiv) && Nat.beq len 1)) = true := hm
    rw [Bool.and_eq_true, Bool.and_eq_true, decide_eq_true_eq] at hm
    obtain ⟨-, rfl, h1⟩ := hm
    cases Nat.eq_of_beq_eq_true h1
    unfold gstep at h
    dsimp only at h
    split at h
    · split at h
      · exact h.elim
      · rename_i hne
        exact lv_ldiv hx hb hd hne (go _ _ _ _ _ h als hl hR hS hA hc hs)
    · exact h.elim
  | i2l =>
    have hm : (gplain .i2l && (decide (cins = .i2l) && Nat.beq len 1)) = true := hm
    rw [Bool.and_eq_true, Bool.and_eq_true, decide_eq_true_eq] at hm
    obtain ⟨-, rfl, h1⟩ := hm
    cases Nat.eq_of_beq_eq_true h1
    unfold gstep at h
    dsimp only at h
    split at h
    · exact lv_i2l hx hb hd rfl (go _ _ _ _ _ h als hl hR hS hA hc hs)
    · exact h.elim
  | l2i =>
    have hm : (gplain .l2i && (decide (cins = .l2i) && Nat.beq len 1)) = true := hm
    rw [Bool.and_eq_true, Bool.and_eq_true, decide_eq_true_eq] at hm
    obtain ⟨-, rfl, h1⟩ := hm
    cases Nat.eq_of_beq_eq_true h1
    unfold gstep at h
    dsimp only at h
    split at h
    · exact lv_l2i hx hb hd rfl (go _ _ _ _ _ h als hl hR hS hA hc hs)
    · exact h.elim
  | i2b =>
    have hm : (gplain .i2b && (decide (cins = .i2b) && Nat.beq len 1)) = true := hm
    rw [Bool.and_eq_true, Bool.and_eq_true, decide_eq_true_eq] at hm
    obtain ⟨-, rfl, h1⟩ := hm
    cases Nat.eq_of_beq_eq_true h1
    unfold gstep at h
    dsimp only at h
    split at h
    · exact lv_i2b hx hb hd rfl (go _ _ _ _ _ h als hl hR hS hA hc hs)
    · exact h.elim
  | i2s =>
    have hm : (gplain .i2s && (decide (cins = .i2s) && Nat.beq len 1)) = true := hm
    rw [Bool.and_eq_true, Bool.and_eq_true, decide_eq_true_eq] at hm
    obtain ⟨-, rfl, h1⟩ := hm
    cases Nat.eq_of_beq_eq_true h1
    unfold gstep at h
    dsimp only at h
    split at h
    · exact lv_i2s hx hb hd rfl (go _ _ _ _ _ h als hl hR hS hA hc hs)
    · exact h.elim
  | lshr =>
    have hm : (gplain .lshr && (decide (cins = .lshr) && Nat.beq len 1)) = true := hm
    rw [Bool.and_eq_true, Bool.and_eq_true, decide_eq_true_eq] at hm
    obtain ⟨-, rfl, h1⟩ := hm
    cases Nat.eq_of_beq_eq_true h1
    unfold gstep at h
    dsimp only at h
    split at h
    · exact lv_lshr hx hb hd rfl (go _ _ _ _ _ h als hl hR hS hA hc hs)
    · exact h.elim
  | lushr =>
    have hm : (gplain .lushr && (decide (cins = .lushr) && Nat.beq len 1)) = true := hm
    rw [Bool.and_eq_true, Bool.and_eq_true, decide_eq_true_eq] at hm
    obtain ⟨-, rfl, h1⟩ := hm
    cases Nat.eq_of_beq_eq_true h1
    unfold gstep at h
    dsimp only at h
    split at h
    · exact lv_lushr hx hb hd rfl (go _ _ _ _ _ h als hl hR hS hA hc hs)
    · exact h.elim
  | lcmp =>
    have hm : (gplain .lcmp && (decide (cins = .lcmp) && Nat.beq len 1)) = true := hm
    rw [Bool.and_eq_true, Bool.and_eq_true, decide_eq_true_eq] at hm
    obtain ⟨-, rfl, h1⟩ := hm
    cases Nat.eq_of_beq_eq_true h1
    unfold gstep at h
    dsimp only at h
    split at h
    · exact W.lcmp hx hb hd (go _ _ _ _ _ h als hl hR hS hA hc hs)
    · exact h.elim
  | dup =>
    have hm : (gplain .dup && (decide (cins = .dup) && Nat.beq len 1)) = true := hm
    rw [Bool.and_eq_true, Bool.and_eq_true, decide_eq_true_eq] at hm
    obtain ⟨-, rfl, h1⟩ := hm
    cases Nat.eq_of_beq_eq_true h1
    unfold gstep at h
    dsimp only at h
    split at h
    · exact lv_dup hx hb hd rfl (go _ _ _ _ _ h als hl hR hS hA hc hs)
    · exact lv_dup hx hb hd rfl (go _ _ _ _ _ h als hl hR hS hA hc hs)
    · exact h.elim
  | dup2 =>
    have hm : (gplain .dup2 && (decide (cins = .dup2) && Nat.beq len 1)) = true := hm
    rw [Bool.and_eq_true, Bool.and_eq_true, decide_eq_true_eq] at hm
    obtain ⟨-, rfl, h1⟩ := hm
    cases Nat.eq_of_beq_eq_true h1
    unfold gstep at h
    dsimp only at h
    split at h
    · exact lv_dup2_11 hx hb hd rfl rfl (go _ _ _ _ _ h als hl hR hS hA hc hs)
    · exact h.elim
  | pop =>
    have hm : (gplain .pop && (decide (cins = .pop) && Nat.beq len 1)) = true := hm
    rw [Bool.and_eq_true, Bool.and_eq_true, decide_eq_true_eq] at hm
    obtain ⟨-, rfl, h1⟩ := hm
    cases Nat.eq_of_beq_eq_true h1
    unfold gstep at h
    dsimp only at h
    split at h
    · exact lv_pop hx hb hd rfl (go _ _ _ _ _ h als hl hR hS hA hc hs)
    · exact h.elim
  | iconst i0 =>
    have h : k (pc + len) ls (.int v :: st) q bd := h
    unfold gmt at hm
    dsimp only at hm
    split at hm
    · rw [Bool.and_eq_true, decide_eq_true_eq] at hm
      cases Nat.eq_of_beq_eq_true hm.1
      exact lv_iconst hx hb hd hm.2 (go _ _ _ _ _ h als hl hR hS hA hc hs)
    · rw [Bool.and_eq_true, decide_eq_true_eq] at hm
      cases Nat.eq_of_beq_eq_true hm.1
      exact lv_bipush hx hb hd hm.2 (go _ _ _ _ _ h als hl hR hS hA hc hs)
    · rw [Bool.and_eq_true, decide_eq_true_eq] at hm
      cases Nat.eq_of_beq_eq_true hm.1
      exact lv_sipush hx hb hd hm.2 (go _ _ _ _ _ h als hl hR hS hA hc hs)
    · rw [Bool.and_eq_true] at hm
      cases Nat.eq_of_beq_eq_true hm.1
      obtain ⟨⟨a1, a2, a3, a4⟩, hq, hq2⟩ := List.any_eq_true.mp hm.2
      simp only [Bool.and_eq_true, decide_eq_true_eq] at hq2
      obtain ⟨z1, z2, rfl⟩ := hq2
      cases Nat.eq_of_beq_eq_true z1; cases Nat.eq_of_beq_eq_true z2
      exact lv_ldc hx hb hown (hts _ (gix_mem (List.all_eq_true.mp gCO_all _ hq))) hd (go _ _ _ _ _ h als hl hR hS hA hc hs)
    · rw [Bool.and_eq_true] at hm
      cases Nat.eq_of_beq_eq_true hm.1
      obtain ⟨⟨a1, a2, a3, a4⟩, hq, hq2⟩ := List.any_eq_true.mp hm.2
      simp only [Bool.and_eq_true, decide_eq_true_eq] at hq2
      obtain ⟨z1, z2, rfl⟩ := hq2
      cases Nat.eq_of_beq_eq_true z1; cases Nat.eq_of_beq_eq_true z2
      exact lv_ldcw hx hb hown (hts _ (gix_mem (List.all_eq_true.mp gCO_all _ hq))) hd (go _ _ _ _ _ h als hl hR hS hA hc hs)
    · cases hm
  | lconst i0 =>
    have h : k (pc + len) ls (.long v.toInt64 :: st) q bd := h
    unfold gmt at hm
    dsimp only at hm
    split at hm
    · rw [Bool.and_eq_true, decide_eq_true_eq] at hm
      cases Nat.eq_of_beq_eq_true hm.1
      exact lv_lconst hx hb hd hm.2 (go _ _ _ _ _ h als hl hR hS hA hc hs)
    · rw [Bool.and_eq_true] at hm
      cases Nat.eq_of_beq_eq_true hm.1
      obtain ⟨⟨a1, a2, a3, a4⟩, hq, hq2⟩ := List.any_eq_true.mp hm.2
      simp only [Bool.and_eq_true, decide_eq_true_eq] at hq2
      obtain ⟨z1, z2, rfl⟩ := hq2
      cases Nat.eq_of_beq_eq_true z1; cases Nat.eq_of_beq_eq_true z2
      exact lv_ldc2 hx hb hown (hts _ (gix_mem (List.all_eq_true.mp gLO_all _ hq))) hd (go _ _ _ _ _ h als hl hR hS hA hc hs)
    · cases hm
  | ldc j =>
    have h : k (pc + len) ls (.retAddr j :: st) q bd := h
    unfold gmt at hm
    dsimp only at hm
    split at hm
    · rw [Bool.and_eq_true] at hm
      cases Nat.eq_of_beq_eq_true hm.1
      obtain ⟨⟨a1, a2, a3⟩, hq, hq2⟩ := List.any_eq_true.mp hm.2
      simp only [Bool.and_eq_true] at hq2
      obtain ⟨z1, z2, z3⟩ := hq2
      cases Nat.eq_of_beq_eq_true z1; cases Nat.eq_of_beq_eq_true z2; cases Nat.eq_of_beq_eq_true z3
      exact va_ldcS hx hb hown (hE.2.2.2 _ hq) hd (go _ _ _ _ _ h als hl hR hS hA hc hs)
    · cases hm
  | iload i =>
    unfold gmt at hm
    dsimp only at hm
    unfold gstep at h
    dsimp only at h
    split at h
    · rename_i x hg
      have hg := gloc hl hg
      split at hm
      · rw [Bool.and_eq_true] at hm
        cases Nat.eq_of_beq_eq_true hm.1; cases Nat.eq_of_beq_eq_true hm.2
        exact lv_iload hx hb hd hg (go _ _ _ _ _ h als hl hR hS hA hc hs)
      · rw [Bool.and_eq_true] at hm
        cases Nat.eq_of_beq_eq_true hm.1
        exact lv_iload_n hx hb hd (Nat.eq_of_beq_eq_true hm.2) hg (go _ _ _ _ _ h als hl hR hS hA hc hs)
      · cases hm
    · exact h.elim
  | lload i =>
    unfold gmt at hm
    dsimp only at hm
    unfold gstep at h
    dsimp only at h
    split at h
    · rename_i x hg
      have hg := gloc hl hg
      split at hm
      · rw [Bool.and_eq_true] at hm
        cases Nat.eq_of_beq_eq_true hm.1; cases Nat.eq_of_beq_eq_true hm.2
        exact lv_lload hx hb hd hg (go _ _ _ _ _ h als hl hR hS hA hc hs)
      · rw [Bool.and_eq_true] at hm
        cases Nat.eq_of_beq_eq_true hm.1
        exact lv_lload_n hx hb hd (Nat.eq_of_beq_eq_true hm.2) hg (go _ _ _ _ _ h als hl hR hS hA hc hs)
      · cases hm
    · exact h.elim
  | aload i =>
    unfold gmt at hm
    dsimp only at hm
    unfold gstep at h
    dsimp only at h
    split at h
    · rename_i x hg
      have hg := gloc hl hg
      split at hm
      · rw [Bool.and_eq_true] at hm
        cases Nat.eq_of_beq_eq_true hm.1; cases Nat.eq_of_beq_eq_true hm.2
        exact lv_aload hx hb hd hg (go _ _ _ _ _ h als hl hR hS hA hc hs)
      · rw [Bool.and_eq_true] at hm
        cases Nat.eq_of_beq_eq_true hm.1
        exact lv_aload_n hx hb hd (Nat.eq_of_beq_eq_true hm.2) hg (go _ _ _ _ _ h als hl hR hS hA hc hs)
      · cases hm
    · rename_i x hg
      have hg := gloc hl hg
      split at hm
      · rw [Bool.and_eq_true] at hm
        cases Nat.eq_of_beq_eq_true hm.1; cases Nat.eq_of_beq_eq_true hm.2
        exact lv_aload hx hb hd hg (go _ _ _ _ _ h als hl hR hS hA hc hs)
      · rw [Bool.and_eq_true] at hm
        cases Nat.eq_of_beq_eq_true hm.1
        exact lv_aload_n hx hb hd (Nat.eq_of_beq_eq_true hm.2) hg (go _ _ _ _ _ h als hl hR hS hA hc hs)
      · cases hm
    · exact h.elim
  | istore i =>
    unfold gmt at hm
    dsimp only at hm
    unfold gstep at h
    dsimp only at h
    split at h
    · split at hm
      · rw [Bool.and_eq_true, Bool.and_eq_true] at hm
        obtain ⟨z1, z2, z3⟩ := hm
        cases Nat.eq_of_beq_eq_true z1
        have z3 := Nat.le_of_ble_eq_true z3
        cases Nat.eq_of_beq_eq_true z2
        exact lv_istore hx hb hd hl (by omega) rfl (fun als1 hl1 => go _ _ _ _ _ h als1 (gloc_set hl1) hR hS hA hc hs)
      · rw [Bool.and_eq_true, Bool.and_eq_true] at hm
        obtain ⟨z1, z2, z3⟩ := hm
        cases Nat.eq_of_beq_eq_true z1
        have z3 := Nat.le_of_ble_eq_true z3
        exact lv_istore_n hx hb hd (Nat.eq_of_beq_eq_true z2) hl (by omega) rfl (fun als1 hl1 => go _ _ _ _ _ h als1 (gloc_set hl1) hR hS hA hc hs)
      · cases hm
    · exact h.elim
  | lstore i =>
    unfold gmt at hm
    dsimp only at hm
    unfold gstep at h
    dsimp only at h
    split at h
    · split at hm
      · rw [Bool.and_eq_true, Bool.and_eq_true] at hm
        obtain ⟨z1, z2, z3⟩ := hm
        cases Nat.eq_of_beq_eq_true z1
        have z3 := Nat.le_of_ble_eq_true z3
        cases Nat.eq_of_beq_eq_true z2
        exact lv_lstore hx hb hd hl (by omega) rfl (fun als1 hl1 => go _ _ _ _ _ h als1 (gloc_set2 hl1) hR hS hA hc hs)
      · rw [Bool.and_eq_true, Bool.and_eq_true] at hm
        obtain ⟨z1, z2, z3⟩ := hm
        cases Nat.eq_of_beq_eq_true z1
        have z3 := Nat.le_of_ble_eq_true z3
        exact lv_lstore_n hx hb hd (Nat.eq_of_beq_eq_true z2) hl (by omega) rfl (fun als1 hl1 => go _ _ _ _ _ h als1 (gloc_set2 hl1) hR hS hA hc hs)
      · cases hm
    · exact h.elim
  | astore i =>
    unfold gmt at hm
    dsimp only at hm
    unfold gstep at h
    dsimp only at h
    split at h
    · split at hm
      · rw [Bool.and_eq_true, Bool.and_eq_true] at hm
        obtain ⟨z1, z2, z3⟩ := hm
        cases Nat.eq_of_beq_eq_true z1
        have z3 := Nat.le_of_ble_eq_true z3
        cases Nat.eq_of_beq_eq_true z2
        exact lv_astore hx hb hd hl (by omega) rfl (fun als1 hl1 => go _ _ _ _ _ h als1 (gloc_set hl1) hR hS hA hc hs)
      · rw [Bool.and_eq_true, Bool.and_eq_true] at hm
        obtain ⟨z1, z2, z3⟩ := hm
        cases Nat.eq_of_beq_eq_true z1
        have z3 := Nat.le_of_ble_eq_true z3
        exact lv_astore_n hx hb hd (Nat.eq_of_beq_eq_true z2) hl (by omega) rfl (fun als1 hl1 => go _ _ _ _ _ h als1 (gloc_set hl1) hR hS hA hc hs)
      · cases hm
    · exact h.elim
  | iinc i n0 =>
    unfold gmt at hm
    dsimp only at hm
    unfold gstep at h
    dsimp only at h
    split at h
    · rename_i x hg
      split at hm
      · rw [Bool.and_eq_true, Bool.and_eq_true, Bool.and_eq_true, decide_eq_true_eq] at hm
        obtain ⟨z1, z2, z3, z4⟩ := hm
        cases Nat.eq_of_beq_eq_true z1; cases Nat.eq_of_beq_eq_true z2
        have z3 := Nat.le_of_ble_eq_true z3
        obtain ⟨k9, hk9⟩ := List.getElem?_of_mem (gas_in (b := b) (str := str) (k := 0) hg)
        rw [Nat.zero_add] at hk9
        exact lv_iinc hx hb hd hl hk9 (by rw [z4]) (by omega) rfl (fun als1 hl1 => go _ _ _ _ _ h als1 (gloc_set (v := .int (x + v)) hl1) hR hS hA hc hs)
      · cases hm
    · exact h.elim
  | ifCond c1 t =>
    unfold gmt at hm
    dsimp only at hm
    unfold gstep at h
    dsimp only at h
    split at h
    · split at hm
      · rw [Bool.and_eq_true, Bool.and_eq_true, decide_eq_true_eq, decide_eq_true_eq] at hm
        obtain ⟨z1, rfl, ht⟩ := hm
        cases Nat.eq_of_beq_eq_true z1
        rename_i c0 off
        cases c0 with
        | eq =>
          unfold gcmp at h
          dsimp only at h
          exact lv_if_eq hx hb hd ht (fun z => go _ _ _ _ _ (gb_eq_t z h) als hl hR hS hA hc hs) (fun z => go _ _ _ _ _ (gb_eq_f z h) als hl hR hS hA hc hs)
        | ne =>
          unfold gcmp at h
          dsimp only at h
          exact lv_if_ne hx hb hd ht (fun z => go _ _ _ _ _ (gb_ne_t z h) als hl hR hS hA hc hs) (fun z => go _ _ _ _ _ (gb_ne_f z h) als hl hR hS hA hc hs)
        | lt =>
          unfold gcmp at h
          dsimp only at h
          exact lv_if_lt hx hb hd ht (fun z => go _ _ _ _ _ (gb_lt_t z h) als hl hR hS hA hc hs) (fun z => go _ _ _ _ _ (gb_lt_f z h) als hl hR hS hA hc hs)
        | ge =>
          unfold gcmp at h
          dsimp only at h
          exact lv_if_ge hx hb hd ht (fun z => go _ _ _ _ _ (gb_ge_t z h) als hl hR hS hA hc hs) (fun z => go _ _ _ _ _ (gb_ge_f z h) als hl hR hS hA hc hs)
        | gt =>
          unfold gcmp at h
          dsimp only at h
          exact lv_if_gt hx hb hd ht (fun z => go _ _ _ _ _ (gb_gt_t z h) als hl hR hS hA hc hs) (fun z => go _ _ _ _ _ (gb_gt_f z h) als hl hR hS hA hc hs)
        | le =>
          unfold gcmp at h
          dsimp only at h
          exact lv_if_le hx hb hd ht (fun z => go _ _ _ _ _ (gb_le_t z h) als hl hR hS hA hc hs) (fun z => go _ _ _ _ _ (gb_le_f z h) als hl hR hS hA hc hs)
      · cases hm
    · exact h.elim
  | if_icmp c1 t =>
    unfold gmt at hm
    dsimp only at hm
    unfold gstep at h
    dsimp only at h
    split at h
    · split at hm
      · rw [Bool.and_eq_true, Bool.and_eq_true, decide_eq_true_eq, decide_eq_true_eq] at hm
        obtain ⟨z1, rfl, ht⟩ := hm
        cases Nat.eq_of_beq_eq_true z1
        rename_i c0 off
        cases c0 with
        | eq =>
          unfold gcmp at h
          dsimp only at h
          exact lv_icmp_eq hx hb hd ht (fun z => go _ _ _ _ _ (gb_eq_t z h) als hl hR hS hA hc hs) (fun z => go _ _ _ _ _ (gb_eq_f z h) als hl hR hS hA hc hs)
        | ne =>
          unfold gcmp at h
          dsimp only at h
          exact lv_icmp_ne hx hb hd ht (fun z => go _ _ _ _ _ (gb_ne_t z h) als hl hR hS hA hc hs) (fun z => go _ _ _ _ _ (gb_ne_f z h) als hl hR hS hA hc hs)
        | lt =>
          unfold gcmp at h
          dsimp only at h
          exact lv_icmp_lt hx hb hd ht (fun z => go _ _ _ _ _ (gb_lt_t z h) als hl hR hS hA hc hs) (fun z => go _ _ _ _ _ (gb_lt_f z h) als hl hR hS hA hc hs)
        | ge =>
          unfold gcmp at h
          dsimp only at h
          exact lv_icmp_ge hx hb hd ht (fun z => go _ _ _ _ _ (gb_ge_t z h) als hl hR hS hA hc hs) (fun z => go _ _ _ _ _ (gb_ge_f z h) als hl hR hS hA hc hs)
        | gt =>
          unfold gcmp at h
          dsimp only at h
          exact lv_icmp_gt hx hb hd ht (fun z => go _ _ _ _ _ (gb_gt_t z h) als hl hR hS hA hc hs) (fun z => go _ _ _ _ _ (gb_gt_f z h) als hl hR hS hA hc hs)
        | le =>
          unfold gcmp at h
          dsimp only at h
          exact lv_icmp_le hx hb hd ht (fun z => go _ _ _ _ _ (gb_le_t z h) als hl hR hS hA hc hs) (fun z => go _ _ _ _ _ (gb_le_f z h) als hl hR hS hA hc hs)
      · cases hm
    · exact h.elim
  | ifnonnull t =>
    unfold gmt at hm
    dsimp only at hm
    unfold gstep at h
    dsimp only at h
    split at hm
    · rw [Bool.and_eq_true, decide_eq_true_eq] at hm
      cases Nat.eq_of_beq_eq_true hm.1
      split at h
      · exact lv_ifnonnull hx hb hd hm.2 (go _ _ _ _ _ h als hl hR hS hA hc hs)
      · exact lv_ifnonnullN hx hb hd (go _ _ _ _ _ h als hl hR hS hA hc hs)
      · exact h.elim
    · cases hm
  | goto t =>
    unfold gmt at hm
    dsimp only at hm
    have h : k t.toNat ls st q bd := h
    split at hm
    · rw [Bool.and_eq_true, decide_eq_true_eq] at hm
      cases Nat.eq_of_beq_eq_true hm.1
      exact lv_goto hx hb hd hm.2 (go _ _ _ _ _ h als hl hR hS hA hc hs)
    · cases hm
  | lookupswitch dd ps =>
    unfold gstep at h
    dsimp only at h
    split at h
    · rename_i x st
      exact gswitch hx hb hd hm h (fun t ht => go _ _ _ _ _ ht als hl hR hS hA hc hs)
    · exact h.elim
  | invokeinterface ci f =>
    unfold gmt at hm
    dsimp only at hm
    unfold gstep at h
    dsimp only at h
    split at hm
    · rw [Bool.and_eq_true] at hm
      cases Nat.eq_of_beq_eq_true hm.1
      obtain ⟨pos, hq⟩ := g4_mem hm.2
      obtain ⟨C, T, N, hcl, hw⟩ := gfb_of (List.all_eq_true.mp gFL_all _ hq)
      split at h
      · split at h
        · rename_i c0 fs hsq
          cases hcc : Nat.beq c0 ci with
          | true =>
            rw [hcc] at h
            cases Nat.eq_of_beq_eq_true hcc
            have h := h
            dsimp only [cond] at h
            split at h
            · rename_i f9 hf9
              exact g_get hx hb hts (fun w hw => hw) hown hK hR hsq hcl hf9 (hts _ hw) hd (go _ _ _ _ _ h als hl hR hS hA hc hs)
            · exact h.elim
          | false =>
            rw [hcc] at h
            exact (h : False).elim
        · exact h.elim
      · exact h.elim
    · cases hm
  | multianewarray ci f =>
    unfold gmt at hm
    dsimp only at hm
    unfold gstep at h
    dsimp only at h
    split at hm
    · rw [Bool.and_eq_true, Bool.or_eq_true] at hm
      cases Nat.eq_of_beq_eq_true hm.1
      have hm := hm.2
      split at h
      · split at h
        · rename_i c0 fs hsq
          cases hcc : Nat.beq c0 ci with
          | true =>
            rw [hcc] at h
            cases Nat.eq_of_beq_eq_true hcc
            dsimp only [cond] at h
            split at h
            · rename_i hf9 hg9
              rcases hm with hm | hm
              · obtain ⟨pos, hq⟩ := g4_mem hm
                obtain ⟨C9, T9, N9, hcl, hw, hfi, hpd, hdf⟩ := gfbI_of (List.all_eq_true.mp gPI_all _ hq)
                cases hz : gZf _ f with
                | true =>
                  rw [hz] at h hpd
                  dsimp only [cond] at h
                  split at h
                  · rename_i h01
                    exact g_putI hx hb hts (fun w hw => hw) hown hK hR hS (hA _ (gA.at hsq)) hsq hcl hf9 (hts _ hw) hfi hpd (by rcases h01 with rfl | rfl <;> rfl) (by rcases h01 with rfl | rfl <;> rfl) hd (fun H9 locs9 hR9 hS9 => hk _ _ _ _ _ h H9 locs9 cells slots als hl hR9 hS9 hA hc hs)
                  · exact h.elim
                | false =>
                  rw [hz] at h hpd
                  exact g_putI hx hb hts (fun w hw => hw) hown hK hR hS (hA _ (gA.at hsq)) hsq hcl hf9 (hts _ hw) hfi hpd rfl rfl hd (fun H9 locs9 hR9 hS9 => hk _ _ _ _ _ h H9 locs9 cells slots als hl hR9 hS9 hA hc hs)
              · rw [Bool.and_eq_true] at hm
                obtain ⟨pos, hq⟩ := g4_mem hm.2
                obtain ⟨C9, T9, N9, ty9, hcl, hw, hfi, hdc, hpd, hnf, hdf⟩ := gfbR_of (List.all_eq_true.mp gPR_all _ hq)
                rw [hg9] at hdf
                cases hdf
            · exact h.elim
          | false =>
            rw [hcc] at h
            exact (h : False).elim
        · exact h.elim
      · split at h
        · rename_i c0 fs hsq
          cases hcc : Nat.beq c0 ci with
          | true =>
            rw [hcc] at h
            cases Nat.eq_of_beq_eq_true hcc
            dsimp only [cond] at h
            split at h
            · rename_i hf9 hg9
              rcases hm with hm | hm
              · obtain ⟨pos, hq⟩ := g4_mem hm
                obtain ⟨C9, T9, N9, hcl, hw, hfi, hpd, hdf⟩ := gfbI_of (List.all_eq_true.mp gPI_all _ hq)
                rw [hg9] at hdf
                cases hdf
              · rw [Bool.and_eq_true] at hm
                obtain ⟨pos, hq⟩ := g4_mem hm.2
                obtain ⟨C9, T9, N9, ty9, hcl, hw, hfi, hdc, hpd, hnf, hdf⟩ := gfbR_of (List.all_eq_true.mp gPR_all _ hq)
                exact g_putR hx hb hts (fun w hw => hw) hown hK hR hS (hA _ (gA.at hsq)) hsq hcl hf9 (hts _ hw) hfi (hin hm.1) hdc hpd (hnf _).1 (hnf _).2 hd (fun H9 locs9 hR9 hS9 => hk _ _ _ _ _ h H9 locs9 cells slots als hl hR9 hS9 (fun x hx => hA x (gA.set hsq x hx)) hc hs)
            · exact h.elim
          | false =>
            rw [hcc] at h
            exact (h : False).elim
        · exact h.elim
      · exact h.elim
    · cases hm
  | iaload =>
    have hm : (gplain .iaload && (decide (cins = .iaload) && Nat.beq len 1)) = true := hm
    rw [Bool.and_eq_true, Bool.and_eq_true, decide_eq_true_eq] at hm
    obtain ⟨-, rfl, h1⟩ := hm
    cases Nat.eq_of_beq_eq_true h1
    unfold gstep at h
    dsimp only at h
    split at h
    · split at h
      · rename_i n9 hsq
        cases hg : gib _ n9 with
        | true =>
          rw [hg] at h
          exact g_iald hx hb hK hR hsq hg hd (go _ _ _ _ _ h als hl hR hS hA hc hs)
        | false =>
          rw [hg] at h
          exact (h : False).elim
      · exact h.elim
    · exact h.elim
  | baload =>
    have hm : (gplain .baload && (decide (cins = .baload) && Nat.beq len 1)) = true := hm
    rw [Bool.and_eq_true, Bool.and_eq_true, decide_eq_true_eq] at hm
    obtain ⟨-, rfl, h1⟩ := hm
    cases Nat.eq_of_beq_eq_true h1
    unfold gstep at h
    dsimp only at h
    split at h
    · split at h
      · rename_i n9 hsq
        cases hg : gib _ n9 with
        | true =>
          rw [hg] at h
          exact g_zald hx hb hK hR hsq hg hd (go _ _ _ _ _ h als hl hR hS hA hc hs)
        | false =>
          rw [hg] at h
          exact (h : False).elim
      · exact h.elim
    · exact h.elim
  | laload =>
    have hm : (gplain .laload && (decide (cins = .laload) && Nat.beq len 1)) = true := hm
    rw [Bool.and_eq_true, Bool.and_eq_true, decide_eq_true_eq] at hm
    obtain ⟨-, rfl, h1⟩ := hm
    cases Nat.eq_of_beq_eq_true h1
    unfold gstep at h
    dsimp only at h
    split at h
    · split at h
      · rename_i n9 hsq
        cases hg : gib _ n9 with
        | true =>
          rw [hg] at h
          exact g_lald hx hb hK hR hsq hg hd (go _ _ _ _ _ h als hl hR hS hA hc hs)
        | false =>
          rw [hg] at h
          exact (h : False).elim
      · exact h.elim
    · exact h.elim
  | aaload =>
    have hm : (gplain .aaload && (decide (cins = .aaload) && Nat.beq len 1)) = true := hm
    rw [Bool.and_eq_true, Bool.and_eq_true, decide_eq_true_eq] at hm
    obtain ⟨-, rfl, h1⟩ := hm
    cases Nat.eq_of_beq_eq_true h1
    unfold gstep at h
    dsimp only at h
    split at h
    · split at h
      · rename_i kd lx hsq
        cases hkd : (Nat.beq kd 10 || Nat.beq kd 12) with
        | true =>
          rw [hkd] at h
          have hkd : kd = 10 ∨ kd = 12 := by
            rw [Bool.or_eq_true] at hkd
            exact hkd.imp Nat.eq_of_beq_eq_true Nat.eq_of_beq_eq_true
          dsimp only [cond] at h
          obtain ⟨hg, h⟩ := gcond h
          · skip
            refine g_aald hx hb hK hR hsq hkd hg hd ?_
            split at h
            · rename_i t9 ht9
              rw [ht9]
              exact go _ _ _ _ _ h als hl hR hS hA hc hs
            · rename_i ht9
              rw [ht9]
              exact go _ _ _ _ _ h als hl hR hS hA hc hs
        | false =>
          rw [hkd] at h
          exact (h : False).elim
      · exact h.elim
    · exact h.elim
  | iastore =>
    have hm : (gplain .iastore && (decide (cins = .iastore) && Nat.beq len 1)) = true := hm
    rw [Bool.and_eq_true, Bool.and_eq_true, decide_eq_true_eq] at hm
    obtain ⟨-, rfl, h1⟩ := hm
    cases Nat.eq_of_beq_eq_true h1
    unfold gstep at h
    dsimp only at h
    split at h
    · split at h
      · rename_i n9 hsq
        cases hg : gib _ n9 with
        | true =>
          rw [hg] at h
          exact g_iast hx hb hK hR hS (hA _ (gA.at hsq)) hsq hg hd (fun H9 locs9 hR9 hS9 => hk _ _ _ _ _ h H9 locs9 cells slots als hl hR9 hS9 hA hc hs)
        | false =>
          rw [hg] at h
          exact (h : False).elim
      · exact h.elim
    · exact h.elim
  | bastore =>
    have hm : (gplain .bastore && (decide (cins = .bastore) && Nat.beq len 1)) = true := hm
    rw [Bool.and_eq_true, Bool.and_eq_true, decide_eq_true_eq] at hm
    obtain ⟨-, rfl, h1⟩ := hm
    cases Nat.eq_of_beq_eq_true h1
    unfold gstep at h
    dsimp only at h
    split at h
    · split at h
      · rename_i n9 hsq
        cases hg : gib _ n9 with
        | true =>
          rw [hg] at h
          dsimp only [cond] at h
          split at h
          · rename_i h01
            exact g_zast hx hb hK hR hS (hA _ (gA.at hsq)) hsq hg h01 hd (fun H9 locs9 hR9 hS9 => hk _ _ _ _ _ h H9 locs9 cells slots als hl hR9 hS9 hA hc hs)
          · exact h.elim
        | false =>
          rw [hg] at h
          exact (h : False).elim
      · exact h.elim
    · exact h.elim
  | lastore =>
    have hm : (gplain .lastore && (decide (cins = .lastore) && Nat.beq len 1)) = true := hm
    rw [Bool.and_eq_true, Bool.and_eq_true, decide_eq_true_eq] at hm
    obtain ⟨-, rfl, h1⟩ := hm
    cases Nat.eq_of_beq_eq_true h1
    unfold gstep at h
    dsimp only at h
    split at h
    · split at h
      · rename_i n9 hsq
        cases hg : gib _ n9 with
        | true =>
          rw [hg] at h
          exact g_last hx hb hK hR hS (hA _ (gA.at hsq)) hsq hg hd (fun H9 locs9 hR9 hS9 => hk _ _ _ _ _ h H9 locs9 cells slots als hl hR9 hS9 hA hc hs)
        | false =>
          rw [hg] at h
          exact (h : False).elim
      · exact h.elim
    · exact h.elim
  | aastore =>
    have hm : (gplain .aastore && (decide (cins = .aastore) && Nat.beq len 1)) = true := hm
    rw [Bool.and_eq_true, Bool.and_eq_true, decide_eq_true_eq] at hm
    obtain ⟨-, rfl, h1⟩ := hm
    cases Nat.eq_of_beq_eq_true h1
    unfold gstep at h
    dsimp only at h
    split at h
    · split at h
      · rename_i kd lx hsq
        cases hg : gib _ lx.length with
        | true =>
          rw [hg] at h
          dsimp only [cond] at h
          split at h
          · rename_i c9 fs9 hst
            obtain ⟨hkd, h⟩ := gcond h
            · skip
              rw [Bool.and_eq_true, Bool.or_eq_true] at hkd
              exact g_aast hx hb hK hR hS (hA _ (gA.at hsq)) hsq ⟨Nat.eq_of_beq_eq_true hkd.1, hkd.2.imp Nat.eq_of_beq_eq_true Nat.eq_of_beq_eq_true⟩ hst hg hd (fun H9 locs9 hR9 hS9 => hk _ _ _ _ _ h H9 locs9 cells slots als hl hR9 hS9 (fun x hx => hA x (gA.set hsq x hx)) hc hs)
          · exact h.elim
        | false =>
          rw [hg] at h
          exact (h : False).elim
      · exact h.elim
    · exact h.elim
  | arraylength =>
    have hm : (gplain .arraylength && (decide (cins = .arraylength) && Nat.beq len 1)) = true := hm
    rw [Bool.and_eq_true, Bool.and_eq_true, decide_eq_true_eq] at hm
    obtain ⟨-, rfl, h1⟩ := hm
    cases Nat.eq_of_beq_eq_true h1
    unfold gstep at h
    dsimp only at h
    split at h
    · split at h
      · rename_i n9 hsq
        exact g_alen hx hb hK hR hsq hd (go _ _ _ _ _ h als hl hR hS hA hc hs)
      · exact h.elim
    · exact h.elim
  | new ci =>
    unfold gmt at hm
    dsimp only at hm
    unfold gstep at h
    dsimp only at h
    split at hm
    · rw [Bool.and_eq_true] at hm
      cases Nat.eq_of_beq_eq_true hm.1
      obtain ⟨⟨a1, a2, a3, a4, a5, a6⟩, hq, hq2⟩ := List.any_eq_true.mp hm.2
      simp only [Bool.and_eq_true] at hq2
      obtain ⟨z1, z2, z3⟩ := hq2
      cases Nat.eq_of_beq_eq_true z1; cases Nat.eq_of_beq_eq_true z2; cases Nat.eq_of_beq_eq_true z3
      obtain ⟨C9, T9, N9, hcl, w1, w2, w3, hlen, hdf⟩ := gckB_of b str (List.all_eq_true.mp gCK_all _ hq)
      obtain ⟨hbd, h⟩ := gcond h
      · skip
        rw [Bool.and_eq_true] at hbd
        have hb1 := Nat.le_of_ble_eq_true hbd.1
        have hb2 := Nat.le_of_ble_eq_true hbd.2
        rw [hlen] at hb2
        refine g_new hx hb hts (fun w hw => hw) hown hK hR hS hcl hlen hdf (hts _ w1) (hts _ w2) (hts _ w3) (by omega) (by omega) hd (fun H9 hR9 hS9 => ?_)
        exact hk _ _ _ _ _ h H9 locs (cells + 1) (slots + N9) als hl hR9 hS9 (fun x hx => hA x (gA.grow x hx)) (by show cells + 1 + (bd.1 - 1) ≤ mc; omega) (by show slots + N9 + (bd.2 - (gdf ci).length) ≤ ms; rw [hlen]; omega)
    · cases hm
  | newarray t =>
    unfold gmt at hm
    dsimp only at hm
    unfold gstep at h
    dsimp only at h
    split at hm
    · rw [Bool.and_eq_true, decide_eq_true_eq] at hm
      cases Nat.eq_of_beq_eq_true hm.1
      cases hm.2
      split at h
      · rename_i n9 st9
        cases t with
        | int => exact gnewar hx hb hK hR hS (kd := 0) (atype := .int) (Or.inl ⟨rfl, rfl⟩) (hts _ gW_ci) hRc hRs hc hs hd rfl h (fun h9 g1 g2 H9 hR9 hS9 => hk _ _ _ _ _ h9 H9 locs (cells + 1) (slots + n9.toNatClampNeg) als hl hR9 hS9 (fun x hx => hA x (gA.grow x hx)) (by show cells + 1 + (bd.1 - 1) ≤ mc; omega) (by show slots + n9.toNatClampNeg + (bd.2 - n9.toNatClampNeg) ≤ ms; omega))
        | boolean => exact gnewar hx hb hK hR hS (kd := 1) (atype := .boolean) (Or.inr (Or.inl ⟨rfl, rfl⟩)) (hts _ gW_cz) hRc hRs hc hs hd rfl h (fun h9 g1 g2 H9 hR9 hS9 => hk _ _ _ _ _ h9 H9 locs (cells + 1) (slots + n9.toNatClampNeg) als hl hR9 hS9 (fun x hx => hA x (gA.grow x hx)) (by show cells + 1 + (bd.1 - 1) ≤ mc; omega) (by show slots + n9.toNatClampNeg + (bd.2 - n9.toNatClampNeg) ≤ ms; omega))
        | long => exact gnewar hx hb hK hR hS (kd := 2) (atype := .long) (Or.inr (Or.inr ⟨rfl, rfl⟩)) (hts _ gW_cj) hRc hRs hc hs hd rfl h (fun h9 g1 g2 H9 hR9 hS9 => hk _ _ _ _ _ h9 H9 locs (cells + 1) (slots + n9.toNatClampNeg) als hl hR9 hS9 (fun x hx => hA x (gA.grow x hx)) (by show cells + 1 + (bd.1 - 1) ≤ mc; omega) (by show slots + n9.toNatClampNeg + (bd.2 - n9.toNatClampNeg) ≤ ms; omega))
        | _ => exact (h : False).elim
      · exact h.elim
    · cases hm
  | anewarray kd =>
    unfold gmt at hm
    dsimp only at hm
    unfold gstep at h
    dsimp only at h
    split at hm
    · rw [Bool.and_eq_true] at hm
      cases Nat.eq_of_beq_eq_true hm.1
      obtain ⟨⟨a1, a2, a3, a4⟩, hq, hq2⟩ := List.any_eq_true.mp hm.2
      simp only [Bool.and_eq_true] at hq2
      obtain ⟨z1, z2, z3⟩ := hq2
      cases Nat.eq_of_beq_eq_true z1; cases Nat.eq_of_beq_eq_true z2; cases Nat.eq_of_beq_eq_true z3
      obtain ⟨C9, t0, hty, w1, hao⟩ := galB_of (ax := ax) (s := s) hE.2.2.1 (List.all_eq_true.mp gAL_all _ hq)
      split at h
      · rename_i n9 st9
        obtain ⟨hbd, h⟩ := gcond h
        · skip
          simp only [Bool.and_eq_true, decide_eq_true_eq] at hbd
          obtain ⟨⟨⟨h0, hb1⟩, hb2⟩, hb3⟩ := hbd
          have hb1 := Nat.le_of_ble_eq_true hb1
          have hb2 := Nat.le_of_ble_eq_true hb2
          have hb3 := Nat.le_of_ble_eq_true hb3
          refine g_anew hx hb hown hK hR hS hty (hts _ w1) hao (Int32.not_lt.mpr h0) hb3 (by omega) (by omega) hd (fun H9 hR9 hS9 => ?_)
          exact hk _ _ _ _ _ h H9 locs (cells + 1) (slots + n9.toNatClampNeg) als hl hR9 hS9 (fun x hx => hA x (gA.grow x hx)) (by show cells + 1 + (bd.1 - 1) ≤ mc; omega) (by show slots + n9.toNatClampNeg + (bd.2 - n9.toNatClampNeg) ≤ ms; omega)
      · exact h.elim
    · cases hm
  | invokestatic n =>
    unfold gmt at hm
    dsimp only at hm
    unfold gstep at h
    dsimp only at h
    split at hm
    · rw [Bool.and_eq_true] at hm
      cases Nat.eq_of_beq_eq_true hm.1
      obtain ⟨ps, hq⟩ := gmlk_mem hm.2
      split at h
      · rename_i a9 nn c1 c2 hmi
        split at h
        · rename_i as9 st9 hpop
          obtain ⟨hcan, h⟩ := gcond h
          · skip
            obtain ⟨r9, hCr, h⟩ := h
            exact gcallS hx hb hml hts hown hE hZ hRf hRc hRs (hC _ _ _ _ hCr) hd hq hmi hpop hcan hl.1 hR hS hA hc hs (fun H9 locs9 hR9 hS9 hA9 => by have h8 := hk _ _ _ _ _ h H9 locs9 (cells + c1) (slots + c2) als hl hR9 hS9 hA9 (by have := gcan_w hcan; show cells + c1 + (bd.1 - c1) ≤ mc; omega) (by have := gcan_w hcan; show slots + c2 + (bd.2 - c2) ≤ ms; omega); rw [gst_map] at h8; exact h8)
        · exact h.elim
      · exact h.elim
    · cases hm
  | invokevirtual n =>
    unfold gmt at hm
    dsimp only at hm
    unfold gstep at h
    dsimp only at h
    split at hm
    · rw [Bool.and_eq_true] at hm
      cases Nat.eq_of_beq_eq_true hm.1
      obtain ⟨ps, hq⟩ := gmlk_mem hm.2
      split at h
      · rename_i ci nn c1 c2 hmi
        split at h
        · rename_i as9 a9 st9 hpop
          split at h
          · rename_i c0 fs9 hsa
            cases hcc : Nat.beq c0 ci with
            | true =>
              rw [hcc] at h
              cases Nat.eq_of_beq_eq_true hcc
              dsimp only [cond] at h
              obtain ⟨hcan, h⟩ := gcond h
              · skip
                obtain ⟨r9, hCr, h⟩ := h
                exact gcallV hx hb hml hts hown hE hZ hRf hRc hRs (hC _ _ _ _ hCr) hd hq hmi hpop hsa hcan hl.1 hR hS hA hc hs (fun H9 locs9 hR9 hS9 hA9 => by have h8 := hk _ _ _ _ _ h H9 locs9 (cells + c1) (slots + c2) als hl hR9 hS9 hA9 (by have := gcan_w hcan; show cells + c1 + (bd.1 - c1) ≤ mc; omega) (by have := gcan_w hcan; show slots + c2 + (bd.2 - c2) ≤ ms; omega); rw [gst_map] at h8; exact h8)
            | false =>
              rw [hcc] at h
              exact (h : False).elim
          · exact h.elim
        · exact h.elim
      · exact h.elim
    · cases hm
  | invokespecial n =>
    unfold gmt at hm
    dsimp only at hm
    unfold gstep at h
    dsimp only at h
    split at hm
    · rw [Bool.and_eq_true] at hm
      cases Nat.eq_of_beq_eq_true hm.1
      have hm := hm.2
      rw [Bool.or_eq_true] at hm
      rcases hm with hm | hm
      · rw [Bool.and_eq_true] at hm
        cases Nat.eq_of_beq_eq_true hm.1
        obtain ⟨⟨a1, a2, a3⟩, hq, hq2⟩ := List.any_eq_true.mp hm.2
        simp only [Bool.and_eq_true] at hq2
        cases Nat.eq_of_beq_eq_true hq2.1; cases Nat.eq_of_beq_eq_true hq2.2
        have h9 : gmi 999 = none := by decide +kernel
        rw [h9] at h
        dsimp only at h
        split at h
        · rename_i a9 st9
          obtain ⟨hcan, h⟩ := gcond h
          · skip
            have hw9 := gcan_w hcan
            refine W.objInit hx hb hown (hts _ (gix_mem (List.all_eq_true.mp gOI_all _ hq))) (hts _ gW_oi) (hts _ gW_oc) rfl (by rw [hml]; exact hl.1) rfl hd hfr (by show 2 * 0 + _ + 12 ≤ _; rw [gw_map]; omega) ?_
            exact go _ _ _ _ _ h als hl hR hS hA hc hs
        · exact h.elim
      · rw [Bool.and_eq_true, Bool.or_eq_true] at hm
        split at h
        · rename_i a9 nn c1 c2 hmi
          split at h
          · rename_i as9 b9 st9 hpop
            obtain ⟨hcan, h⟩ := gcond h
            · skip
              obtain ⟨r9, hCr, h⟩ := h
              exact gcallI hx hb hml hts hown hE hZ hRf hRc hRs (hC _ _ _ _ hCr) hd hm.2 hmi hpop hcan hl.1 hR hS hA hc hs (fun H9 locs9 hR9 hS9 hA9 => by have h8 := hk _ _ _ _ _ h H9 locs9 (cells + c1) (slots + c2) als hl hR9 hS9 hA9 (by have := gcan_w hcan; show cells + c1 + (bd.1 - c1) ≤ mc; omega) (by have := gcan_w hcan; show slots + c2 + (bd.2 - c2) ≤ ms; omega); rw [gst_map] at h8; exact h8)
          · exact h.elim
        · rename_i hmi
          exfalso
          rcases hm.2 with hm2 | hm2
          · obtain ⟨ps9, hq9⟩ := gmlk_mem hm2
            have hw9 := List.all_eq_true.mp gML_all _ hq9
            unfold gmlB at hw9
            unfold gmi at hmi
            dsimp only at hw9
            split at hmi
            · cases hmi
            · rename_i hz9
              rw [hz9] at hw9
              cases hw9
          · obtain ⟨ps9, hq9⟩ := gmlk_mem hm2
            have hw9 := List.all_eq_true.mp gML_all _ hq9
            unfold gmlB at hw9
            unfold gmi at hmi
            dsimp only at hw9
            split at hmi
            · cases hmi
            · rename_i hz9
              rw [hz9] at hw9
              cases hw9
    · cases hm
  | invokedynamic t =>
    unfold gmt at hm
    dsimp only at hm
    split at hm
    · rename_i ix
      rw [Bool.and_eq_true, Bool.or_eq_true] at hm
      cases Nat.eq_of_beq_eq_true hm.1
      rcases hm.2 with hm | hm
      · rw [Bool.and_eq_true] at hm
        cases Nat.eq_of_beq_eq_true hm.1
        obtain ⟨⟨a1, a2, a3⟩, hq, hq2⟩ := List.any_eq_true.mp hm.2
        simp only [Bool.and_eq_true] at hq2
        cases Nat.eq_of_beq_eq_true hq2.1; cases Nat.eq_of_beq_eq_true hq2.2
        obtain ⟨n9, dp, b9, sp, a9, st9, n0, n1, rfl, ha0, ha1, hcan, h1, h2, h3, h4, h5, h⟩ := gdyn0 h
        have hw9 := gcan_w hcan
        exact g_copy hx hb (by rw [hml]; exact hl.1.symm) hown (hts _ (gix_mem (List.all_eq_true.mp gAC_all _ hq))) (hts _ gW_an) (hts _ gW_as) (hts _ gW_ai) hK hR hS (hA _ (gA.at ha1)) ha0 ha1 (Int32.not_lt.mpr h1) (Int32.not_lt.mpr h2) (Int32.not_lt.mpr h3) h4 h5 hfr (by rw [gw_map]; show gw st9 + (7 + 11) ≤ _; omega) hd (fun H9 locs9 hR9 hS9 => hk _ _ _ _ _ h H9 locs9 cells slots als hl hR9 hS9 hA hc hs)
      · rw [Bool.and_eq_true] at hm
        obtain ⟨⟨a1, a2, a3, a4⟩, hq, hq2⟩ := List.any_eq_true.mp hm.2
        simp only [Bool.and_eq_true] at hq2
        cases Nat.eq_of_beq_eq_true hq2.1; cases Nat.eq_of_beq_eq_true hq2.2.1; cases Nat.eq_of_beq_eq_true hq2.2.2
        have hw := List.all_eq_true.mp gMA_all _ hq
        have hm1 := hm.1
        rw [Bool.or_eq_true, Bool.or_eq_true] at hm1
        rcases hm1 with z | z | z
        · cases Nat.eq_of_beq_eq_true z
          obtain ⟨y9, x9, st9, rfl, hcan, h⟩ := gdyn3 h
          have hw9 := gcan_w hcan
          exact va_mmax hx hb (by rw [hml]; exact hl.1.symm) hown (hts _ (gix_mem hw)) (hts _ gW_m3.1) (hts _ gW_mi) (hts _ gW_m3.2) hfr (by rw [gw_map]; omega) (by omega) (by omega) hd (go _ _ _ _ _ h als hl hR hS hA hc hs)
        · cases Nat.eq_of_beq_eq_true z
          obtain ⟨y9, x9, st9, rfl, hcan, h⟩ := gdyn4 h
          have hw9 := gcan_w hcan
          exact va_mmin hx hb (by rw [hml]; exact hl.1.symm) hown (hts _ (gix_mem hw)) (hts _ gW_m4.1) (hts _ gW_mi) (hts _ gW_m4.2) hfr (by rw [gw_map]; omega) (by omega) (by omega) hd (go _ _ _ _ _ h als hl hR hS hA hc hs)
        · cases Nat.eq_of_beq_eq_true z
          obtain ⟨x9, st9, rfl, hcan, h⟩ := gdyn5 h
          have hw9 := gcan_w hcan
          exact va_mabs hx hb (by rw [hml]; exact hl.1.symm) hown (hts _ (gix_mem hw)) (hts _ gW_m5.1) (hts _ gW_mi) (hts _ gW_m5.2) hfr (by rw [gw_map]; omega) (by omega) (by omega) hd (go _ _ _ _ _ h als hl hR hS hA hc hs)
    · rename_i ix
      rw [Bool.and_eq_true, Bool.and_eq_true] at hm
      cases Nat.eq_of_beq_eq_true hm.1
      obtain ⟨⟨a1, a2, a3, a4⟩, hq, hq2⟩ := List.any_eq_true.mp hm.2.2
      simp only [Bool.and_eq_true] at hq2
      cases Nat.eq_of_beq_eq_true hq2.1; cases Nat.eq_of_beq_eq_true hq2.2.1; cases Nat.eq_of_beq_eq_true hq2.2.2
      have hw := List.all_eq_true.mp gSX_all _ hq
      have hm1 := hm.2.1
      rw [Bool.or_eq_true] at hm1
      rcases hm1 with z | z
      · cases Nat.eq_of_beq_eq_true z
        obtain ⟨j, st9, r9, rfl, hcan, hC9, h⟩ := gdyn1 h
        obtain ⟨hj, hM⟩ := hX _ _ _ _ hC9 (Or.inl rfl)
        simp only [Bool.and_eq_true] at hw
        exact gcallT (as := []) (nn := 0) hx hb hml hts hown hE hZ hRf hRc hRs hM (hj _ _ rfl) hd (gix_mem hw.1) (gix_mem hw.2.1) (gix_mem hw.2.2.1) (gix_mem hw.2.2.2) gs_887 rfl ⟨by decide +kernel, by decide +kernel, by decide +kernel⟩ (by decide) rfl hcan hl.1 hR hS hA hc hs (fun H9 locs9 hR9 hS9 hA9 => by
          have := hk _ _ _ _ _ h H9 locs9 cells slots als hl hR9 hS9 hA9 hc hs
          rw [gst_map] at this
          exact this)
      · cases Nat.eq_of_beq_eq_true z
        obtain ⟨i9, j, st9, r9, rfl, hcan, hC9, h⟩ := gdyn2 h
        obtain ⟨hj, hM⟩ := hX _ _ _ _ hC9 (Or.inr rfl)
        simp only [Bool.and_eq_true] at hw
        exact gcallT (as := [.int i9]) (nn := 1) hx hb hml hts hown hE hZ hRf hRc hRs hM (hj _ _ rfl) hd (gix_mem hw.1) (gix_mem hw.2.1) (gix_mem hw.2.2.1) (gix_mem hw.2.2.2) gs_897 rfl ⟨by decide +kernel, by decide +kernel, by decide +kernel⟩ (by decide) rfl hcan hl.1 hR hS hA hc hs (fun H9 locs9 hR9 hS9 hA9 => by
          have := hk _ _ _ _ _ h H9 locs9 cells slots als hl hR9 hS9 hA9 hc hs
          rw [gst_map] at this
          exact this)
    · cases hm
  | ireturn =>
    have hm : (decide (cins = .ireturn) && (Nat.beq len 1 && decide (rt = some .int))) = true := hm
    rw [Bool.and_eq_true, Bool.and_eq_true, decide_eq_true_eq, decide_eq_true_eq] at hm
    obtain ⟨rfl, h1, rfl⟩ := hm
    cases Nat.eq_of_beq_eq_true h1
    unfold gstep at h
    dsimp only at h
    split at h
    · refine W.widen (k := mc) (n := ms) (by omega) (by omega) ?_
      exact W.iret hx hb hr (fun t ht hW => ⟨by rw [← hp _ _ h]; rfl, by rw [ht, ← hp _ _ h]; exact hR, by rw [← hp _ _ h]; exact hA, hS.F ht⟩) hS.2.2 hd hlk
    · exact h.elim
  | freturn =>
    have hm : (decide (cins = .ireturn) && (Nat.beq len 1 && decide (rt = some .boolean))) = true := hm
    rw [Bool.and_eq_true, Bool.and_eq_true, decide_eq_true_eq, decide_eq_true_eq] at hm
    obtain ⟨rfl, h1, rfl⟩ := hm
    cases Nat.eq_of_beq_eq_true h1
    unfold gstep at h
    dsimp only at h
    split at h
    · split at h
      · rename_i h01
        refine W.widen (k := mc) (n := ms) (by omega) (by omega) ?_
        exact W.zret hx hb hr (by rcases h01 with rfl | rfl <;> rfl) (fun t ht hW => ⟨by rw [← hp _ _ h]; rfl, by rw [ht, ← hp _ _ h]; exact hR, by rw [← hp _ _ h]; exact hA, hS.F ht⟩) hS.2.2 hd hlk
      · exact h.elim
    · exact h.elim
  | lreturn =>
    have hm : (decide (cins = .lreturn) && (Nat.beq len 1 && decide (rt = some .long))) = true := hm
    rw [Bool.and_eq_true, Bool.and_eq_true, decide_eq_true_eq, decide_eq_true_eq] at hm
    obtain ⟨rfl, h1, rfl⟩ := hm
    cases Nat.eq_of_beq_eq_true h1
    unfold gstep at h
    dsimp only at h
    split at h
    · refine W.widen (k := mc) (n := ms) (by omega) (by omega) ?_
      exact W.lret hx hb hr (fun t ht hW => ⟨by rw [← hp _ _ h]; rfl, by rw [ht, ← hp _ _ h]; exact hR, by rw [← hp _ _ h]; exact hA, hS.F ht⟩) hS.2.2 hd hlk
    · exact h.elim
  | areturn =>
    have hm : (decide (cins = .areturn) && (Nat.beq len 1 && decide (rt = some (.object "java/lang/String")))) = true := hm
    rw [Bool.and_eq_true, Bool.and_eq_true, decide_eq_true_eq, decide_eq_true_eq] at hm
    obtain ⟨rfl, h1, rfl⟩ := hm
    cases Nat.eq_of_beq_eq_true h1
    unfold gstep at h
    dsimp only at h
    split at h
    · refine W.widen (k := mc) (n := ms) (by omega) (by omega) ?_
      exact W.aret hx hb hr (Or.inl ⟨_, rfl⟩) (Or.inr ⟨_, rfl⟩) (fun t ht hW => ⟨by rw [← hp _ _ h]; rfl, by rw [ht, ← hp _ _ h]; exact hR, by rw [← hp _ _ h]; exact hA, hS.F ht⟩) hS.2.2 hd hlk
    · exact h.elim
  | return_ =>
    have hm : (decide (cins = .return_) && (Nat.beq len 1 && decide (rt = none))) = true := hm
    rw [Bool.and_eq_true, Bool.and_eq_true, decide_eq_true_eq, decide_eq_true_eq] at hm
    obtain ⟨rfl, h1, rfl⟩ := hm
    cases Nat.eq_of_beq_eq_true h1
    unfold gstep at h
    dsimp only at h
    split at h
    · refine W.widen (k := mc) (n := ms) (by omega) (by omega) ?_
      exact W.vret hx hb hr (fun t ht hW => ⟨by rw [← hp _ _ h]; rfl, by rw [ht, ← hp _ _ h]; exact hR, by rw [← hp _ _ h]; exact hA, hS.F ht⟩) hS.2.2 hd hlk
    · exact h.elim
  | _ => exact (h : False).elim
