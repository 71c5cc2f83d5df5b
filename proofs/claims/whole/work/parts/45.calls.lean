/-! ===== lets, voids; the field's frame ===== -/
section LETS
variable {m : gM} {w h9 n hr le we nl np : Nat} {ol wp wc ww wo ws ru fr nu vo : Nat → Nat}
theorem lets_loop (F : Fx m.1 w h9 n hr le we nl np ol wp wc ww wo ws ru fr nu vo) {c near ap q : Nat} {p : Int32} (hq : q < 2) (hc : c < n) (hn9 : near ≤ 9) (ha9 : ap ≤ 9) (a b : gM) :
    ∀ r fuel, r ≤ 10 → r < fuel → ∃ u, L_OT_lets_65 p (nI c) (nI q) (nI near, a) (nI ap, b) fuel (nI r - 1) m = some (u, m) ∧ L_MO_lets_71 p (nI c) (nI q) (nI (if q = 0 then ap else near)) fuel (nI r - 1) m = some (u, m) := by
  intro r
  induction r with
  | zero =>
    intro fuel _ hf
    obtain ⟨k, rfl⟩ : ∃ k, fuel = k + 1 := ⟨fuel - 1, by omega⟩
    exact ⟨-4, rfl, rfl⟩
  | succ r ih =>
    intro fuel hr hf
    obtain ⟨k, rfl⟩ : ∃ k, fuel = k + 1 := ⟨fuel - 1, by omega⟩
    have e : nI (r + 1) - 1 = nI r := nI_pred r
    have e2 : nI r + -1 = nI r - 1 := (Int32.sub_eq_add_neg _ _).symm
    have h0 : ¬ nI r < 0 := nI_pos (by omega)
    obtain ⟨u, u1, u2⟩ := ih k (by omega) (by omega)
    rw [e]
    have s1 : L_OT_lets_65 p (nI c) (nI q) (nI near, a) (nI ap, b) (k + 1) (nI r) m = (if nI r < 0 then some (-4, m) else (if nI q = 0 then (f_Orders_whyNotUnder 41 1 p (nI c) (nI r) (nI ap) m).bind (fun (r6 : Int32 × gM) => J_OT_lets_111 (L_OT_lets_65 p (nI c) (nI q) (nI near, a) (nI ap, b) k) (nI r) r6.1 r6.2) else (f_Orders_whyNotUnder 41 1 p (nI c) (nI near) (nI r) m).bind (fun (r5 : Int32 × gM) => J_OT_lets_111 (L_OT_lets_65 p (nI c) (nI q) (nI near, a) (nI ap, b) k) (nI r) r5.1 r5.2))) := rfl
    have s2 : L_MO_lets_71 p (nI c) (nI q) (nI (if q = 0 then ap else near)) (k + 1) (nI r) m = (if nI r < 0 then some (-4, m) else (if nI q = 0 then J_MO_lets_90 (nI q) (nI (if q = 0 then ap else near)) (L_MO_lets_71 p (nI c) (nI q) (nI (if q = 0 then ap else near)) k) (nI r) p (nI c) (nI r) m else J_MO_lets_90 (nI q) (nI (if q = 0 then ap else near)) (L_MO_lets_71 p (nI c) (nI q) (nI (if q = 0 then ap else near)) k) (nI r) p (nI c) (nI (if q = 0 then ap else near)) m)) := rfl
    rw [s1, s2, if_neg h0, if_neg h0]
    unfold J_MO_lets_90 J_MO_lets_101 J_OT_lets_111
    rw [e2]
    match q, hq with
    | 0, _ =>
      obtain ⟨z, z1, z2⟩ := F.whyU (p := p) (near := r) (ap := ap) hc (by omega) (by omega) (by omega) (by omega)
      rw [if_pos (show nI 0 = 0 from rfl), if_pos (show nI 0 = 0 from rfl), if_pos (show nI 0 = 0 from rfl), z1, gbind_eq]
      simp only [if_true] at u2 ⊢
      rw [z2, gbind_eq]
      by_cases hz : z = 0
      · exact ⟨nI r, if_pos hz, if_pos hz⟩
      · exact ⟨u, (if_neg hz).trans u1, (if_neg hz).trans u2⟩
    | 1, _ =>
      obtain ⟨z, z1, z2⟩ := F.whyU (p := p) (near := near) (ap := r) hc (by omega) (by omega) (by omega) (by omega)
      have i1 : ¬ nI 1 = 0 := by decide
      rw [if_neg i1, if_neg i1, if_neg i1, z1, gbind_eq]
      simp only [Nat.succ_ne_zero, if_false, Nat.one_ne_zero] at u2 ⊢
      rw [z2, gbind_eq]
      by_cases hz : z = 0
      · exact ⟨nI r, if_pos hz, if_pos hz⟩
      · exact ⟨u, (if_neg hz).trans u1, (if_neg hz).trans u2⟩
end LETS
theorem p_lets {n0 K : Nat} {m : gM} (x y z : Int32) (I : Inv n0 K m.1) : gBoth n0 K (f_OT_lets x y z) (f_MO_lets x y z) m := by
  obtain ⟨w, h9, n, hr, le, we, nl, np, ol, wp, wc, ww, wo, ws, ru, fr, nu, vo, F⟩ := I.fx
  have F0 := F
  obtain ⟨b0, c0, l0, d0, k0⟩ := F.num (q := 0) (by omega)
  obtain ⟨b1, c1, l1, d1, k1⟩ := F.num (q := 1) (by omega)
  obtain ⟨⟨zn, z1, z36, zw, zh, zhr, zle, zwe, znl, znp⟩, ⟨y0, y1, y2, yhr, yle, ywe, ynl, ynp⟩, ⟨x0, x1, xhr, xle, xwe, xnl, xnp⟩, ⟨r6, r7, r8, r10, r11, r13, r14, r15, r16, r17, r19, r20, r21, r22, r28, r29, r30, r31⟩, ⟨ecol, eoil, e9, elot⟩, ⟨fp, fc, fw, fo, fb, fo1, frow, fws⟩, g1, g2, gn⟩ := F
  refine gBoth.ofSame I ?_
  have s1 := cl_shift (a := 1) (m := m) yhr (by omega)
  have s2 := mo_shift (m := m) xhr (by omega)
  have c0 : f_Orders_numberIn 41 0 (nI (hr / 4)) m = _ := c0
  have c1 : f_Orders_numberIn 41 1 (nI (hr / 4)) m = _ := c1
  have d0 : f_MO_lineAt 0 (nI (hr / 4)) m = _ := d0
  have d1 : f_MO_lineAt 1 (nI (hr / 4)) m = _ := d1
  have a1 := ot_isPerson (x := x) (n := np) (by omega) ynp
  have a2 := ot_hasCell (x := y) (n := n) (by omega) y2
  have b1 := mo_isPerson (x := x) (n := np) xnp (by omega)
  have b2 := mo_isCell (x := y) x0 x1 (by omega)
  have b3 : f_MO_in z.toInt64 (Int32.toInt64 0) (Int32.toInt64 1) m = _ := mo_in_n (x := z) (n := 1) (by omega) m
  rw [zn] at b2
  rcases gib_cases x np with hg | ⟨i, hi, rfl, hi2⟩
  · rw [hg] at a1 b1
    refine ⟨-1, ?_, ?_⟩
    · unfold f_OT_lets; rw [a1]; rfl
    · unfold f_MO_lets; rw [b1]; rfl
  · rw [gib_iff.mpr ⟨i, hi, rfl, hi2⟩] at a1 b1
    rcases gib_cases y n with hg | ⟨j, hj, rfl, hj2⟩
    · rw [hg] at a2 b2
      refine ⟨-1, ?_, ?_⟩
      · unfold f_OT_lets
        simp (disch := omega) only [gfd_eq, glet_eq, gbind_eq, nI_ltI, nI_1, gok_nI, grd_nI, nI_clamp, if_true, if_false, Nat.lt_irrefl, a1, a2, Bool.false_eq_true, i10]
      · unfold f_MO_lets
        simp (disch := omega) only [gfd_eq, glet_eq, gbind_eq, nI_ltI, nI_1, gok_nI, grd_nI, nI_clamp, if_true, if_false, Nat.lt_irrefl, b1, b2, Bool.false_eq_true, i10]
    · rw [gib_iff.mpr ⟨j, hj, rfl, hj2⟩] at a2 b2
      rcases gib_cases z 2 with hg | ⟨q, hq, rfl, hq2⟩
      · rw [hg] at b3
        have i0 : ¬ z = 0 := fun e => by rw [e] at hg; revert hg; decide
        have i1 : ¬ z = 1 := fun e => by rw [e] at hg; revert hg; decide
        refine ⟨-1, ?_, ?_⟩
        · unfold f_OT_lets
          simp (disch := omega) only [gfd_eq, glet_eq, gbind_eq, nI_ltI, nI_1, gok_nI, grd_nI, nI_clamp, if_true, if_false, Nat.lt_irrefl, a1, a2, i0, i1, i10]
        · unfold f_MO_lets
          simp (disch := omega) only [gfd_eq, glet_eq, gbind_eq, nI_ltI, nI_1, gok_nI, grd_nI, nI_clamp, if_true, if_false, Nat.lt_irrefl, b1, b2, b3, Bool.false_eq_true, i10]
      · rw [gib_iff.mpr ⟨q, hq, rfl, hq2⟩] at b3
        obtain ⟨u, u1, u2⟩ := lets_loop F0 (p := nI i) (q := q) hq hj (near := sNum ru fr nu vo 0 (hr / 4) nl) (ap := sNum ru fr nu vo 1 (hr / 4) nl) (by omega) (by omega) m m 10 1000 (by omega) (by omega)
        have e9' : nI 10 - 1 = 9 := rfl
        rw [e9'] at u1 u2
        have jo : J_OT_lets_27 (nI i) (nI j) (nI q) m = some (u, m) := by
          unfold J_OT_lets_27
          simp (disch := omega) only [gfd_eq, glet_eq, gbind_eq, nI_ltI, nI_1, gok_nI, grd_nI, nI_clamp, if_true, if_false, Nat.lt_irrefl, s1, c0, c1, u1, i10]
        refine ⟨u, ?_, ?_⟩
        · unfold f_OT_lets
          simp (disch := omega) only [gfd_eq, glet_eq, gbind_eq, nI_ltI, nI_1, gok_nI, grd_nI, nI_clamp, if_true, if_false, Nat.lt_irrefl, a1, a2, jo, i10]
          match q, hq with
          | 0, _ => rfl
          | 1, _ => rfl
        · unfold f_MO_lets
          simp (disch := omega) only [gfd_eq, glet_eq, gbind_eq, nI_ltI, nI_1, gok_nI, grd_nI, nI_clamp, if_true, if_false, Nat.lt_irrefl, b1, b2, b3, i10]
          match q, hq with
          | 0, _ =>
            rw [if_pos (show nI 0 = 0 from rfl)]
            unfold J_MO_lets_38 J_MO_lets_65
            simp (disch := omega) only [gfd_eq, glet_eq, gbind_eq, nI_ltI, nI_1, gok_nI, grd_nI, nI_clamp, if_true, if_false, Nat.lt_irrefl, s2, d1, i10]
            rcases k1 with ⟨rfl, z1⟩ | ⟨j1, h1, rfl, z1⟩
            · rw [if_pos rfl, ← u2, z1]
              rfl
            · simp (disch := omega) only [gfd_eq, glet_eq, gbind_eq, nI_ltI, nI_1, gok_nI, grd_nI, nI_clamp, if_true, if_false, Nat.lt_irrefl, nI_ne4, z1, i10]
              exact u2
          | 1, _ =>
            rw [if_neg (show ¬ nI 1 = 0 by decide)]
            unfold J_MO_lets_38 J_MO_lets_65
            simp (disch := omega) only [gfd_eq, glet_eq, gbind_eq, nI_ltI, nI_1, gok_nI, grd_nI, nI_clamp, if_true, if_false, Nat.lt_irrefl, s2, d0, i10]
            rcases k0 with ⟨rfl, z1⟩ | ⟨j1, h1, rfl, z1⟩
            · rw [if_pos rfl, ← u2, z1]
              rfl
            · simp (disch := omega) only [gfd_eq, glet_eq, gbind_eq, nI_ltI, nI_1, gok_nI, grd_nI, nI_clamp, if_true, if_false, Nat.lt_irrefl, nI_ne4, z1, i10]
              exact u2
theorem p_voids {n0 K : Nat} {m : gM} (x : Int32) (I : Inv n0 K m.1) : gBoth n0 K (f_OT_voids x) (f_MO_voids x) m := by
  obtain ⟨w, h9, n, hr, le, we, nl, np, ol, wp, wc, ww, wo, ws, ru, fr, nu, vo, F⟩ := I.fx
  obtain ⟨w1, w2, -, -⟩ := F.w36
  obtain ⟨⟨zn, z1, z36, zw, zh, zhr, zle, zwe, znl, znp⟩, ⟨y0, y1, y2, yhr, yle, ywe, ynl, ynp⟩, ⟨x0, x1, xhr, xle, xwe, xnl, xnp⟩, ⟨r6, r7, r8, r10, r11, r13, r14, r15, r16, r17, r19, r20, r21, r22, r28, r29, r30, r31⟩, ⟨ecol, eoil, e9, elot⟩, ⟨fp, fc, fw, fo, fb, fo1, frow, fws⟩, g1, g2, gn⟩ := F
  have hin := mo_in0 (x := x) (n := nl) (by omega) m
  have ck : ∀ (A B : Option (Int32 × gM)), (if x < 0 then A else if x < nI nl then B else A) = if gib x nl = true then B else A := fun A B => gchk (by omega)
  have E1 : f_OT_voids x m = if gib x nl = true then (gok (gib x 12) (if (grd m 45 x) = 0 then ((f_Orders_hotOfAll 41 1 m).bind fun (r1 : Int32 × gM) => gok (gib x 12) (gzo 1 (glet (gst r1.2 45 x 1) fun (m1 : gM) => (f_Orders_hotOfAll 41 1 m1).bind fun (r2 : Int32 × gM) => some (r1.1 - r2.1, r2.2)))) else (some ((-100002), m)))) else some (-100000, m) := by
    unfold f_OT_voids
    rw [gfd_eq, ynl]
    exact ck _ _
  rcases gib_cases x nl with hg | ⟨i, hi, rfl, hi2⟩
  · rw [hg] at hin
    refine gBoth.same (-100000) I ?_ ?_
    · rw [E1, hg]; rfl
    · unfold f_MO_voids
      simp (disch := omega) only [gfd_eq, glet_eq, gbind_eq, nI_ltI, nI_1, gok_nI, grd_nI, nI_clamp, if_true, if_false, Nat.lt_irrefl, xnl, hin, Bool.false_eq_true, i10]
  · rw [gib_iff.mpr ⟨i, hi, rfl, hi2⟩] at hin E1
    rw [if_pos rfl] at E1
    have hv := (g1 i hi).2.2.2
    have hv2 := (g2 i hi).2.2.2.1
    have hw2 : m.1 119 i = nI (vo i) := hv2
    have hw1 : m.1 45 i = nI (vo i) := hv.1
    rcases (show vo i = 0 ∨ vo i = 1 by have := hv.2.2.2.2; omega) with e | e
    · rw [e] at hw1 hw2
      let vo' : Nat → Nat := fun k => if k = i then 1 else vo k
      have g1' : LawAt (gup m.1 45 i 1) (42, 43, 44, 45) nl ru fr nu vo' := fun k hk => by
        obtain ⟨l1, l2, l3, l4, l5, l6, l7, l8⟩ := g1 k hk
        refine ⟨l1, l2, l3, ?_, l5, l6, l7, ?_⟩
        · show gup m.1 45 i 1 45 k = nI (if k = i then 1 else vo k)
          rw [gup_eq]
          show (if k = i then 1 else m.1 45 k) = _
          split
          · rfl
          · exact l4
        · show (if k = i then 1 else vo k) ≤ 1
          split
          · omega
          · exact l8
      have g2' : LawAt (gup (gup m.1 45 i 1) 119 i 1) (116, 117, 118, 119) nl ru fr nu vo' := fun k hk => by
        obtain ⟨l1, l2, l3, l4, l5, l6, l7, l8⟩ := g2 k hk
        refine ⟨l1, l2, l3, ?_, l5, l6, l7, ?_⟩
        · show gup (gup m.1 45 i 1) 119 i 1 119 k = nI (if k = i then 1 else vo k)
          rw [gup_eq, gup_ne (by decide)]
          show (if k = i then 1 else m.1 119 k) = _
          split
          · rfl
          · exact l4
        · show (if k = i then 1 else vo k) ≤ 1
          split
          · omega
          · exact l8
      have fc' : ∀ k s, k < we → s < 50 → m.1 26 (50 * k + s) = nI (ws (60 * k + s)) ∧ ws (60 * k + s) ≤ 12000 := fun k s hk hs => ⟨(fws k s hk hs).1, (fws k s hk hs).2.2⟩
      have fm' : ∀ k s, k < we → s < 50 → m.1 99 (60 * k + s) = nI (ws (60 * k + s)) ∧ ws (60 * k + s) ≤ 12000 := fun k s hk hs => (fws k s hk hs).2
      have A1 : f_Orders_hotOfAll 41 1 m = some (gsumI (sHotW (m.1 85) ru fr nu vo wc ws n we nl) we, m) := by
        have c := cl_hotOfAll (b := 41) (a := 1) (m := m) z36 y2 ywe zwe w1 ynl znl g1 (ws := ws) fc'
        rw [c]
        show some (gsumI (sHotW (m.1 10) ru fr nu vo wc ws n we nl) we, m) = _
        rw [r10]
      have A2 : f_MO_hotAll (gup m.1 45 i 1, m.2) = some (gsumI (sHotW (m.1 85) ru fr nu vo wc ws n we nl) we, (gup m.1 45 i 1, m.2)) := mo_hotAll (m := (gup m.1 45 i 1, m.2)) z36 x0 x1 zn xwe zwe w2 xnl znl g2 (ws := ws) fm'
      have B1 : f_Orders_hotOfAll 41 1 (gup m.1 45 i 1, m.2) = some (gsumI (sHotW (m.1 85) ru fr nu vo' wc ws n we nl) we, (gup m.1 45 i 1, m.2)) := by
        have c := cl_hotOfAll (b := 41) (a := 1) (m := (gup m.1 45 i 1, m.2)) z36 y2 ywe zwe w1 ynl znl g1' (ws := ws) fc'
        rw [c]
        show some (gsumI (sHotW (m.1 10) ru fr nu vo' wc ws n we nl) we, _) = _
        rw [r10]
      have B2 : f_MO_hotAll (gup (gup m.1 45 i 1) 119 i 1, m.2) = some (gsumI (sHotW (m.1 85) ru fr nu vo' wc ws n we nl) we, (gup (gup m.1 45 i 1) 119 i 1, m.2)) := mo_hotAll (m := (gup (gup m.1 45 i 1) 119 i 1, m.2)) z36 x0 x1 zn xwe zwe w2 xnl znl g2' (ws := ws) fm'
      refine ⟨gsumI (sHotW (m.1 85) ru fr nu vo wc ws n we nl) we - gsumI (sHotW (m.1 85) ru fr nu vo' wc ws n we nl) we, (gup m.1 45 i 1, m.2), (gup (gup m.1 45 i 1) 119 i 1, m.2), ?_, ?_, ?_⟩
      · rw [E1]
        simp (disch := omega) only [gfd_eq, glet_eq, gbind_eq, nI_ltI, nI_1, gok_nI, grd_nI, nI_clamp, if_true, if_false, Nat.lt_irrefl, hw1, A1, gst_nI, B1, q0, i10]
        rfl
      · have hin' := mo_in0 (x := nI i) (n := nl) (by omega) (gup m.1 45 i 1, m.2)
        rw [gib_iff.mpr ⟨i, hi, rfl, hi2⟩] at hin'
        have xnl' : gup m.1 45 i 1 81 48 = nI nl := xnl
        have hw2' : gup m.1 45 i 1 119 i = nI 0 := hw2
        unfold f_MO_voids
        simp (disch := omega) only [gfd_eq, glet_eq, gbind_eq, nI_ltI, nI_1, gok_nI, grd_nI, nI_clamp, if_true, if_false, Nat.lt_irrefl, xnl', hin', hw2', A2, gst_nI, B2, i10]
        rw [if_neg (show ¬ nI 0 = 1 by decide)]
      · obtain ⟨hF, hP, hT, ⟨nl', ru', fr', nu', vo2, l0, l1, l2, l3, l4⟩, hS, hK⟩ := I.mono (Nat.le_succ n0)
        have en : nl' = nl := (nI_eq (by omega) (by omega)).mp (l1.symm.trans ynl)
        subst en
        refine ⟨?_, hP, hT, ⟨nl', ru', fr', nu', fun k => if k = i then 1 else vo2 k, l0, l1, l2, fun k hk => ⟨(l3 k hk).1, (l3 k hk).2.1, (l3 k hk).2.2.1, ?_, ?_, ?_⟩, l4⟩, hS, hK.frame rfl rfl rfl (fun p hp => ?_)⟩
        · show FRel _ (fun j => gup (gup m.1 45 i 1) 119 i 1 (1 + j)) (fvL (gup (gup m.1 45 i 1) 119 i 1))
          rw [fvL_far (by decide), fvL_far (by decide)]
          exact FRel.blk (fun j hj => by rw [gup_ne (by omega), gup_ne (by omega)]) hF
        · show gup (gup m.1 45 i 1) 119 i 1 45 k = nI (if k = i then 1 else vo2 k)
          rw [gup_ne (by decide), gup_eq]
          show (if k = i then 1 else m.1 45 k) = _
          split
          · rfl
          · exact (l3 k hk).2.2.2.1
        · show gup (gup m.1 45 i 1) 119 i 1 119 k = nI (if k = i then 1 else vo2 k)
          rw [gup_eq, gup_ne (by decide)]
          show (if k = i then 1 else m.1 119 k) = _
          split
          · rfl
          · exact (l3 k hk).2.2.2.2.1
        · show (if k = i then 1 else vo2 k) ≤ 1
          split
          · omega
          · exact (l3 k hk).2.2.2.2.2
        · show gup (gup m.1 45 i 1) 119 i 1 p = _
          rw [gup_ne (by omega), gup_ne (by omega)]
    · rw [e] at hw1 hw2
      refine gBoth.same (-100002) I ?_ ?_
      · rw [E1]
        simp (disch := omega) only [gfd_eq, glet_eq, gbind_eq, nI_ltI, nI_1, gok_nI, grd_nI, nI_clamp, if_true, if_false, Nat.lt_irrefl, hw1, i10]
        rfl
      · unfold f_MO_voids
        simp (disch := omega) only [gfd_eq, glet_eq, gbind_eq, nI_ltI, nI_1, gok_nI, grd_nI, nI_clamp, if_true, if_false, Nat.lt_irrefl, xnl, hin, hw2, i10]
        rfl
