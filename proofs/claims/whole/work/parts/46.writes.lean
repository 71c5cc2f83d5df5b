/-! ===== writing calls on the field: owner, lay, will and the like ===== -/
/-- rows that no call on the field touches -/
def gOut (q : Nat) : Prop := q = 0 ∨ (32 ≤ q ∧ q < 46) ∨ (72 ≤ q ∧ q < 81) ∨ q = 104 ∨ (112 ≤ q ∧ q < 120) ∨ q = 123 ∨ 125 ≤ q
theorem Inv.fld {n K : Nat} {N N' : gN} (H : Inv n K N) (r : ∀ q, gOut q → N' q = N q) (h8 : N' 81 8 = N 81 8) (h37 : N' 81 37 = N 81 37) (h38 : N' 81 38 = N 81 38) (h48 : N' 81 48 = N 81 48) (h60 : N' 81 60 = N 81 60) (hF : FRel n (fun j => N' (1 + j)) (fvL N')) : Inv n K N' := by
  obtain ⟨-, hP, hT, hL, hS, hK⟩ := H
  unfold gOut at r
  refine ⟨hF, ?_, ?_, ?_, ?_, hK.frame (by rw [r 0 (by omega)]) h60 (r 123 (by omega)) (fun q hq => r q (by omega))⟩
  · unfold GPers at hP ⊢
    rw [r 0 (by omega), h8, r 33 (by omega), r 104 (by omega)]
    exact hP
  · unfold GTape at hT ⊢
    rw [r 34 (by omega), h37, h38, r 35 (by omega), r 112 (by omega), r 113 (by omega), r 114 (by omega), r 115 (by omega)]
    exact hT
  · unfold GLaw at hL ⊢
    rw [r 41 (by omega), h48, r 42 (by omega), r 43 (by omega), r 44 (by omega), r 45 (by omega), r 116 (by omega), r 117 (by omega), r 118 (by omega), r 119 (by omega), r 40 (by omega)]
    exact hL
  · have g : ∀ k, k < 4 → GSheet N k → GSheet N' k := by
      intro k hk h
      unfold GSheet at h ⊢
      rw [r (73 + 2 * k) (by omega), r 125 (by omega), r 126 (by omega), r (74 + 2 * k) (by omega), r 127 (by omega)]
      exact h
    exact ⟨g 0 (by decide) hS.1, g 1 (by decide) hS.2.1, g 2 (by decide) hS.2.2.1, g 3 (by decide) hS.2.2.2⟩
/-- only these rows of the reference's view count -/
theorem FRel.cong {n : Nat} {C V V' : gN} (h : ∀ sel, sel < 22 → V' sel = V sel) (h2 : ∀ i, i < 5 → V' 22 i = V 22 i) (H : FRel n C V) : FRel n C V' := by
  unfold FRel at H ⊢
  rw [h 0 (by decide), h 1 (by decide), h 2 (by decide), h 3 (by decide), h 4 (by decide), h 5 (by decide), h 6 (by decide), h 7 (by decide), h 8 (by decide), h 9 (by decide), h 10 (by decide), h 11 (by decide), h 12 (by decide), h 13 (by decide), h 14 (by decide), h 15 (by decide), h 16 (by decide), h 17 (by decide), h 18 (by decide), h 19 (by decide), h 20 (by decide), h 21 (by decide), h2 0 (by decide), h2 1 (by decide), h2 2 (by decide), h2 3 (by decide), h2 4 (by decide)]
  obtain ⟨w, h9, hr, le, we, sd, gs, wt, ol, wp, wc, ww, wo, ws, a1, a2, a3, a4, a5, a6, a7, a8, a9, b1, b2, b3, b4, b5, b6, b7⟩ := H
  exact ⟨w, h9, hr, le, we, sd, gs, wt, ol, wp, wc, ww, wo, ws, a1, a2, a3, a4, a5, a6, a7, a8, a9, b1, b2, b3, b4, b5, b6, fun sel i h1 h3 => by rw [h sel h1]; exact b7 sel i h1 h3⟩
theorem p_owner {n K : Nat} {m : gM} (x y : Int32) (H : Inv n K m.1) : gBoth n K (f_OT_owner x y) (f_MO_owner x y) m := by
  have H0 := H
  obtain ⟨hF, ⟨np, hnp, p1, p2, p3, p4⟩, hT, hL, hS, hK⟩ := H0
  have hr : m.1 13 = m.1 87 := hF.rows.2.1
  rcases gib_cases x 8 with hg | ⟨i, hi, rfl, hi2⟩
  · refine gBoth.same (-5) H ?_ ?_
    · unfold f_OT_owner; rw [ot_isLot, hg, gbind_eq]; rfl
    · unfold f_MO_owner; rw [mo_isLot, hg, gbind_eq]; rfl
  · have hgi : gib (nI i) 8 = true := gib_iff.mpr ⟨i, hi, rfl, hi2⟩
    have good : (y = -4 ∨ gib y np = true) → gBoth n K (f_OT_owner (nI i) y) (f_MO_owner (nI i) y) m := by
      intro hy
      refine ⟨m.1 13 i, (gup m.1 13 i y, m.2), (gup (gup m.1 13 i y) 87 i y, m.2), ?_, ?_, ?_⟩
      · unfold f_OT_owner
        rw [ot_isLot, hgi, gbind_eq]
        show (if y = -4 then J_OT_owner_24 (nI i) y m else (f_OT_isPerson y m).bind _) = _
        rcases hy with hy | hy
        · rw [if_pos hy]; exact (J_owner hi y m).1
        · by_cases h4 : y = -4
          · rw [if_pos h4]; exact (J_owner hi y m).1
          · rw [if_neg h4, ot_isPerson (n := np) (by omega) p1, hy, gbind_eq]
            exact (J_owner hi y m).1
      · have pp : (gup m.1 13 i y, m.2).1 81 8 = nI np := p2
        have jj : J_MO_owner_24 (nI i) y (gup m.1 13 i y, m.2) = some (m.1 13 i, (gup (gup m.1 13 i y) 87 i y, m.2)) := by
          rw [(J_owner hi y (gup m.1 13 i y, m.2)).2]
          show some (m.1 87 i, _) = _
          rw [hr]
        unfold f_MO_owner
        rw [mo_isLot, hgi, gbind_eq]
        show (f_MO_isPerson y (gup m.1 13 i y, m.2)).bind _ = _
        rw [mo_isPerson (n := np) pp (by omega), gbind_eq]
        cases hg : gib y np with
        | true => exact jj
        | false =>
          have h4 : y = -4 := by
            rcases hy with h | h
            · exact h
            · rw [hg] at h; cases h
          show (if y = -4 then J_MO_owner_24 (nI i) y (gup m.1 13 i y, m.2) else _) = _
          rw [if_pos h4]
          exact jj
      · have H1 := H.mono (Nat.le_succ n)
        exact H1.field2 (j := 12) (s := 9) (by decide) (by decide) (fun N => fvL_r87 N i y) (H1.1.owner hi)
    by_cases h4 : y = -4
    · exact good (Or.inl h4)
    · cases hg : gib y np with
      | true => exact good (Or.inr hg)
      | false =>
        refine gBoth.same (-5) H ?_ ?_
        · unfold f_OT_owner
          rw [ot_isLot, hgi, gbind_eq]
          show (if y = -4 then _ else (f_OT_isPerson y m).bind _) = _
          rw [if_neg h4, ot_isPerson (n := np) (by omega) p1, hg, gbind_eq]
          rfl
        · unfold f_MO_owner
          rw [mo_isLot, hgi, gbind_eq]
          show (f_MO_isPerson y m).bind _ = _
          rw [mo_isPerson (n := np) p2 (by omega), hg, gbind_eq]
          show (if y = -4 then _ else _) = _
          rw [if_neg h4]
theorem J_lay {i : Nat} (hi : i < 36) (y : Int32) (m : gM) : J_OT_lay_23 (nI i) y m = some (m.1 10 i, (gup m.1 10 i y, m.2)) ∧ J_MO_lay_23 (nI i) y m = some (m.1 85 i, (gup m.1 85 i y, m.2)) := by
  constructor
  · unfold J_OT_lay_23
    rw [gok_nI hi (by decide), glet_eq, gok_nI hi (by decide), glet_eq, grd_nI _ _ (by omega), gst_nI _ _ _ (by omega)]
  · unfold J_MO_lay_23
    rw [gok_nI hi (by decide), glet_eq, gok_nI hi (by decide), glet_eq, grd_nI _ _ (by omega), gst_nI _ _ _ (by omega)]
theorem p_lay {n0 K : Nat} {m : gM} (x y : Int32) (I : Inv n0 K m.1) : gBoth n0 K (f_OT_lay x y) (f_MO_lay x y) m := by
  obtain ⟨w, h9, n, hr, le, we, nl, np, ol, wp, wc, ww, wo, ws, ru, fr, nu, vo, F⟩ := I.fx
  obtain ⟨⟨zn, z1, z36, zw, zh, zhr, zle, zwe, znl, znp⟩, ⟨y0, y1, y2, yhr, yle, ywe, ynl, ynp⟩, ⟨x0, x1, xhr, xle, xwe, xnl, xnp⟩, ⟨r6, r7, r8, r10, r11, r13, r14, r15, r16, r17, r19, r20, r21, r22, r28, r29, r30, r31⟩, ⟨ecol, eoil, e9, elot⟩, ⟨fp, fc, fw, fo, fb, fo1, frow, fws⟩, g1, g2, gn⟩ := F
  have a1 := ot_hasCell (x := x) (n := n) (by omega) y2
  have b1 := mo_isCell (x := x) x0 x1 (by omega)
  rw [zn] at b1
  rcases gib_cases x n with hg | ⟨i, hi, rfl, hi2⟩
  · rw [hg] at a1 b1
    refine gBoth.same (-1) I ?_ ?_
    · unfold f_OT_lay; rw [a1]; rfl
    · unfold f_MO_lay; rw [b1]; rfl
  · rw [gib_iff.mpr ⟨i, hi, rfl, hi2⟩] at a1 b1
    have good : (y = -4 ∨ gib y 8 = true) → gBoth n0 K (f_OT_lay (nI i) y) (f_MO_lay (nI i) y) m := by
      intro hy
      have b2 := mo_isCell (x := nI i) (m := (gup m.1 10 i y, m.2)) x0 x1 (by omega)
      rw [zn, gib_iff.mpr ⟨i, hi, rfl, hi2⟩] at b2
      have j1 := (J_lay (show i < 36 by omega) y m).1
      have j2 := (J_lay (show i < 36 by omega) y (gup m.1 10 i y, m.2)).2
      have j2 : J_MO_lay_23 (nI i) y (gup m.1 10 i y, m.2) = some (m.1 10 i, (gup (gup m.1 10 i y) 85 i y, m.2)) := by
        rw [j2, r10]; rfl
      refine ⟨m.1 10 i, (gup m.1 10 i y, m.2), (gup (gup m.1 10 i y) 85 i y, m.2), ?_, ?_, ?_⟩
      · unfold f_OT_lay
        simp (disch := omega) only [gfd_eq, glet_eq, gbind_eq, nI_ltI, nI_1, gok_nI, grd_nI, nI_clamp, if_true, if_false, Nat.lt_irrefl, a1, ot_isLot, j1, i10]
        by_cases h4 : y = -4
        · rw [if_pos h4]
        · rw [if_neg h4]
          rcases hy with hy | hy
          · exact absurd hy h4
          · rw [hy]; rfl
      · unfold f_MO_lay
        simp (disch := omega) only [gfd_eq, glet_eq, gbind_eq, nI_ltI, nI_1, gok_nI, grd_nI, nI_clamp, if_true, if_false, Nat.lt_irrefl, b2, mo_isLot, j2, i10]
        cases hg : gib y 8 with
        | true => rfl
        | false =>
          rcases hy with hy | hy
          · show (if y = -4 then _ else _) = _
            rw [if_pos hy]
          · rw [hg] at hy; cases hy
      · have H1 := I.mono (Nat.le_succ n0)
        refine H1.field2 (j := 9) (s := 3) (by decide) (by decide) (fun N => fvL_r85 N i y) (H1.1.lot (by omega) ?_)
        rcases hy with hy | hy
        · exact Or.inl hy
        · obtain ⟨l, h1, h2, -⟩ := gib_iff.mp hy
          exact Or.inr ⟨l, h1, h2⟩
    by_cases h4 : y = -4
    · exact good (Or.inl h4)
    · cases hg : gib y 8 with
      | true => exact good (Or.inr hg)
      | false =>
        refine gBoth.same (-1) I ?_ ?_
        · unfold f_OT_lay
          simp (disch := omega) only [gfd_eq, glet_eq, gbind_eq, nI_ltI, nI_1, gok_nI, grd_nI, nI_clamp, if_true, if_false, Nat.lt_irrefl, a1, ot_isLot, h4, hg, Bool.false_eq_true, i10]
        · unfold f_MO_lay
          simp (disch := omega) only [gfd_eq, glet_eq, gbind_eq, nI_ltI, nI_1, gok_nI, grd_nI, nI_clamp, if_true, if_false, Nat.lt_irrefl, b1, mo_isLot, h4, hg, Bool.false_eq_true, i10]
theorem p_will {n0 K : Nat} {m : gM} (x y : Int32) (I : Inv n0 K m.1) : gBoth n0 K (f_OT_will x y) (f_MO_will x y) m := by
  obtain ⟨w, h9, n, hr, le, we, nl, np, ol, wp, wc, ww, wo, ws, ru, fr, nu, vo, F⟩ := I.fx
  obtain ⟨⟨zn, z1, z36, zw, zh, zhr, zle, zwe, znl, znp⟩, ⟨y0, y1, y2, yhr, yle, ywe, ynl, ynp⟩, ⟨x0, x1, xhr, xle, xwe, xnl, xnp⟩, ⟨r6, r7, r8, r10, r11, r13, r14, r15, r16, r17, r19, r20, r21, r22, r28, r29, r30, r31⟩, ⟨ecol, eoil, e9, elot⟩, ⟨fp, fc, fw, fo, fb, fo1, frow, fws⟩, g1, g2, gn⟩ := F
  have a1 := ot_isWell (x := x) (n := we) (by omega) ywe
  have b1 := mo_isWell (x := x) (n := we) xwe (by omega)
  have a2 : f_OT_within y 60 m = _ := ot_within (x := y) (n := 60) (by omega) m
  have b2 : ∀ m : gM, f_MO_in y.toInt64 (Int32.toInt64 0) (Int32.toInt64 60) m = _ := fun m => mo_in_n (x := y) (n := 60) (by omega) m
  rcases gib_cases x we with hg | ⟨i, hi, rfl, hi2⟩
  · rw [hg] at a1 b1
    refine gBoth.same (-1) I ?_ ?_
    · unfold f_OT_will; rw [a1]; rfl
    · unfold f_MO_will; rw [b1]; rfl
  · rw [gib_iff.mpr ⟨i, hi, rfl, hi2⟩] at a1 b1
    rcases gib_cases y 61 with hg | ⟨v, hv, rfl, hv2⟩
    · rw [hg] at a2
      refine gBoth.same (-1) I ?_ ?_
      · unfold f_OT_will
        simp (disch := omega) only [gfd_eq, glet_eq, gbind_eq, nI_ltI, nI_1, gok_nI, grd_nI, nI_clamp, if_true, if_false, Nat.lt_irrefl, a1, a2, Bool.false_eq_true, i10]
      · unfold f_MO_will
        simp (disch := omega) only [gfd_eq, glet_eq, gbind_eq, nI_ltI, nI_1, gok_nI, grd_nI, nI_clamp, if_true, if_false, Nat.lt_irrefl, b1, b2, hg, Bool.false_eq_true, i10]
    · have hgv := gib_iff.mpr ⟨v, hv, rfl, hv2⟩
      rw [hgv] at a2
      have b3 := mo_isWell (x := nI i) (n := we) (m := (gup m.1 21 i (nI v), m.2)) xwe (by omega)
      rw [gib_iff.mpr ⟨i, hi, rfl, hi2⟩] at b3
      refine ⟨m.1 21 i, (gup m.1 21 i (nI v), m.2), (gup (gup m.1 21 i (nI v)) 94 i (nI v), m.2), ?_, ?_, ?_⟩
      · unfold f_OT_will
        simp (disch := omega) only [gfd_eq, glet_eq, gbind_eq, nI_ltI, nI_1, gok_nI, grd_nI, nI_clamp, if_true, if_false, Nat.lt_irrefl, a1, a2, gst_nI, i10]
      · unfold f_MO_will
        simp (disch := omega) only [gfd_eq, glet_eq, gbind_eq, nI_ltI, nI_1, gok_nI, grd_nI, nI_clamp, if_true, if_false, Nat.lt_irrefl, b3, b2, hgv, gst_nI, gup_row, r21, i10]
      · have H1 := I.mono (Nat.le_succ n0)
        exact H1.field2 (j := 20) (s := 16) (by decide) (by decide) (fun N => fvL_r94 N i (nI v)) (H1.1.will (by omega) (by omega))
theorem p_opn {n0 K : Nat} {m : gM} (x y : Int32) (hy : y = 0 ∨ y = 1) (I : Inv n0 K m.1) : gBoth n0 K (f_OT_open x y) (f_MO_open x y) m := by
  obtain ⟨w, h9, n, hr, le, we, nl, np, ol, wp, wc, ww, wo, ws, ru, fr, nu, vo, F⟩ := I.fx
  obtain ⟨⟨zn, z1, z36, zw, zh, zhr, zle, zwe, znl, znp⟩, ⟨y0, y1, y2, yhr, yle, ywe, ynl, ynp⟩, ⟨x0, x1, xhr, xle, xwe, xnl, xnp⟩, ⟨r6, r7, r8, r10, r11, r13, r14, r15, r16, r17, r19, r20, r21, r22, r28, r29, r30, r31⟩, ⟨ecol, eoil, e9, elot⟩, ⟨fp, fc, fw, fo, fb, fo1, frow, fws⟩, g1, g2, gn⟩ := F
  have a1 := ot_isWell (x := x) (n := we) (by omega) ywe
  have b1 := mo_isWell (x := x) (n := we) xwe (by omega)
  rcases gib_cases x we with hg | ⟨i, hi, rfl, hi2⟩
  · rw [hg] at a1 b1
    refine gBoth.same (-1) I ?_ ?_
    · unfold f_OT_open; rw [a1]; rfl
    · unfold f_MO_open; rw [b1]; rfl
  · rw [gib_iff.mpr ⟨i, hi, rfl, hi2⟩] at a1 b1
    obtain ⟨v, hv, rfl⟩ : ∃ v, v ≤ 1 ∧ y = nI v := by
      rcases hy with rfl | rfl
      · exact ⟨0, by omega, rfl⟩
      · exact ⟨1, by omega, rfl⟩
    have b3 := mo_isWell (x := nI i) (n := we) (m := (gup m.1 22 i (nI v), m.2)) xwe (by omega)
    rw [gib_iff.mpr ⟨i, hi, rfl, hi2⟩] at b3
    have e1 : m.1 95 i = nI (wo i) := congrFun fo i
    have e2 : m.1 22 i = nI (wo i) := by rw [r22]; exact e1
    have hw := fo1 i
    refine ⟨nI (wo i), (gup m.1 22 i (nI v), m.2), (gup (gup m.1 22 i (nI v)) 95 i (nI v), m.2), ?_, ?_, ?_⟩
    · unfold f_OT_open
      rw [a1]
      simp (disch := omega) only [gfd_eq, glet_eq, gbind_eq, nI_ltI, nI_1, gok_nI, grd_nI, nI_clamp, if_true, if_false, Nat.lt_irrefl, gst_nI, e2, gzo_t hy, i10]
      rcases (show wo i = 0 ∨ wo i = 1 by omega) with e | e
      · rw [e]; rfl
      · rw [e]; rfl
    · unfold f_MO_open
      simp (disch := omega) only [gfd_eq, glet_eq, gbind_eq, nI_ltI, nI_1, gok_nI, grd_nI, nI_clamp, if_true, if_false, Nat.lt_irrefl, b3, gst_nI, gup_row, e1, J_MO_open_31, i10]
      rcases hy with h | h
      · rw [if_pos h, h]
      · rw [if_neg (by rw [h]; decide), h]
    · have H1 := I.mono (Nat.le_succ n0)
      exact H1.field2 (j := 21) (s := 17) (by decide) (by decide) (fun N => fvL_r95 N i (nI v)) (H1.1.opn (by omega) hv)
