/-! ===== sell; rows set whole ===== -/
theorem FRel.books {n p s : Nat} {a b c d : Int32} {C V : gN} (H : FRel n C V) (hp : p < 6) (hs : s < 50) : FRel n (gup (gup (gup (gup C 27 p a) 28 p b) 29 p c) 30 s d) (gup (gup (gup (gup V 6 p a) 7 p b) 8 p c) 5 s d) := by
  obtain ⟨w, h9, hr, le, we, sd, gs, wt, ol, wp, wc, ww, wo, ws, a1, a2, a3, a4, a5, a6, a7, a8, a9, b1, b2, b3, b4, b5, ⟨c1, c2, c3, c4⟩, b7⟩ := H
  exact ⟨w, h9, hr, le, we, sd, gs, wt, ol, wp, wc, ww, wo, ws, a1, a2, a3, a4, a5, a6, a7, a8, a9, b1, b2, b3, b4, b5, ⟨gup_pair (a := 27) (b := 6) c1, gup_pair (a := 28) (b := 7) c2, gup_pair (a := 29) (b := 8) c3, gup_pair (a := 30) (b := 5) c4⟩, gzb (gzb (gzb (gzb b7 hp) hp) hp) hs⟩
theorem cl_sellAt {s p : Nat} {x : Int32} {m : gM} (hs : s < 50) (hp : p < 6) : f_Books_sellAt 27 (nI s) (nI p) x m = some (x * (if s = 0 then 100 else gmax 4 (100 - m.1 31 (s - 1) / 5)), (gup (gup (gup (gup m.1 28 p (m.1 28 p - x)) 29 p (m.1 29 p + x)) 30 p (m.1 30 p + x * (if s = 0 then 100 else gmax 4 (100 - m.1 31 (s - 1) / 5)))) 31 s (m.1 31 s + x), m.2)) := by
  have c := cl_price (a := 27) (s := s) (m := m) hs
  simp only [Nat.reduceAdd] at c
  unfold f_Books_sellAt
  simp (disch := omega) only [gfd_eq, glet_eq, gbind_eq, nI_ltI, nI_1, gok_nI, grd_nI, nI_clamp, if_true, if_false, Nat.lt_irrefl, c, gst_nI, gup_row, Nat.reduceAdd, i10]
theorem p_sell {n0 K : Nat} {m : gM} (x y : Int32) (I : Inv n0 K m.1) : gBoth n0 K (f_OT_sell x y) (f_MO_sell x y) m := by
  obtain ⟨w, h9, n, hr, le, we, nl, np, ol, wp, wc, ww, wo, ws, ru, fr, nu, vo, F⟩ := I.fx
  obtain ⟨⟨zn, z1, z36, zw, zh, zhr, zle, zwe, znl, znp⟩, ⟨y0, y1, y2, yhr, yle, ywe, ynl, ynp⟩, ⟨x0, x1, xhr, xle, xwe, xnl, xnp⟩, ⟨r6, r7, r8, r10, r11, r13, r14, r15, r16, r17, r19, r20, r21, r22, r28, r29, r30, r31⟩, ⟨ecol, eoil, e9, elot⟩, ⟨fp, fc, fw, fo, fb, fo1, frow, fws⟩, g1, g2, gn⟩ := F
  have a1 := ot_isPerson (x := x) (n := np) (by omega) ynp
  have b1 := mo_isPerson (x := x) (n := np) xnp (by omega)
  have b3 : ∀ m : gM, f_MO_in y.toInt64 (Int32.toInt64 1) (Int32.toInt64 999) m = some (if y < 1 then 0 else if nI 999 < y then 0 else 1, m) := fun m => one_in (x := y) (n := 999) (by omega) m
  rcases gib_cases x np with hg | ⟨i, hi, rfl, hi2⟩
  · rw [hg] at a1 b1
    refine gBoth.same (-1) I ?_ ?_
    · unfold f_OT_sell; rw [a1]; rfl
    · unfold f_MO_sell; rw [b1]; rfl
  · have hgi := gib_iff.mpr ⟨i, hi, rfl, hi2⟩
    rw [hgi] at a1 b1
    rcases one_to (x := y) (n := 999) (by omega) with hz | ⟨t, ht1, ht2, rfl⟩
    · refine gBoth.same (-1) I ?_ ?_
      · unfold f_OT_sell
        simp (disch := omega) only [gfd_eq, glet_eq, gbind_eq, nI_ltI, nI_1, gok_nI, grd_nI, nI_clamp, if_true, if_false, Nat.lt_irrefl, a1, i10]
        rcases hz with hz | hz
        · rw [if_pos hz]
        · by_cases h1 : y < 1
          · rw [if_pos h1]
          · rw [if_neg h1, if_pos (show (999 : Int32) < y from hz)]
      · unfold f_MO_sell
        simp (disch := omega) only [gfd_eq, glet_eq, gbind_eq, nI_ltI, nI_1, gok_nI, grd_nI, nI_clamp, if_true, if_false, Nat.lt_irrefl, b1, b3, i10]
        rcases hz with hz | hz
        · rw [if_pos hz]; rfl
        · by_cases h1 : y < 1
          · rw [if_pos h1]; rfl
          · rw [if_neg h1, if_pos hz]; rfl
    · have n1 : ¬ nI t < 1 := nI_nlt (a := t) (b := 1) ht1 (by omega)
      have n2 : ¬ nI 999 < nI t := nI_nlt ht2 (by omega)
      have n3 : ¬ (999 : Int32) < nI t := n2
      have s1 := cl_shift (a := 1) (m := m) yhr (by omega)
      by_cases hlt : m.1 100 i < nI t
      · refine gBoth.same (-2) I ?_ ?_
        · unfold f_OT_sell
          simp (disch := omega) only [gfd_eq, glet_eq, gbind_eq, nI_ltI, nI_1, gok_nI, grd_nI, nI_clamp, if_true, if_false, Nat.lt_irrefl, a1, n1, n3, r28, hlt, i10]
        · unfold f_MO_sell
          simp (disch := omega) only [gfd_eq, glet_eq, gbind_eq, nI_ltI, nI_1, gok_nI, grd_nI, nI_clamp, if_true, if_false, Nat.lt_irrefl, b1, b3, n1, n2, hlt, i10]
      · have c1 := cl_sellAt (s := hr / 4) (p := i) (x := nI t) (m := m) (by omega) (by omega)
        rw [r28, r29, r30, r31] at c1
        generalize hpr : nI t * (if hr / 4 = 0 then 100 else gmax 4 (100 - m.1 103 (hr / 4 - 1) / 5)) = pr at c1
        let m1 : gM := (gup (gup (gup (gup m.1 28 i (m.1 100 i - nI t)) 29 i (m.1 101 i + nI t)) 30 i (m.1 102 i + pr)) 31 (hr / 4) (m.1 103 (hr / 4) + nI t), m.2)
        have c1 : _ = some (pr, m1) := c1
        have b1' := mo_isPerson (x := nI i) (n := np) (m := m1) xnp (by omega)
        rw [hgi] at b1'
        have s2 := mo_shift (m := m1) (hr := hr) xhr (by omega)
        have c2 : f_MO_priceOf (nI (hr / 4)) m1 = some (if hr / 4 = 0 then 100 else gmax 4 (100 - m.1 103 (hr / 4 - 1) / 5), m1) := mo_price (m := m1) (by omega)
        have s3 : f_MO_shift (gup (gup (gup m1.1 100 i (m.1 100 i - nI t)) 101 i (m.1 101 i + nI t)) 102 i (m.1 102 i + pr), m1.2) = some (nI (hr / 4), (gup (gup (gup m1.1 100 i (m.1 100 i - nI t)) 101 i (m.1 101 i + nI t)) 102 i (m.1 102 i + pr), m1.2)) := mo_shift (hr := hr) xhr (by omega)
        have v0 : m1.1 100 i = m.1 100 i := rfl
        have v1 : m1.1 101 i = m.1 101 i := rfl
        have v2 : m1.1 102 i = m.1 102 i := rfl
        have v3 : m1.1 103 (hr / 4) = m.1 103 (hr / 4) := rfl
        refine ⟨pr, m1, (gup (gup (gup (gup m1.1 100 i (m.1 100 i - nI t)) 101 i (m.1 101 i + nI t)) 102 i (m.1 102 i + pr)) 103 (hr / 4) (m.1 103 (hr / 4) + nI t), m1.2), ?_, ?_, ?_⟩
        · unfold f_OT_sell
          simp (disch := omega) only [gfd_eq, glet_eq, gbind_eq, nI_ltI, nI_1, gok_nI, grd_nI, nI_clamp, if_true, if_false, Nat.lt_irrefl, a1, n1, n3, r28, hlt, s1, c1, i10]
        · unfold f_MO_sell
          simp (disch := omega) only [gfd_eq, glet_eq, gbind_eq, nI_ltI, nI_1, gok_nI, grd_nI, nI_clamp, if_true, if_false, Nat.lt_irrefl, b1', b3, n1, n2, v0, hlt, s2, c2, hpr, gst_nI, gup_row, v1, v2, s3, v3, i10]
        · have H1 := I.mono (Nat.le_succ n0)
          refine H1.fld (fun q hq => ?_) rfl rfl rfl rfl rfl ?_
          · unfold gOut at hq
            show gup _ _ _ _ q = _
            rw [gup_ne (by omega), gup_ne (by omega), gup_ne (by omega), gup_ne (by omega)]
            show gup _ _ _ _ q = _
            rw [gup_ne (by omega), gup_ne (by omega), gup_ne (by omega), gup_ne (by omega)]
          · have L := H1.1.books (p := i) (s := hr / 4) (a := m.1 100 i - nI t) (b := m.1 101 i + nI t) (c := m.1 102 i + pr) (d := m.1 103 (hr / 4) + nI t) (by omega) (by omega)
            have e2 : fvL (gup (gup (gup (gup m1.1 100 i (m.1 100 i - nI t)) 101 i (m.1 101 i + nI t)) 102 i (m.1 102 i + pr)) 103 (hr / 4) (m.1 103 (hr / 4) + nI t)) = gup (gup (gup (gup (fvL m.1) 6 i (m.1 100 i - nI t)) 7 i (m.1 101 i + nI t)) 8 i (m.1 102 i + pr)) 5 (hr / 4) (m.1 103 (hr / 4) + nI t) := by
              rw [fvL_r103, fvL_r102, fvL_r101, fvL_r100]
              show gup (gup (gup (gup (fvL (gup (gup (gup (gup m.1 28 i (m.1 100 i - nI t)) 29 i (m.1 101 i + nI t)) 30 i (m.1 102 i + pr)) 31 (hr / 4) (m.1 103 (hr / 4) + nI t))) 6 i _) 7 i _) 8 i _) 5 (hr / 4) _ = _
              rw [fvL_far (by decide), fvL_far (by decide), fvL_far (by decide), fvL_far (by decide)]
            show FRel _ _ (fvL (gup (gup (gup (gup m1.1 100 i (m.1 100 i - nI t)) 101 i (m.1 101 i + nI t)) 102 i (m.1 102 i + pr)) 103 (hr / 4) (m.1 103 (hr / 4) + nI t)))
            rw [e2]
            refine FRel.blk (fun k hk => ?_) L
            show gup _ _ _ _ (1 + k) = _
            rw [gup_ne (by omega), gup_ne (by omega), gup_ne (by omega), gup_ne (by omega)]
            have g1 := congrFun (gblk (gup (gup (gup m.1 (1 + 27) i (m.1 100 i - nI t)) (1 + 28) i (m.1 101 i + nI t)) (1 + 29) i (m.1 102 i + pr)) 1 30 (hr / 4) (m.1 103 (hr / 4) + nI t)) k
            rw [gblk, gblk, gblk] at g1
            exact g1
/-- a row set whole -/
def grw (N : gN) (a : Nat) (f : Nat → Int32) : gN := fun p => if p = a then f else N p
theorem grw_eq (N : gN) (a : Nat) (f : Nat → Int32) : grw N a f a = f := if_pos rfl
theorem grw_ne {N : gN} {a p : Nat} {f : Nat → Int32} (h : p ≠ a) : grw N a f p = N p := if_neg h
theorem grw_id (N : gN) (a : Nat) : grw N a (N a) = N := by
  funext p
  by_cases h : p = a
  · rw [h, grw_eq]
  · rw [grw_ne h]
theorem gup_grw (N : gN) (a i : Nat) (x : Int32) : gup N a i x = grw N a (fun q => if q = i then x else N a q) := by
  funext p
  by_cases h : p = a
  · rw [h, grw_eq, gup_eq]
  · rw [grw_ne h, gup_ne h]
theorem grw_grw (N : gN) (a : Nat) (f g : Nat → Int32) : grw (grw N a f) a g = grw N a g := by
  funext p
  by_cases h : p = a
  · rw [h, grw_eq, grw_eq]
  · rw [grw_ne h, grw_ne h, grw_ne h]
/-- a stretch of a row filled -/
def gst_ (f : Nat → Int32) (lo n : Nat) (x : Int32) : Nat → Int32 := fun q => if lo ≤ q ∧ q < lo + n then x else f q
theorem gst_0 (f : Nat → Int32) (lo : Nat) (x : Int32) : gst_ f lo 0 x = f := by
  funext q
  exact if_neg (by omega)
theorem gst_s (f : Nat → Int32) (lo j : Nat) (x : Int32) : (fun q => if q = lo + j then x else gst_ f lo j x q) = gst_ f lo (j + 1) x := by
  funext q
  unfold gst_
  by_cases h : q = lo + j
  · rw [if_pos h, if_pos (by omega)]
  · rw [if_neg h]
    by_cases h2 : lo ≤ q ∧ q < lo + j
    · rw [if_pos h2, if_pos (by omega)]
    · rw [if_neg h2, if_neg (by omega)]
theorem gup_fill (N : gN) (a lo j : Nat) (x : Int32) : gup (grw N a (gst_ (N a) lo j x)) a (lo + j) x = grw N a (gst_ (N a) lo (j + 1) x) := by
  rw [gup_grw, grw_grw, grw_eq, gst_s]
