/-! ===== lease, sell ===== -/
theorem q12 : (12 : Int32) = nI 12 := rfl
theorem q199 : (199 : Int32) = nI 199 := rfl
theorem q999 : (999 : Int32) = nI 999 := rfl
theorem gsf_eq (m : gM) (a k : Nat) (x : Int32) : gsf m a k x = (gup m.1 a k x, m.2) := rfl
theorem nI_pred' (n : Nat) : nI (n + 1) - 1 = nI n := nI_pred n
theorem eq_nI12 {k : Nat} (h : k < 2 ^ 31) : (nI k = nI 12) ↔ k = 12 := nI_eq h (by decide)
/-- a number from 1 on, to n -/
theorem one_to {x : Int32} {n : Nat} (hn : n + 1 < 2 ^ 31) : (x < 1 ∨ nI n < x) ∨ ∃ j, 1 ≤ j ∧ j ≤ n ∧ x = nI j := by
  by_cases h1 : x < 1
  · exact Or.inl (Or.inl h1)
  · have h0 : ¬ x < 0 := fun z => h1 (Int32.lt_trans z (by decide))
    obtain ⟨j, hj, rfl⟩ := nI_of h0
    by_cases h2 : n < j
    · exact Or.inl (Or.inr (nI_lt h2 hj))
    · refine Or.inr ⟨j, ?_, by omega, rfl⟩
      rcases Nat.eq_zero_or_pos j with e | e
      · subst e; exact absurd (show nI 0 < 1 by decide) h1
      · exact e
theorem one_in {x : Int32} {n : Nat} (hn : n + 1 < 2 ^ 31) (m : gM) : f_MO_in x.toInt64 (Int32.toInt64 1) (nI n).toInt64 m = some (if x < 1 then 0 else if nI n < x then 0 else 1, m) := mo_in x 1 (nI n) m
theorem cl_deedsAdd {le : Nat} {x1 x2 x3 x4 : Int32} {m : gM} (h : m.1 12 1 = nI le) (hle : le < 12) : f_Deeds_add 12 x1 x2 x3 x4 m = some (nI le, (gup (gup (gup (gup (gup m.1 14 le x1) 15 le x2) 16 le x3) 17 le x4) 12 1 (nI (le + 1)), m.2)) := by
  unfold f_Deeds_add
  simp (disch := omega) only [gfd_eq, glet_eq, gbind_eq, nI_ltI, nI_1, gok_nI, grd_nI, nI_clamp, if_true, if_false, Nat.lt_irrefl, h, hle, q12, gst_nI, gsf_eq, gup_row, Nat.reduceAdd, gup_at, i10]
  rw [nI_pred']
theorem FRel.lease {n le : Nat} {a b c d : Int32} {C V : gN} (H : FRel n C V) (h : C 11 1 = nI le) (hle : le < 12) : FRel n (gup (gup (gup (gup (gup C 13 le a) 14 le b) 15 le c) 16 le d) 11 1 (nI (le + 1))) (gup (gup (gup (gup (gup V 10 le a) 11 le b) 12 le c) 13 le d) 22 3 (nI (le + 1))) := by
  obtain ⟨w, h9, hr, le', we, sd, gs, wt, ol, wp, wc, ww, wo, ws, a1, a2, a3, a4, a5, a6, a7, a8, ⟨c1, c2, c3, c4, c5⟩, b1, b2, b3, b4, b5, b6, b7⟩ := H
  have e : le' = le := (nI_eq (by omega) (by omega)).mp (a3.2.2.2.2.1.symm.trans h)
  subst e
  refine ⟨w, h9, hr, le' + 1, we, sd, gs, wt, ol, wp, wc, ww, wo, ws, ⟨a1.1, a1.2.1, a1.2.2.1, a1.2.2.2.1, a1.2.2.2.2.1, by omega, a1.2.2.2.2.2.2⟩, ⟨a2.1, a2.2.1, a2.2.2.1, rfl, a2.2.2.2.2⟩, ⟨a3.1, a3.2.1, a3.2.2.1, a3.2.2.2.1, rfl, a3.2.2.2.2.2⟩, a4, a5, a6, a7, a8, ⟨c1, ?_, ?_, ?_, ?_⟩, b1, b2, b3, b4, b5, b6, fun sel i h1 h2 => ?_⟩
  · exact gup_pair c2
  · exact gup_pair c3
  · exact gup_pair c4
  · exact gup_pair c5
  · rw [gup_row (by omega)]
    exact gzb (gzb (gzb (gzb b7 (show le' < 12 from hle)) (show le' < 12 from hle)) (show le' < 12 from hle)) (show le' < 12 from hle) sel i h1 h2
theorem p_lease {n0 K : Nat} {m : gM} (x y z u : Int32) (I : Inv n0 K m.1) : gBoth n0 K (f_OT_lease x y z u) (f_MO_lease x y z u) m := by
  obtain ⟨w, h9, n, hr, le, we, nl, np, ol, wp, wc, ww, wo, ws, ru, fr, nu, vo, F⟩ := I.fx
  obtain ⟨⟨zn, z1, z36, zw, zh, zhr, zle, zwe, znl, znp⟩, ⟨y0, y1, y2, yhr, yle, ywe, ynl, ynp⟩, ⟨x0, x1, xhr, xle, xwe, xnl, xnp⟩, ⟨r6, r7, r8, r10, r11, r13, r14, r15, r16, r17, r19, r20, r21, r22, r28, r29, r30, r31⟩, ⟨ecol, eoil, e9, elot⟩, ⟨fp, fc, fw, fo, fb, fo1, frow, fws⟩, g1, g2, gn⟩ := F
  have a1 := ot_isLot x m
  have b1 := mo_isLot x m
  have a2 := ot_isPerson (x := y) (n := np) (by omega) ynp
  have b2 := mo_isPerson (x := y) (n := np) xnp (by omega)
  have b3 : ∀ m : gM, f_MO_in z.toInt64 (Int32.toInt64 1) (Int32.toInt64 199) m = some (if z < 1 then 0 else if nI 199 < z then 0 else 1, m) := fun m => one_in (x := z) (n := 199) (by omega) m
  have a4 : f_OT_within u 999 m = _ := ot_within (x := u) (n := 999) (by omega) m
  have b4 : ∀ m : gM, f_MO_in u.toInt64 (Int32.toInt64 0) (Int32.toInt64 999) m = _ := fun m => mo_in_n (x := u) (n := 999) (by omega) m
  rcases gib_cases x 8 with hg | ⟨i, hi, rfl, hi2⟩
  · rw [hg] at a1 b1
    refine gBoth.same (-1) I ?_ ?_
    · unfold f_OT_lease; rw [a1]; rfl
    · unfold f_MO_lease; rw [b1]; rfl
  · have hgi := gib_iff.mpr ⟨i, hi, rfl, hi2⟩
    rw [hgi] at a1 b1
    rcases gib_cases y np with hg | ⟨j, hj, rfl, hj2⟩
    · rw [hg] at a2 b2
      refine gBoth.same (-1) I ?_ ?_
      · unfold f_OT_lease
        simp (disch := omega) only [gfd_eq, glet_eq, gbind_eq, nI_ltI, nI_1, gok_nI, grd_nI, nI_clamp, if_true, if_false, Nat.lt_irrefl, a1, a2, Bool.false_eq_true, i10]
      · unfold f_MO_lease
        simp (disch := omega) only [gfd_eq, glet_eq, gbind_eq, nI_ltI, nI_1, gok_nI, grd_nI, nI_clamp, if_true, if_false, Nat.lt_irrefl, b1, b2, Bool.false_eq_true, i10]
    · have hgj := gib_iff.mpr ⟨j, hj, rfl, hj2⟩
      rw [hgj] at a2 b2
      rcases one_to (x := z) (n := 199) (by omega) with hz | ⟨t, ht1, ht2, rfl⟩
      · refine gBoth.same (-1) I ?_ ?_
        · unfold f_OT_lease
          simp (disch := omega) only [gfd_eq, glet_eq, gbind_eq, nI_ltI, nI_1, gok_nI, grd_nI, nI_clamp, if_true, if_false, Nat.lt_irrefl, a1, a2, i10]
          rcases hz with hz | hz
          · rw [if_pos hz]
          · by_cases h1 : z < 1
            · rw [if_pos h1]
            · rw [if_neg h1, if_pos (show (199 : Int32) < z from hz)]
        · unfold f_MO_lease
          simp (disch := omega) only [gfd_eq, glet_eq, gbind_eq, nI_ltI, nI_1, gok_nI, grd_nI, nI_clamp, if_true, if_false, Nat.lt_irrefl, b1, b2, b3, i10]
          rcases hz with hz | hz
          · rw [if_pos hz]; rfl
          · by_cases h1 : z < 1
            · rw [if_pos h1]; rfl
            · rw [if_neg h1, if_pos hz]; rfl
      · have n1 : ¬ nI t < 1 := nI_nlt (a := t) (b := 1) ht1 (by omega)
        have n2 : ¬ nI 199 < nI t := nI_nlt ht2 (by omega)
        have n3 : ¬ (199 : Int32) < nI t := n2
        rcases gib_cases u 1000 with hg | ⟨s, hs, rfl, hs2⟩
        · rw [hg] at a4
          refine gBoth.same (-1) I ?_ ?_
          · unfold f_OT_lease
            simp (disch := omega) only [gfd_eq, glet_eq, gbind_eq, nI_ltI, nI_1, gok_nI, grd_nI, nI_clamp, if_true, if_false, Nat.lt_irrefl, a1, a2, n1, n3, a4, Bool.false_eq_true, i10]
          · unfold f_MO_lease
            simp (disch := omega) only [gfd_eq, glet_eq, gbind_eq, nI_ltI, nI_1, gok_nI, grd_nI, nI_clamp, if_true, if_false, Nat.lt_irrefl, b1, b2, b3, n1, n2, b4, hg, Bool.false_eq_true, i10]
        · have hgs := gib_iff.mpr ⟨s, hs, rfl, hs2⟩
          rw [hgs] at a4
          by_cases hle : le < 12
          · let m1 : gM := (gup (gup (gup (gup (gup m.1 14 le (nI i)) 15 le (nI j)) 16 le (nI t)) 17 le (nI s)) 12 1 (nI (le + 1)), m.2)
            have c1 : f_Deeds_add 12 (nI i) (nI j) (nI t) (nI s) m = some (nI le, m1) := cl_deedsAdd yle hle
            have b1' := mo_isLot (nI i) m1
            have b2' := mo_isPerson (x := nI j) (n := np) (m := m1) xnp (by omega)
            rw [hgi] at b1'
            rw [hgj] at b2'
            have xle1 : m1.1 81 10 = nI le := xle
            have hn12 : ¬ le = 12 := by omega
            refine ⟨nI le, m1, (gup (gup (gup (gup (gup m1.1 88 le (nI i)) 89 le (nI j)) 90 le (nI t)) 91 le (nI s)) 81 10 (nI (le + 1)), m1.2), ?_, ?_, ?_⟩
            · unfold f_OT_lease
              simp (disch := omega) only [gfd_eq, glet_eq, gbind_eq, nI_ltI, nI_1, gok_nI, grd_nI, nI_clamp, if_true, if_false, Nat.lt_irrefl, a1, a2, n1, n3, a4, c1, i10]
            · unfold f_MO_lease
              simp (disch := omega) only [gfd_eq, glet_eq, gbind_eq, nI_ltI, nI_1, gok_nI, grd_nI, nI_clamp, if_true, if_false, Nat.lt_irrefl, b1', b2', b3, n1, n2, b4, hgs, xle1, q12, eq_nI12, hn12, gst_nI, gsf_eq, gup_row, gup_at, i10]
              rw [nI_pred']
            · have H1 := I.mono (Nat.le_succ n0)
              refine H1.fld (fun q hq => ?_) rfl rfl rfl rfl rfl ?_
              · unfold gOut at hq
                show gup _ _ _ _ q = _
                rw [gup_ne (by omega), gup_ne (by omega), gup_ne (by omega), gup_ne (by omega), gup_ne (by omega)]
                show gup _ _ _ _ q = _
                rw [gup_ne (by omega), gup_ne (by omega), gup_ne (by omega), gup_ne (by omega), gup_ne (by omega)]
              · have L := H1.1.lease (a := nI i) (b := nI j) (c := nI t) (d := nI s) (le := le) yle hle
                have e2 : fvL (gup (gup (gup (gup m1.1 88 le (nI i)) 89 le (nI j)) 90 le (nI t)) 91 le (nI s)) = gup (gup (gup (gup (fvL m.1) 10 le (nI i)) 11 le (nI j)) 12 le (nI t)) 13 le (nI s) := by
                  rw [fvL_r91, fvL_r90, fvL_r89, fvL_r88]
                  show gup (gup (gup (gup (fvL (gup (gup (gup (gup (gup m.1 14 le (nI i)) 15 le (nI j)) 16 le (nI t)) 17 le (nI s)) 12 1 (nI (le + 1)))) 10 le (nI i)) 11 le (nI j)) 12 le (nI t)) 13 le (nI s) = _
                  rw [fvL_far (by decide), fvL_far (by decide), fvL_far (by decide), fvL_far (by decide), fvL_far (by decide)]
                refine FRel.cong (fun sel hs => ?_) (fun k hk => ?_) (FRel.blk (fun k hk => ?_) L)
                · funext k
                  show fvL (gup _ 81 10 _) sel k = _
                  rw [fvL_s10, if_neg (by omega), e2]
                  exact (gup_row (a := 22) (by omega)).symm
                · show fvL (gup _ 81 10 _) 22 k = _
                  rw [fvL_s10, e2, gup_all _ 22 3]
                  simp only [Nat.le_refl, true_and]
                · show gup _ _ _ _ (1 + k) = _
                  rw [gup_ne (by omega), gup_ne (by omega), gup_ne (by omega), gup_ne (by omega), gup_ne (by omega)]
                  show gup (gup (gup (gup (gup m.1 (1 + 13) le (nI i)) (1 + 14) le (nI j)) (1 + 15) le (nI t)) (1 + 16) le (nI s)) (1 + 11) 1 (nI (le + 1)) (1 + k) = _
                  have g1 := congrFun (gblk (gup (gup (gup (gup m.1 (1 + 13) le (nI i)) (1 + 14) le (nI j)) (1 + 15) le (nI t)) (1 + 16) le (nI s)) 1 11 1 (nI (le + 1))) k
                  rw [gblk, gblk, gblk, gblk] at g1
                  exact g1
          · have e12 : le = 12 := by omega
            subst e12
            refine gBoth.same (-3) I ?_ ?_
            · unfold f_OT_lease f_Deeds_add
              simp (disch := omega) only [gfd_eq, glet_eq, gbind_eq, nI_ltI, nI_1, gok_nI, grd_nI, nI_clamp, if_true, if_false, Nat.lt_irrefl, a1, a2, n1, n3, a4, yle, q12, i10]
            · unfold f_MO_lease
              simp (disch := omega) only [gfd_eq, glet_eq, gbind_eq, nI_ltI, nI_1, gok_nI, grd_nI, nI_clamp, if_true, if_false, Nat.lt_irrefl, b1, b2, b3, n1, n2, b4, hgs, xle, q12, i10]
