/-! ===== reading calls ===== -/
section SW
variable {x : Int32} {m : gM} {o d : Option (Int32 × gM)} {k : Int32} {l : List (Int32 × Option (Int32 × gM))}
theorem gsw_n (h : ∃ v, d = some (v, m)) : ∃ v, gswo x [] d = some (v, m) := h
theorem gsw_c (h : ∃ v, o = some (v, m)) (h2 : ∃ v, gswo x l d = some (v, m)) : ∃ v, gswo x ((k, o) :: l) d = some (v, m) := by
  show ∃ v, (if x = k then o else gswo x l d) = some (v, m)
  by_cases e : x = k
  · rw [if_pos e]; exact h
  · rw [if_neg e]; exact h2
end SW
theorem i20 : ((2 : Int32) = 0) = False := eq_false (by decide)
theorem i21 : ((2 : Int32) = 1) = False := eq_false (by decide)
theorem ne10 {l j : Nat} (hl : l < 9) (hj : j < 10) : (nI (l + 10) = nI j) ↔ False := by
  rw [nI_eq (by omega) (by omega)]
  constructor
  · intro h; omega
  · intro h; exact h.elim
theorem gSame.of {f g : gM → Option (Int32 × gM)} {m : gM} {o : Option (Int32 × gM)} (h1 : f m = o) (h2 : g m = o) (h : ∃ v, o = some (v, m)) : gSame f g m := by
  obtain ⟨v, hv⟩ := h
  exact ⟨v, h1.trans hv, h2.trans hv⟩
theorem pk_lot {c l : Nat} : nI (c * 9) + nI (l + 10) - nI 10 = nI (9 * c + l) := by
  rw [nI_add, pk_sub (by omega), show c * 9 + (l + 10) - 10 = 9 * c + l by omega]
theorem pk_lot' {c l : Nat} : nI (9 * c) + nI (l + 10) - nI 10 = nI (9 * c + l) := by
  rw [nI_add, pk_sub (by omega), show 9 * c + (l + 10) - 10 = 9 * c + l by omega]
theorem mo_pushOf {c : Nat} {ol : Nat → Nat} {m : gM} (hc : c < 36) (h : m.1 86 = fun i => nI (ol i)) : f_MO_pushOf (nI c) m = some (nI (osum ol c) + m.1 84 c + m.1 83 c, m) := by
  unfold f_MO_pushOf
  simp (disch := omega) only [gfd_eq, glet_eq, gbind_eq, nI_ltI, nI_1, gok_nI, grd_nI, nI_clamp, if_true, if_false, Nat.lt_irrefl, mo_oilOf hc h, i10]
theorem p_cellOf {n0 K : Nat} {m : gM} (x y : Int32) (I : Inv n0 K m.1) : gBoth n0 K (f_OT_cellOf x y) (f_MO_cellOf x y) m := by
  obtain ⟨w, h9, n, hr, le, we, nl, np, ol, wp, wc, ww, wo, ws, ru, fr, nu, vo, F⟩ := I.fx
  obtain ⟨⟨zn, z1, z36, zw, zh, zhr, zle, zwe, znl, znp⟩, ⟨y0, y1, y2, yhr, yle, ywe, ynl, ynp⟩, ⟨x0, x1, xhr, xle, xwe, xnl, xnp⟩, ⟨r6, r7, r8, r10, r11, r13, r14, r15, r16, r17, r19, r20, r21, r22, r28, r29, r30, r31⟩, ⟨ecol, eoil, e9, elot⟩, ⟨fp, fc, fw, fo, fb, fo1, frow, fws⟩, g1, g2, gn⟩ := F
  refine gBoth.ofSame I ?_
  have a2 := ot_hasCell (x := x) (n := n) (by omega) y2
  have b2 := mo_isCell (x := x) x0 x1 (by omega)
  rw [zn] at b2
  rcases gib_cases x n with hg | ⟨i, hi, rfl, hi2⟩
  · refine ⟨-1, ?_, ?_⟩
    · unfold f_OT_cellOf; rw [a2, hg]; rfl
    · unfold f_MO_cellOf; rw [b2, hg]; rfl
  · have hgi : gib (nI i) n = true := gib_iff.mpr ⟨i, hi, rfl, hi2⟩
    rw [hgi] at a2 b2
    rcases byLot y with ⟨l, hl, rfl, hb⟩ | hb
    · refine ⟨m.1 86 (9 * i + l), ?_, ?_⟩
      · unfold f_OT_cellOf
        simp (disch := omega) only [gfd_eq, glet_eq, gbind_eq, nI_ltI, nI_1, gok_nI, grd_nI, nI_clamp, if_true, if_false, Nat.lt_irrefl, a2, (hb m).1, i10]
        simp (disch := omega) only [gfd_eq, glet_eq, gbind_eq, nI_ltI, nI_1, gok_nI, grd_nI, nI_clamp, if_true, if_false, Nat.lt_irrefl, gswo, q0, q1, q2, q3, q4, q5, ne10, q9, pk_mul, q10, pk_lot, r11, i10]
      · unfold f_MO_cellOf
        simp (disch := omega) only [gfd_eq, glet_eq, gbind_eq, nI_ltI, nI_1, gok_nI, grd_nI, nI_clamp, if_true, if_false, Nat.lt_irrefl, b2, (hb m).2, i10]
        simp (disch := omega) only [gfd_eq, glet_eq, gbind_eq, nI_ltI, nI_1, gok_nI, grd_nI, nI_clamp, if_true, if_false, Nat.lt_irrefl, q9, pk_mul, q10, pk_lot', i10]
    · refine gSame.of (o := gswo y [(0, some (m.1 82 i, m)), (1, some (m.1 83 i, m)), (2, some (m.1 84 i, m)), (3, some (nI (osum ol i), m)), (4, some (m.1 85 i, m)), (5, some (nI (osum ol i) + m.1 84 i + m.1 83 i, m))] (some (-1, m))) ?_ ?_ (gsw_c ⟨_, rfl⟩ (gsw_c ⟨_, rfl⟩ (gsw_c ⟨_, rfl⟩ (gsw_c ⟨_, rfl⟩ (gsw_c ⟨_, rfl⟩ (gsw_c ⟨_, rfl⟩ (gsw_n ⟨_, rfl⟩)))))))
      · unfold f_OT_cellOf f_Pool_push
        simp (disch := omega) only [gfd_eq, glet_eq, gbind_eq, nI_ltI, nI_1, gok_nI, grd_nI, nI_clamp, if_true, if_false, Nat.lt_irrefl, a2, (hb m).1, r6, r7, r8, r10, e9, i10]
      · unfold f_MO_cellOf
        simp (disch := omega) only [gfd_eq, glet_eq, gbind_eq, nI_ltI, nI_1, gok_nI, grd_nI, nI_clamp, if_true, if_false, Nat.lt_irrefl, b2, (hb m).2, mo_oilOf (c := i) (by omega) eoil, mo_pushOf (c := i) (by omega) eoil, i10]
theorem p_wellOf {n0 K : Nat} {m : gM} (x y : Int32) (I : Inv n0 K m.1) : gBoth n0 K (f_OT_wellOf x y) (f_MO_wellOf x y) m := by
  obtain ⟨w, h9, n, hr, le, we, nl, np, ol, wp, wc, ww, wo, ws, ru, fr, nu, vo, F⟩ := I.fx
  obtain ⟨v, v1, -, -⟩ := F.hotW
  obtain ⟨⟨zn, z1, z36, zw, zh, zhr, zle, zwe, znl, znp⟩, ⟨y0, y1, y2, yhr, yle, ywe, ynl, ynp⟩, ⟨x0, x1, xhr, xle, xwe, xnl, xnp⟩, ⟨r6, r7, r8, r10, r11, r13, r14, r15, r16, r17, r19, r20, r21, r22, r28, r29, r30, r31⟩, ⟨ecol, eoil, e9, elot⟩, ⟨fp, fc, fw, fo, fb, fo1, frow, fws⟩, g1, g2, gn⟩ := F
  refine gBoth.ofSame I ?_
  have a2 := ot_isWell (x := x) (n := we) (by omega) ywe
  have b2 := mo_isWell (x := x) (n := we) xwe (by omega)
  rcases gib_cases x we with hg | ⟨i, hi, rfl, hi2⟩
  · refine ⟨-1, ?_, ?_⟩
    · unfold f_OT_wellOf; rw [a2, hg]; rfl
    · unfold f_MO_wellOf; rw [b2, hg]; rfl
  · have hgi : gib (nI i) we = true := gib_iff.mpr ⟨i, hi, rfl, hi2⟩
    rw [hgi] at a2 b2
    obtain ⟨v1, v2⟩ := v1 i hi
    obtain ⟨w1, w2, w3⟩ := frow i hi
    rcases byLot y with ⟨l, hl, rfl, hb⟩ | hb
    · have w4 := w3 l hl
      refine ⟨m.1 98 (9 * i + l), ?_, ?_⟩
      · unfold f_OT_wellOf
        simp (disch := omega) only [gfd_eq, glet_eq, gbind_eq, nI_ltI, nI_1, gok_nI, grd_nI, nI_clamp, if_true, if_false, Nat.lt_irrefl, a2, (hb m).1, i10]
        simp (disch := omega) only [gfd_eq, glet_eq, gbind_eq, nI_ltI, nI_1, gok_nI, grd_nI, nI_clamp, if_true, if_false, Nat.lt_irrefl, gswo, q0, q1, q2, q3, q4, q5, q6, ne10, q9, pk_mul, q10, pk_lot, w4, i10]
      · unfold f_MO_wellOf
        simp (disch := omega) only [gfd_eq, glet_eq, gbind_eq, nI_ltI, nI_1, gok_nI, grd_nI, nI_clamp, if_true, if_false, Nat.lt_irrefl, b2, (hb m).2, i10]
        simp (disch := omega) only [gfd_eq, glet_eq, gbind_eq, nI_ltI, nI_1, gok_nI, grd_nI, nI_clamp, if_true, if_false, Nat.lt_irrefl, q9, pk_mul, q10, pk_lot', i10]
    · have o1 := fo1 i
      have oi : (if nI (wo i) = 0 then some ((0 : Int32), m) else some (1, m)) = some (nI (wo i), m) := by
        by_cases z : wo i = 0
        · rw [z]; rfl
        · rw [show wo i = 1 by omega]; rfl
      refine gSame.of (o := gswo y [(0, some (m.1 92 i, m)), (1, some (m.1 93 i, m)), (2, some (m.1 94 i, m)), (3, some (nI (wo i), m)), (4, some (m.1 96 i, m)), (5, some (m.1 97 i, m)), (6, some (v i, m))] (some (-1, m))) ?_ ?_ (gsw_c ⟨_, rfl⟩ (gsw_c ⟨_, rfl⟩ (gsw_c ⟨_, rfl⟩ (gsw_c ⟨_, rfl⟩ (gsw_c ⟨_, rfl⟩ (gsw_c ⟨_, rfl⟩ (gsw_c ⟨_, rfl⟩ (gsw_n ⟨_, rfl⟩))))))))
      · unfold f_OT_wellOf
        simp (disch := omega) only [gfd_eq, glet_eq, gbind_eq, nI_ltI, nI_1, gok_nI, grd_nI, nI_clamp, if_true, if_false, Nat.lt_irrefl, a2, (hb m).1, r19, r20, r21, r22, fo, oi, w1, w2, v1, i10]
      · unfold f_MO_wellOf
        simp (disch := omega) only [gfd_eq, glet_eq, gbind_eq, nI_ltI, nI_1, gok_nI, grd_nI, nI_clamp, if_true, if_false, Nat.lt_irrefl, b2, (hb m).2, v2, fo, i10]
theorem q49 : (49 : Int32) = nI 49 := rfl
theorem q18 : (18 : Int32) = nI 18 := rfl
theorem mo_in_n {x : Int32} {n : Nat} (hn : n + 1 < 2 ^ 31) (m : gM) : f_MO_in x.toInt64 (Int32.toInt64 0) (nI n).toInt64 m = some (if gib x (n + 1) = true then 1 else 0, m) := by
  have e : nI n = nI (n + 1) - 1 := (nI_pred n).symm
  rw [e, mo_in0 (by omega)]
theorem p_drew {n0 K : Nat} {m : gM} (x y z : Int32) (I : Inv n0 K m.1) : gBoth n0 K (f_OT_drew x y z) (f_MO_drew x y z) m := by
  obtain ⟨w, h9, n, hr, le, we, nl, np, ol, wp, wc, ww, wo, ws, ru, fr, nu, vo, F⟩ := I.fx
  have F0 := F
  obtain ⟨⟨zn, z1, z36, zw, zh, zhr, zle, zwe, znl, znp⟩, ⟨y0, y1, y2, yhr, yle, ywe, ynl, ynp⟩, ⟨x0, x1, xhr, xle, xwe, xnl, xnp⟩, ⟨r6, r7, r8, r10, r11, r13, r14, r15, r16, r17, r19, r20, r21, r22, r28, r29, r30, r31⟩, ⟨ecol, eoil, e9, elot⟩, ⟨fp, fc, fw, fo, fb, fo1, frow, fws⟩, g1, g2, gn⟩ := F
  refine gBoth.ofSame I ?_
  have a2 := ot_isWell (x := x) (n := we) (by omega) ywe
  have b2 := mo_isWell (x := x) (n := we) xwe (by omega)
  rcases gib_cases x we with hg | ⟨i, hi, rfl, hi2⟩
  · refine ⟨-1, ?_, ?_⟩
    · unfold f_OT_drew; rw [a2, hg]; rfl
    · unfold f_MO_drew; rw [b2, hg]; rfl
  · have hgi : gib (nI i) we = true := gib_iff.mpr ⟨i, hi, rfl, hi2⟩
    rw [hgi] at a2 b2
    have a3 := ot_within (x := y) (n := 49) (by omega) m
    have b3 := mo_in_n (x := y) (n := 49) (by omega) m
    have b4 := mo_in_n (x := z) (n := 2) (by omega) m
    rcases gib_cases y 50 with hg | ⟨s, hs, rfl, hs2⟩
    · rw [hg] at a3 b3
      refine ⟨-1, ?_, ?_⟩
      · unfold f_OT_drew
        simp (disch := omega) only [gfd_eq, glet_eq, gbind_eq, nI_ltI, nI_1, gok_nI, grd_nI, nI_clamp, if_true, if_false, Nat.lt_irrefl, a2, q49, a3, Bool.false_eq_true, i10]
      · unfold f_MO_drew
        simp (disch := omega) only [gfd_eq, glet_eq, gbind_eq, nI_ltI, nI_1, gok_nI, grd_nI, nI_clamp, if_true, if_false, Nat.lt_irrefl, b2, q49, b3, Bool.false_eq_true, i10]
    · have hgs : gib (nI s) 50 = true := gib_iff.mpr ⟨s, hs, rfl, hs2⟩
      rw [hgs] at a3 b3
      obtain ⟨v, v1, v2⟩ := F0.letW hi hs
      obtain ⟨u, u1, u2⟩ := F0.hotS hi hs
      obtain ⟨t1, t2, t3⟩ := fws i s hi hs
      have t1 : m.1 26 (i * 50 + s) = nI (ws (60 * i + s)) := by rw [show i * 50 + s = 50 * i + s by omega]; exact t1
      refine gSame.of (o := gswo z [(0, some (nI (ws (60 * i + s)), m)), (1, some (v, m)), (2, some (u, m))] (some (-1, m))) ?_ ?_ (gsw_c ⟨_, rfl⟩ (gsw_c ⟨_, rfl⟩ (gsw_c ⟨_, rfl⟩ (gsw_n ⟨_, rfl⟩))))
      · unfold f_OT_drew
        simp (disch := omega) only [gfd_eq, glet_eq, gbind_eq, nI_ltI, nI_1, gok_nI, grd_nI, nI_clamp, if_true, if_false, Nat.lt_irrefl, a2, q49, a3, q50, pk_mul, nI_add, t1, v1, u1, i10]
      · unfold f_MO_drew
        simp (disch := omega) only [gfd_eq, glet_eq, gbind_eq, nI_ltI, nI_1, gok_nI, grd_nI, nI_clamp, if_true, if_false, Nat.lt_irrefl, b2, q49, b3, q60, pk_mul, nI_add, t2, v2, u2, i10]
        rw [show (Int32.toInt64 2) = (nI 2).toInt64 from rfl, b4, gbind_eq]
        rcases gib_cases z 3 with hg | ⟨j, hj, rfl, hj2⟩
        · rw [hg]
          have nz : ∀ j, j < 3 → ¬ z = nI j := fun j hj e => by
            subst e
            rw [gib_iff.mpr ⟨j, hj, rfl, by omega⟩] at hg
            cases hg
          have n0 : ¬ z = 0 := nz 0 (by omega)
          have n1 : ¬ z = 1 := nz 1 (by omega)
          have n2 : ¬ z = 2 := nz 2 (by omega)
          simp only [gswo, n0, n1, n2, if_false, Bool.false_eq_true, if_true]
        · rw [gib_iff.mpr ⟨j, hj, rfl, hj2⟩]
          match j, hj with
          | 0, _ => simp (disch := omega) only [gfd_eq, glet_eq, gbind_eq, nI_ltI, nI_1, gok_nI, grd_nI, nI_clamp, if_true, if_false, Nat.lt_irrefl, gswo, show nI 0 = 0 from rfl, t2, i10]
          | 1, _ => simp (disch := omega) only [gfd_eq, glet_eq, gbind_eq, nI_ltI, nI_1, gok_nI, grd_nI, nI_clamp, if_true, if_false, Nat.lt_irrefl, gswo, show nI 1 = 1 from rfl, v2, i10]
          | 2, _ => simp (disch := omega) only [gfd_eq, glet_eq, gbind_eq, nI_ltI, nI_1, gok_nI, grd_nI, nI_clamp, if_true, if_false, Nat.lt_irrefl, gswo, show nI 2 = 2 from rfl, u2, i20, i21, i10]
theorem p_line {n0 K : Nat} {m : gM} (x y : Int32) (I : Inv n0 K m.1) : gBoth n0 K (f_OT_line x y) (f_MO_line x y) m := by
  obtain ⟨w, h9, n, hr, le, we, nl, np, ol, wp, wc, ww, wo, ws, ru, fr, nu, vo, F⟩ := I.fx
  obtain ⟨⟨zn, z1, z36, zw, zh, zhr, zle, zwe, znl, znp⟩, ⟨y0, y1, y2, yhr, yle, ywe, ynl, ynp⟩, ⟨x0, x1, xhr, xle, xwe, xnl, xnp⟩, ⟨r6, r7, r8, r10, r11, r13, r14, r15, r16, r17, r19, r20, r21, r22, r28, r29, r30, r31⟩, ⟨ecol, eoil, e9, elot⟩, ⟨fp, fc, fw, fo, fb, fo1, frow, fws⟩, g1, g2, gn⟩ := F
  refine gBoth.ofSame I ?_
  rcases gib_cases x nl with hg | ⟨i, hi, rfl, hi2⟩
  · refine ⟨-1, ?_, ?_⟩
    · unfold f_OT_line
      rw [gfd_eq, ynl, gchk (by omega), hg]
      rfl
    · unfold f_MO_line
      rw [gfd_eq, xnl, mo_in0 (by omega), hg, gbind_eq]
      rfl
  · have hgi : gib (nI i) nl = true := gib_iff.mpr ⟨i, hi, rfl, hi2⟩
    obtain ⟨a1, a2, a3, a4, a5, a6, a7, a8⟩ := g1 i hi
    obtain ⟨b1, b2, b3, b4, -⟩ := g2 i hi
    dsimp only at a1 a2 a3 a4 b1 b2 b3 b4
    have oi : (if nI (vo i) = 0 then some ((0 : Int32), m) else some (1, m)) = some (nI (vo i), m) := by
      by_cases z : vo i = 0
      · rw [z]; rfl
      · rw [show vo i = 1 by omega]; rfl
    refine gSame.of (o := gswo y [(0, some (nI (ru i), m)), (1, some (nI (fr i), m)), (2, some (nI (nu i), m)), (3, some (nI (vo i), m))] (some (-1, m))) ?_ ?_ (gsw_c ⟨_, rfl⟩ (gsw_c ⟨_, rfl⟩ (gsw_c ⟨_, rfl⟩ (gsw_c ⟨_, rfl⟩ (gsw_n ⟨_, rfl⟩)))))
    · unfold f_OT_line
      rw [gfd_eq, ynl, gchk (by omega), hgi, if_pos rfl]
      simp (disch := omega) only [gfd_eq, glet_eq, gbind_eq, nI_ltI, nI_1, gok_nI, grd_nI, nI_clamp, if_true, if_false, Nat.lt_irrefl, a1, a2, a3, a4, oi, i10]
    · unfold f_MO_line
      rw [gfd_eq, xnl, mo_in0 (by omega), hgi, gbind_eq]
      simp (disch := omega) only [gfd_eq, glet_eq, gbind_eq, nI_ltI, nI_1, gok_nI, grd_nI, nI_clamp, if_true, if_false, Nat.lt_irrefl, b1, b2, b3, b4, gswo, i10]
