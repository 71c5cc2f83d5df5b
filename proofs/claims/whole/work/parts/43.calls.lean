/-! ===== reading calls: told, price, why, lets, count ===== -/
theorem sNum_le {ru fr nu vo : Nat → Nat} {q s nl : Nat} (hq : q ≤ 1) (hnl : nl ≤ 12) (h : ∀ k, k < nl → ru k ≤ 1 → nu k ≤ 9) : sNum ru fr nu vo q s nl ≤ 9 := by
  unfold sNum
  rcases gpick_cases (fun k => decide (ru k = q) && decide (vo k = 0) && !decide (s < fr k)) (fun k b => decide (fr b < fr k)) nl (by omega) with e | ⟨k, h1, h2, h3⟩
  · rw [if_pos (show sLine ru fr vo q s nl = -4 from e)]; omega
  · have h3 : sLine ru fr vo q s nl = nI k := h3
    rw [h3, if_neg (nI_ne4 (by omega)), nI_clamp (by omega)]
    have : ru k = q := by
      simp only [Bool.and_eq_true, decide_eq_true_eq] at h2
      exact h2.1.1
    exact h k h1 (by omega)
section SAME2
variable {m : gM} {w h9 n hr le we nl np : Nat} {ol wp wc ww wo ws ru fr nu vo : Nat → Nat}
theorem Fx.num {q : Nat} (F : Fx m.1 w h9 n hr le we nl np ol wp wc ww wo ws ru fr nu vo) (hq : q ≤ 1) : sNum ru fr nu vo q (hr / 4) nl ≤ 9 ∧ f_Orders_numberIn 41 (nI q) (nI (hr / 4)) m = some (nI (sNum ru fr nu vo q (hr / 4) nl), m) ∧ ∃ b : Int32, f_MO_lineAt (nI q) (nI (hr / 4)) m = some (b, m) ∧ ((b = -4 ∧ sNum ru fr nu vo q (hr / 4) nl = 0) ∨ ∃ k, k < 12 ∧ b = nI k ∧ m.1 118 k = nI (sNum ru fr nu vo q (hr / 4) nl)) := by
  obtain ⟨⟨zn, z1, z36, zw, zh, zhr, zle, zwe, znl, znp⟩, ⟨y0, y1, y2, yhr, yle, ywe, ynl, ynp⟩, ⟨x0, x1, xhr, xle, xwe, xnl, xnp⟩, ⟨r6, r7, r8, r10, r11, r13, r14, r15, r16, r17, r19, r20, r21, r22, r28, r29, r30, r31⟩, ⟨ecol, eoil, e9, elot⟩, ⟨fp, fc, fw, fo, fb, fo1, frow, fws⟩, g1, g2, gn⟩ := F
  have c1 := cl_numberIn (a := 41) (m := m) ynl znl g1 (q := q) (s := hr / 4) (by omega) (by omega)
  have c2 := mo_lineAt (m := m) xnl znl g2 (q := q) (s := hr / 4) (by omega) (by omega)
  refine ⟨sNum_le hq znl gn, c1, _, c2, ?_⟩
  unfold sNum
  rcases sLine_cases ru fr vo q (hr / 4) znl with e | ⟨k, hk, e⟩
  · rw [e]; exact Or.inl ⟨rfl, rfl⟩
  · rw [e, if_neg (nI_ne4 (by omega)), nI_clamp (by omega)]
    exact Or.inr ⟨k, by omega, rfl, (g2 k hk).2.2.1⟩
theorem Fx.why {c : Nat} {p : Int32} (F : Fx m.1 w h9 n hr le we nl np ol wp wc ww wo ws ru fr nu vo) (hc : c < n) : gSame (f_Orders_whyNot 41 1 p (nI c)) (f_MO_whyNow p (nI c)) m := by
  obtain ⟨b0, c0, l0, d0, k0⟩ := F.num (q := 0) (by omega)
  obtain ⟨b1, c1, l1, d1, k1⟩ := F.num (q := 1) (by omega)
  obtain ⟨v, v1, v2⟩ := F.whyU (p := p) (near := sNum ru fr nu vo 0 (hr / 4) nl) (ap := sNum ru fr nu vo 1 (hr / 4) nl) hc (by omega) (by omega) (by omega) (by omega)
  obtain ⟨⟨zn, z1, z36, zw, zh, zhr, zle, zwe, znl, znp⟩, ⟨y0, y1, y2, yhr, yle, ywe, ynl, ynp⟩, ⟨x0, x1, xhr, xle, xwe, xnl, xnp⟩, ⟨r6, r7, r8, r10, r11, r13, r14, r15, r16, r17, r19, r20, r21, r22, r28, r29, r30, r31⟩, ⟨ecol, eoil, e9, elot⟩, ⟨fp, fc, fw, fo, fb, fo1, frow, fws⟩, g1, g2, gn⟩ := F
  have s1 := cl_shift (a := 1) (m := m) yhr (by omega)
  have s2 := mo_shift (m := m) xhr (by omega)
  have c0 : f_Orders_numberIn 41 0 (nI (hr / 4)) m = _ := c0
  have c1 : f_Orders_numberIn 41 1 (nI (hr / 4)) m = _ := c1
  have d0 : f_MO_lineAt 0 (nI (hr / 4)) m = _ := d0
  have d1 : f_MO_lineAt 1 (nI (hr / 4)) m = _ := d1
  refine ⟨v, ?_, ?_⟩
  · unfold f_Orders_whyNot
    simp (disch := omega) only [gfd_eq, glet_eq, gbind_eq, nI_ltI, nI_1, gok_nI, grd_nI, nI_clamp, if_true, if_false, Nat.lt_irrefl, s1, c0, c1, v1, i10]
  · unfold f_MO_whyNow
    simp (disch := omega) only [gfd_eq, glet_eq, gbind_eq, nI_ltI, nI_1, gok_nI, grd_nI, nI_clamp, if_true, if_false, Nat.lt_irrefl, s2, d0, d1, i10]
    rcases k0 with ⟨rfl, z0⟩ | ⟨j0, h0, rfl, z0⟩ <;> rcases k1 with ⟨rfl, z1⟩ | ⟨j1, h1, rfl, z1⟩
    · rw [z0, z1] at v2
      simp (disch := omega) only [gfd_eq, glet_eq, gbind_eq, nI_ltI, nI_1, gok_nI, grd_nI, nI_clamp, if_true, if_false, Nat.lt_irrefl, J_MO_whyNow_40, J_MO_whyNow_58, q0, v2, i10]
    · rw [z0] at v2
      simp (disch := omega) only [gfd_eq, glet_eq, gbind_eq, nI_ltI, nI_1, gok_nI, grd_nI, nI_clamp, if_true, if_false, Nat.lt_irrefl, J_MO_whyNow_40, J_MO_whyNow_58, q0, nI_ne4, z1, v2, i10]
    · rw [z1] at v2
      simp (disch := omega) only [gfd_eq, glet_eq, gbind_eq, nI_ltI, nI_1, gok_nI, grd_nI, nI_clamp, if_true, if_false, Nat.lt_irrefl, J_MO_whyNow_40, J_MO_whyNow_58, q0, nI_ne4, z0, v2, i10]
    · simp (disch := omega) only [gfd_eq, glet_eq, gbind_eq, nI_ltI, nI_1, gok_nI, grd_nI, nI_clamp, if_true, if_false, Nat.lt_irrefl, J_MO_whyNow_40, J_MO_whyNow_58, nI_ne4, z0, z1, v2, i10]
end SAME2
theorem p_why {n0 K : Nat} {m : gM} (x y : Int32) (I : Inv n0 K m.1) : gBoth n0 K (f_OT_why x y) (f_MO_why x y) m := by
  obtain ⟨w, h9, n, hr, le, we, nl, np, ol, wp, wc, ww, wo, ws, ru, fr, nu, vo, F⟩ := I.fx
  have F0 := F
  obtain ⟨⟨zn, z1, z36, zw, zh, zhr, zle, zwe, znl, znp⟩, ⟨y0, y1, y2, yhr, yle, ywe, ynl, ynp⟩, ⟨x0, x1, xhr, xle, xwe, xnl, xnp⟩, ⟨r6, r7, r8, r10, r11, r13, r14, r15, r16, r17, r19, r20, r21, r22, r28, r29, r30, r31⟩, ⟨ecol, eoil, e9, elot⟩, ⟨fp, fc, fw, fo, fb, fo1, frow, fws⟩, g1, g2, gn⟩ := F
  refine gBoth.ofSame I ?_
  have a1 := ot_isPerson (x := x) (n := np) (by omega) ynp
  have a2 := ot_hasCell (x := y) (n := n) (by omega) y2
  have b1 := mo_isPerson (x := x) (n := np) xnp (by omega)
  have b2 := mo_isCell (x := y) x0 x1 (by omega)
  rw [zn] at b2
  rcases gib_cases x np with hg | ⟨i, hi, rfl, hi2⟩
  · rw [hg] at a1 b1
    refine ⟨-1, ?_, ?_⟩
    · unfold f_OT_why; rw [a1]; rfl
    · unfold f_MO_why; rw [b1]; rfl
  · rw [gib_iff.mpr ⟨i, hi, rfl, hi2⟩] at a1 b1
    rcases gib_cases y n with hg | ⟨j, hj, rfl, hj2⟩
    · rw [hg] at a2 b2
      refine ⟨-1, ?_, ?_⟩
      · unfold f_OT_why
        simp (disch := omega) only [gfd_eq, glet_eq, gbind_eq, nI_ltI, nI_1, gok_nI, grd_nI, nI_clamp, if_true, if_false, Nat.lt_irrefl, a1, a2, Bool.false_eq_true, i10]
      · unfold f_MO_why
        simp (disch := omega) only [gfd_eq, glet_eq, gbind_eq, nI_ltI, nI_1, gok_nI, grd_nI, nI_clamp, if_true, if_false, Nat.lt_irrefl, b1, b2, Bool.false_eq_true, i10]
    · rw [gib_iff.mpr ⟨j, hj, rfl, hj2⟩] at a2 b2
      obtain ⟨v, v1, v2⟩ := F0.why (p := nI i) hj
      refine ⟨v, ?_, ?_⟩
      · unfold f_OT_why
        simp (disch := omega) only [gfd_eq, glet_eq, gbind_eq, nI_ltI, nI_1, gok_nI, grd_nI, nI_clamp, if_true, if_false, Nat.lt_irrefl, a1, a2, v1, i10]
      · unfold f_MO_why
        simp (disch := omega) only [gfd_eq, glet_eq, gbind_eq, nI_ltI, nI_1, gok_nI, grd_nI, nI_clamp, if_true, if_false, Nat.lt_irrefl, b1, b2, v2, i10]
theorem cl_price {a s : Nat} {m : gM} (hs : s < 50) : f_Books_priceIn a (nI s) m = some (if s = 0 then 100 else gmax 4 (100 - m.1 (a + 4) (s - 1) / 5), m) := by
  unfold f_Books_priceIn
  cases s with
  | zero => rfl
  | succ s =>
    have h : (0 : Int32) < nI (s + 1) := nI_lt (a := 0) (by omega) (by omega)
    rw [if_pos h, nI_pred]
    unfold gnz
    simp (disch := omega) only [gfd_eq, glet_eq, gbind_eq, nI_ltI, nI_1, gok_nI, grd_nI, nI_clamp, if_true, if_false, Nat.lt_irrefl, i10]
    rw [if_neg (by decide)]
    rfl
theorem gmax4 (v : Int32) : (if v < 4 then (4 : Int32) else v) = gmax 4 v := by
  unfold gmax
  by_cases h : v < 4
  · rw [if_pos h, if_neg (Int32.not_lt.mpr (Int32.le_of_lt h))]
  · by_cases h2 : 4 < v
    · rw [if_neg h, if_pos h2]
    · rw [if_neg h, if_neg h2]
      exact Int32.le_antisymm (Int32.not_lt.mp h2) (Int32.not_lt.mp h)
theorem mo_price {s : Nat} {m : gM} (hs : s < 50) : f_MO_priceOf (nI s) m = some (if s = 0 then 100 else gmax 4 (100 - m.1 103 (s - 1) / 5), m) := by
  unfold f_MO_priceOf J_MO_priceOf_22
  cases s with
  | zero => rfl
  | succ s =>
    rw [if_neg (show ¬ nI (s + 1) = 0 from nI_ne0 (by omega) (by omega)), nI_pred]
    unfold gnz
    simp (disch := omega) only [gfd_eq, glet_eq, gbind_eq, nI_ltI, nI_1, gok_nI, grd_nI, nI_clamp, if_true, if_false, Nat.lt_irrefl, i10]
    rw [if_neg (by decide), ← gmax4]
    show _ = some (if 100 - m.1 103 s / 5 < 4 then 4 else 100 - m.1 103 s / 5, m)
    split <;> rfl
theorem p_price {n0 K : Nat} {m : gM} (x : Int32) (I : Inv n0 K m.1) : gBoth n0 K (f_OT_price x) (f_MO_price x) m := by
  obtain ⟨w, h9, n, hr, le, we, nl, np, ol, wp, wc, ww, wo, ws, ru, fr, nu, vo, F⟩ := I.fx
  obtain ⟨⟨zn, z1, z36, zw, zh, zhr, zle, zwe, znl, znp⟩, ⟨y0, y1, y2, yhr, yle, ywe, ynl, ynp⟩, ⟨x0, x1, xhr, xle, xwe, xnl, xnp⟩, ⟨r6, r7, r8, r10, r11, r13, r14, r15, r16, r17, r19, r20, r21, r22, r28, r29, r30, r31⟩, ⟨ecol, eoil, e9, elot⟩, ⟨fp, fc, fw, fo, fb, fo1, frow, fws⟩, g1, g2, gn⟩ := F
  refine gBoth.ofSame I ?_
  have s1 := cl_shift (a := 1) (m := m) yhr (by omega)
  have s2 := mo_shift (m := m) xhr (by omega)
  have a3 := ot_within (x := x) (n := hr / 4) (by omega) m
  have b3 := mo_in_n (x := x) (n := hr / 4) (by omega) m
  rcases gib_cases x (hr / 4 + 1) with hg | ⟨i, hi, rfl, hi2⟩
  · rw [hg] at a3 b3
    refine ⟨-1, ?_, ?_⟩
    · unfold f_OT_price
      simp (disch := omega) only [gfd_eq, glet_eq, gbind_eq, nI_ltI, nI_1, gok_nI, grd_nI, nI_clamp, if_true, if_false, Nat.lt_irrefl, s1, a3, Bool.false_eq_true, i10]
    · unfold f_MO_price
      simp (disch := omega) only [gfd_eq, glet_eq, gbind_eq, nI_ltI, nI_1, gok_nI, grd_nI, nI_clamp, if_true, if_false, Nat.lt_irrefl, s2, b3, Bool.false_eq_true, i10]
  · rw [gib_iff.mpr ⟨i, hi, rfl, hi2⟩] at a3 b3
    have c1 := cl_price (a := 27) (s := i) (m := m) (by omega)
    simp only [Nat.reduceAdd, r31] at c1
    refine ⟨if i = 0 then 100 else gmax 4 (100 - m.1 103 (i - 1) / 5), ?_, ?_⟩
    · unfold f_OT_price
      simp (disch := omega) only [gfd_eq, glet_eq, gbind_eq, nI_ltI, nI_1, gok_nI, grd_nI, nI_clamp, if_true, if_false, Nat.lt_irrefl, s1, a3, c1, i10]
    · unfold f_MO_price
      simp (disch := omega) only [gfd_eq, glet_eq, gbind_eq, nI_ltI, nI_1, gok_nI, grd_nI, nI_clamp, if_true, if_false, Nat.lt_irrefl, s2, b3, mo_price (s := i) (m := m) (by omega), i10]
