/-! ===== the invariant, row by row; reading calls ===== -/
theorem i10 : ((1 : Int32) = 0) = False := eq_false (by decide)
/-- numbers, class fields, reference fields, rows alike, rows of the field, wells, lines -/
def Fx (N : gN) (w h9 n hr le we nl np : Nat) (ol wp wc ww wo ws ru fr nu vo : Nat → Nat) : Prop :=
  (w * h9 = n ∧ 1 ≤ n ∧ n ≤ 36 ∧ (1 ≤ w ∧ w ≤ 6) ∧ (1 ≤ h9 ∧ h9 ≤ 6) ∧ hr ≤ 199 ∧ le ≤ 12 ∧ we ≤ 10 ∧ nl ≤ 12 ∧ np ≤ 6) ∧
  (N 3 0 = nI w ∧ N 3 1 = nI h9 ∧ N 3 2 = nI n ∧ N 1 4 = nI hr ∧ N 12 1 = nI le ∧ N 18 0 = nI we ∧ N 41 0 = nI nl ∧ N 0 3 = nI np) ∧
  (N 81 0 = nI w ∧ N 81 1 = nI h9 ∧ N 81 2 = nI hr ∧ N 81 10 = nI le ∧ N 81 15 = nI we ∧ N 81 48 = nI nl ∧ N 81 8 = nI np) ∧
  (N 6 = N 82 ∧ N 7 = N 83 ∧ N 8 = N 84 ∧ N 10 = N 85 ∧ N 11 = N 86 ∧ N 13 = N 87 ∧ N 14 = N 88 ∧ N 15 = N 89 ∧ N 16 = N 90 ∧ N 17 = N 91 ∧ N 19 = N 92 ∧ N 20 = N 93 ∧ N 21 = N 94 ∧ N 22 = N 95 ∧ N 28 = N 100 ∧ N 29 = N 101 ∧ N 30 = N 102 ∧ N 31 = N 103) ∧
  ((∀ c, c < n → N 4 c = nI (c % w) ∧ N 5 c = nI (c / w)) ∧ N 86 = (fun i => nI (ol i)) ∧ N 9 = (fun c => nI (osum ol c)) ∧ ∀ c, c < 36 → N 85 c = -4 ∨ ∃ l, l < 8 ∧ N 85 c = nI l) ∧
  (N 92 = (fun k => nI (wp k)) ∧ N 93 = (fun k => nI (wc k)) ∧ N 94 = (fun k => nI (ww k)) ∧ N 95 = (fun k => nI (wo k)) ∧ (∀ k, k < we → wp k < 6 ∧ wc k < n ∧ ww k ≤ 60) ∧ (∀ k, wo k ≤ 1) ∧ (∀ k, k < we → N 23 k = N 96 k ∧ N 24 k = N 97 k ∧ ∀ l, l < 9 → N 25 (9 * k + l) = N 98 (9 * k + l)) ∧ ∀ k s, k < we → s < 50 → N 26 (50 * k + s) = nI (ws (60 * k + s)) ∧ N 99 (60 * k + s) = nI (ws (60 * k + s)) ∧ ws (60 * k + s) ≤ 12000) ∧
  LawAt N (42, 43, 44, 45) nl ru fr nu vo ∧ LawAt N (116, 117, 118, 119) nl ru fr nu vo ∧ ∀ k, k < nl → ru k ≤ 1 → nu k ≤ 9
theorem Inv.fx {n0 K : Nat} {N : gN} (H : Inv n0 K N) : ∃ w h9 n hr le we nl np ol wp wc ww wo ws ru fr nu vo, Fx N w h9 n hr le we nl np ol wp wc ww wo ws ru fr nu vo := by
  obtain ⟨⟨w, h9, hr, le, we, sd, gs, wt, ol, wp, wc, ww, wo, ws, a1, a2, a3, a4, a5, a6, a7, a8, a9, b1, b2, b3, b4, b5, b6, b7⟩, ⟨np, p0, p1, p2, p3, p4⟩, hT, ⟨nl, ru, fr, nu, vo, l0, l1, l2, l3, l4⟩, hS, hK⟩ := H
  have h1 : w * h9 ≤ 6 * 6 := Nat.mul_le_mul a1.2.1 a1.2.2.2.1
  have h2 : 1 * 1 ≤ w * h9 := Nat.mul_le_mul a1.1 a1.2.2.1
  refine ⟨w, h9, w * h9, hr, le, we, nl, np, ol, wp, wc, ww, wo, ws, ru, fr, nu, vo, ⟨rfl, h2, h1, ⟨a1.1, a1.2.1⟩, ⟨a1.2.2.1, a1.2.2.2.1⟩, a1.2.2.2.2.1, a1.2.2.2.2.2.1, a1.2.2.2.2.2.2, l0, p0⟩, ⟨a3.1, a3.2.1, a3.2.2.1, a3.2.2.2.1, a3.2.2.2.2.1, a3.2.2.2.2.2, l1, p1⟩, ⟨a2.1, a2.2.1, a2.2.2.1, a2.2.2.2.1, a2.2.2.2.2, l2, p2⟩,
    ⟨a5.1, a5.2.1, a5.2.2.1, a5.2.2.2.1, a5.2.2.2.2, a9.1, a9.2.1, a9.2.2.1, a9.2.2.2.1, a9.2.2.2.2, b1.1, b1.2.1, b1.2.2.1, b1.2.2.2, b6.1, b6.2.1, b6.2.2.1, b6.2.2.2⟩, ⟨a4, a6.2.2.2.1, a6.2.2.2.2, a8⟩, ⟨b2.1, b2.2.1, b2.2.2.1, b2.2.2.2, b3.1, b3.2, fun k hk => ⟨(b4 k hk).1, (b4 k hk).2.1, (b4 k hk).2.2.1⟩, fun k s hk hs => ⟨((b4 k hk).2.2.2 s hs).1, ((b4 k hk).2.2.2 s hs).2.1, ?_⟩⟩, ?_, ?_, fun k hk => (l3 k hk).2.2.1.2.2.2⟩
  · have := ((b4 k hk).2.2.2 s hs).2.2
    have := a1.2.2.2.2.1
    omega
  · intro k hk
    obtain ⟨x1, x2, x3, x4⟩ := l3 k hk
    exact ⟨x1.1, x2.1, x3.1, x4.1, x1.2.2, x2.2.2, x3.2.2.1, x4.2.2⟩
  · intro k hk
    obtain ⟨x1, x2, x3, x4⟩ := l3 k hk
    exact ⟨x1.2.1, x2.2.1, x3.2.1, x4.2.1, x1.2.2, x2.2.2, x3.2.2.1, x4.2.2⟩
section FX
variable {N : gN} {w h9 n hr le we nl np : Nat} {ol wp wc ww wo ws ru fr nu vo : Nat → Nat}
theorem Fx.wells_c (F : Fx N w h9 n hr le we nl np ol wp wc ww wo ws ru fr nu vo) : ∀ k, k < we → N 20 k = nI (wc k) ∧ wc k < n := by
  obtain ⟨a, b, c, d, e, f, g⟩ := F
  intro k hk
  exact ⟨by rw [d.2.2.2.2.2.2.2.2.2.2.2.1, f.2.1], (f.2.2.2.2.1 k hk).2.1⟩
theorem Fx.wells_m (F : Fx N w h9 n hr le we nl np ol wp wc ww wo ws ru fr nu vo) : ∀ k, k < we → N 93 k = nI (wc k) ∧ wc k < n := by
  obtain ⟨a, b, c, d, e, f, g⟩ := F
  intro k hk
  exact ⟨by rw [f.2.1], (f.2.2.2.2.1 k hk).2.1⟩
theorem Fx.lots_c (F : Fx N w h9 n hr le we nl np ol wp wc ww wo ws ru fr nu vo) : ∀ c, c < 36 → N 10 c = -4 ∨ ∃ l, l < 8 ∧ N 10 c = nI l := by
  obtain ⟨a, b, c, d, e, f, g⟩ := F
  rw [d.2.2.2.1]
  exact e.2.2.2
theorem Fx.w36 (F : Fx N w h9 n hr le we nl np ol wp wc ww wo ws ru fr nu vo) : (∀ k, k < we → N 20 k = nI (wc k) ∧ wc k < 36) ∧ (∀ k, k < we → N 93 k = nI (wc k) ∧ wc k < 36) ∧ (∀ k, k < we → ∃ c, c < 36 ∧ N 20 k = nI c) ∧ ∀ k, k < we → ∃ c, c < 36 ∧ N 93 k = nI c := by
  have h1 := F.wells_c
  have h2 := F.wells_m
  have h3 := F.1.2.2.1
  exact ⟨fun k hk => ⟨(h1 k hk).1, by have := (h1 k hk).2; omega⟩, fun k hk => ⟨(h2 k hk).1, by have := (h2 k hk).2; omega⟩, fun k hk => ⟨wc k, by have := (h1 k hk).2; omega, (h1 k hk).1⟩, fun k hk => ⟨wc k, by have := (h2 k hk).2; omega, (h2 k hk).1⟩⟩
end FX
theorem byLot (x : Int32) : (∃ l, l < 9 ∧ x = nI (l + 10) ∧ ∀ m : gM, f_OT_isByLot x m = some (1, m) ∧ f_MO_in x.toInt64 (Int32.toInt64 10) (Int32.toInt64 18) m = some (1, m)) ∨ ∀ m : gM, f_OT_isByLot x m = some (0, m) ∧ f_MO_in x.toInt64 (Int32.toInt64 10) (Int32.toInt64 18) m = some (0, m) := by
  by_cases h1 : x < 10
  · refine Or.inr fun m => ⟨?_, ?_⟩
    · unfold f_OT_isByLot; rw [if_pos h1]
    · rw [mo_in, if_pos h1]
  · have h0 : ¬ x < 0 := fun z => h1 (Int32.lt_trans z (by decide))
    obtain ⟨j, hj, rfl⟩ := nI_of h0
    have hj10 : 10 ≤ j := by
      rcases Nat.lt_or_ge j 10 with q | q
      · exact absurd (nI_lt (b := 10) q (by decide)) h1
      · exact q
    by_cases h2 : j < 19
    · refine Or.inl ⟨j - 10, by omega, by rw [show j - 10 + 10 = j by omega], fun m => ⟨?_, ?_⟩⟩
      · unfold f_OT_isByLot; rw [if_neg h1, if_pos (show nI j < (19 : Int32) from nI_lt (b := 19) h2 (by decide))]
      · rw [mo_in, if_neg h1, if_neg (show ¬ (18 : Int32) < nI j from nI_nlt (a := 18) (by omega) (by decide))]
    · refine Or.inr fun m => ⟨?_, ?_⟩
      · unfold f_OT_isByLot; rw [if_neg h1, if_neg (show ¬ nI j < (19 : Int32) from nI_nlt (b := 19) (by omega) hj)]
      · rw [mo_in, if_neg h1, if_pos (show (18 : Int32) < nI j from nI_lt (a := 18) (by omega) hj)]
/-- both sides answer alike and change nothing -/
def gSame (f g : gM → Option (Int32 × gM)) (m : gM) : Prop := ∃ v : Int32, f m = some (v, m) ∧ g m = some (v, m)
section SAME
variable {m : gM} {w h9 n hr le we nl np : Nat} {ol wp wc ww wo ws ru fr nu vo : Nat → Nat}
theorem Fx.ended {k : Nat} (F : Fx m.1 w h9 n hr le we nl np ol wp wc ww wo ws ru fr nu vo) (hk : k < 12) : gSame (f_Town_hasEnded 1 (nI k)) (f_MO_hasEnded (nI k)) m := by
  obtain ⟨-, -, i1, i2⟩ := F.w36
  obtain ⟨⟨zn, z1, z36, zw, zh, zhr, zle, zwe, znl, znp⟩, ⟨y0, y1, y2, yhr, yle, ywe, ynl, ynp⟩, ⟨x0, x1, xhr, xle, xwe, xnl, xnp⟩, ⟨r6, r7, r8, r10, r11, r13, r14, r15, r16, r17, r19, r20, r21, r22, r28, r29, r30, r31⟩, ⟨ecol, eoil, e9, elot⟩, ⟨fp, fc, fw, fo, fb, fo1, frow, fws⟩, g1, g2, gn⟩ := F
  have c1 := cl_hasEnded (a := 1) (m := m) hk ywe zwe i1
  simp only [Nat.reduceAdd] at c1
  have c2 := mo_hasEnded (m := m) hk xwe (by omega) i2
  rw [yhr, ← xhr, r16, r15, r14, r19, r20, r10] at c1
  exact ⟨_, c1, c2⟩
theorem Fx.holder {l : Nat} (F : Fx m.1 w h9 n hr le we nl np ol wp wc ww wo ws ru fr nu vo) (hl : l < 8) : gSame (f_Town_holderOf 1 (nI l)) (f_MO_holderOf (nI l)) m := by
  obtain ⟨-, -, i1, i2⟩ := F.w36
  obtain ⟨⟨zn, z1, z36, zw, zh, zhr, zle, zwe, znl, znp⟩, ⟨y0, y1, y2, yhr, yle, ywe, ynl, ynp⟩, ⟨x0, x1, xhr, xle, xwe, xnl, xnp⟩, ⟨r6, r7, r8, r10, r11, r13, r14, r15, r16, r17, r19, r20, r21, r22, r28, r29, r30, r31⟩, ⟨ecol, eoil, e9, elot⟩, ⟨fp, fc, fw, fo, fb, fo1, frow, fws⟩, g1, g2, gn⟩ := F
  have c1 := cl_holderOf (a := 1) (m := m) hl yle zle ywe zwe i1
  have c1 : _ = some (sHolder (sEnded (m.1 1 4) (m.1 16) (m.1 15) (m.1 14) (m.1 19) (m.1 20) (m.1 10) we) (m.1 13) (m.1 14) (m.1 15) (m.1 17) l le, m) := c1
  have c2 := mo_holderOf (m := m) hl xle zle xwe (by omega) i2
  rw [yhr, ← xhr, r16, r15, r14, r19, r20, r10, r13, r17] at c1
  exact ⟨_, c1, c2⟩
theorem Fx.whyU {c near ap : Nat} {p : Int32} (F : Fx m.1 w h9 n hr le we nl np ol wp wc ww wo ws ru fr nu vo) (hc : c < n) (hne : near ≤ 999) (hap : ap ≤ 999) (h1 : near ≤ 99) (h2 : ap ≤ 99) : gSame (f_Orders_whyNotUnder 41 1 p (nI c) (nI near) (nI ap)) (f_MO_whyNot p (nI c) (nI near) (nI ap)) m := by
  have w1 := F.wells_c
  have w2 := F.wells_m
  have w3 := F.lots_c
  obtain ⟨⟨zn, z1, z36, zw, zh, zhr, zle, zwe, znl, znp⟩, ⟨y0, y1, y2, yhr, yle, ywe, ynl, ynp⟩, ⟨x0, x1, xhr, xle, xwe, xnl, xnp⟩, ⟨r6, r7, r8, r10, r11, r13, r14, r15, r16, r17, r19, r20, r21, r22, r28, r29, r30, r31⟩, ⟨ecol, eoil, e9, elot⟩, ⟨fp, fc, fw, fo, fb, fo1, frow, fws⟩, g1, g2, gn⟩ := F
  have c1 := cl_whyNotUnder (b := 41) (a := 1) (m := m) (p := p) hc z36 y2 ecol ywe zwe w1 yle zle w3 ynl znl g1 yhr (by omega) h1 h2
  have c1 : _ = some (sWhy (sHolder (sEnded (m.1 1 4) (m.1 16) (m.1 15) (m.1 14) (m.1 19) (m.1 20) (m.1 10) we) (m.1 13) (m.1 14) (m.1 15) (m.1 17) (m.1 10 c).toNatClampNeg le) p (m.1 10 c) (gany (sExc ru fr nu vo p (hr / 4)) nl) (gany (sNear (m.1 10) w c near) n) (gany (sApart wc w c ap) we), m) := c1
  have c2 := mo_whyNot (m := m) (p := p) hc z36 zw x0 x1 zn xwe (by omega) w2 xle zle elot xnl znl g2 xhr (by omega) h1 h2
  rw [yhr, ← xhr, r16, r15, r14, r19, r20, r10, r13, r17] at c1
  exact ⟨_, c1, c2⟩
theorem Fx.letW {k s : Nat} (F : Fx m.1 w h9 n hr le we nl np ol wp wc ww wo ws ru fr nu vo) (hk : k < we) (hs : s < 50) : gSame (f_Orders_letOf 41 1 (nI k) (nI s)) (f_MO_letOf (nI k) (nI s)) m := by
  obtain ⟨w1, w2, -, -⟩ := F.w36
  obtain ⟨⟨zn, z1, z36, zw, zh, zhr, zle, zwe, znl, znp⟩, ⟨y0, y1, y2, yhr, yle, ywe, ynl, ynp⟩, ⟨x0, x1, xhr, xle, xwe, xnl, xnp⟩, ⟨r6, r7, r8, r10, r11, r13, r14, r15, r16, r17, r19, r20, r21, r22, r28, r29, r30, r31⟩, ⟨ecol, eoil, e9, elot⟩, ⟨fp, fc, fw, fo, fb, fo1, frow, fws⟩, g1, g2, gn⟩ := F
  have c1 := cl_letOf (b := 41) (a := 1) (m := m) z36 y2 ywe zwe w1 hk ynl znl g1 (s := s) (by omega)
  have c1 : _ = some (sLet (m.1 10) ru fr nu vo wc n we nl k s, m) := c1
  have c2 := mo_letOf (m := m) z36 x0 x1 zn xwe (by omega) w2 hk xnl znl g2 (s := s) (by omega)
  rw [r10] at c1
  exact ⟨_, c1, c2⟩
theorem Fx.hotS {k s : Nat} (F : Fx m.1 w h9 n hr le we nl np ol wp wc ww wo ws ru fr nu vo) (hk : k < we) (hs : s < 50) : gSame (f_Orders_hotIn 41 1 (nI k) (nI s)) (f_MO_hotIn (nI k) (nI s)) m := by
  obtain ⟨w1, w2, -, -⟩ := F.w36
  obtain ⟨⟨zn, z1, z36, zw, zh, zhr, zle, zwe, znl, znp⟩, ⟨y0, y1, y2, yhr, yle, ywe, ynl, ynp⟩, ⟨x0, x1, xhr, xle, xwe, xnl, xnp⟩, ⟨r6, r7, r8, r10, r11, r13, r14, r15, r16, r17, r19, r20, r21, r22, r28, r29, r30, r31⟩, ⟨ecol, eoil, e9, elot⟩, ⟨fp, fc, fw, fo, fb, fo1, frow, fws⟩, g1, g2, gn⟩ := F
  have v1 := fws k s hk hs
  have c1 := cl_hotIn (b := 41) (a := 1) (m := m) z36 y2 ywe zwe w1 hk ynl znl g1 hs (ws := ws) ⟨v1.1, v1.2.2⟩
  have c1 : _ = some (sHotV (ws (60 * k + s)) (sLet (m.1 10) ru fr nu vo wc n we nl k s), m) := c1
  have c2 := mo_hotIn (m := m) z36 x0 x1 zn xwe zwe w2 hk xnl znl g2 hs (ws := ws) ⟨v1.2.1, v1.2.2⟩
  rw [r10] at c1
  exact ⟨_, c1, c2⟩
theorem Fx.hotW (F : Fx m.1 w h9 n hr le we nl np ol wp wc ww wo ws ru fr nu vo) : ∃ v : Nat → Int32, (∀ k, k < we → f_Orders_hotOfWell 41 1 (nI k) m = some (v k, m) ∧ f_MO_hotOf (nI k) m = some (v k, m)) ∧ (f_Orders_hotOfAll 41 1 m = some (gsumI v we, m) ∧ f_MO_hotAll m = some (gsumI v we, m)) ∧ ∀ p, f_Orders_hotOfPerson 41 1 p m = some (gsumP (m.1 92) p v we, m) := by
  obtain ⟨w1, w2, -, -⟩ := F.w36
  obtain ⟨⟨zn, z1, z36, zw, zh, zhr, zle, zwe, znl, znp⟩, ⟨y0, y1, y2, yhr, yle, ywe, ynl, ynp⟩, ⟨x0, x1, xhr, xle, xwe, xnl, xnp⟩, ⟨r6, r7, r8, r10, r11, r13, r14, r15, r16, r17, r19, r20, r21, r22, r28, r29, r30, r31⟩, ⟨ecol, eoil, e9, elot⟩, ⟨fp, fc, fw, fo, fb, fo1, frow, fws⟩, g1, g2, gn⟩ := F
  refine ⟨sHotW (m.1 85) ru fr nu vo wc ws n we nl, fun k hk => ⟨?_, ?_⟩, ⟨?_, ?_⟩, fun p => ?_⟩
  · have c1 := cl_hotOfWell (b := 41) (a := 1) (m := m) z36 y2 ywe zwe w1 hk ynl znl g1 (ws := ws) (fun k s hk hs => ⟨(fws k s hk hs).1, (fws k s hk hs).2.2⟩)
    have c1 : _ = some (sHotW (m.1 10) ru fr nu vo wc ws n we nl k, m) := c1
    rw [r10] at c1
    exact c1
  · exact mo_hotOf (m := m) z36 x0 x1 zn xwe zwe w2 hk xnl znl g2 (ws := ws) (fun k s hk hs => ⟨(fws k s hk hs).2.1, (fws k s hk hs).2.2⟩)
  · have c1 := cl_hotOfAll (b := 41) (a := 1) (m := m) z36 y2 ywe zwe w1 ynl znl g1 (ws := ws) (fun k s hk hs => ⟨(fws k s hk hs).1, (fws k s hk hs).2.2⟩)
    have c1 : _ = some (gsumI (sHotW (m.1 10) ru fr nu vo wc ws n we nl) we, m) := c1
    rw [r10] at c1
    exact c1
  · exact mo_hotAll (m := m) z36 x0 x1 zn xwe zwe w2 xnl znl g2 (ws := ws) (fun k s hk hs => ⟨(fws k s hk hs).2.1, (fws k s hk hs).2.2⟩)
  · have c1 := cl_hotOfPerson (b := 41) (a := 1) (m := m) (p := p) z36 y2 ywe zwe w1 ynl znl g1 (ws := ws) (fun k s hk hs => ⟨(fws k s hk hs).1, (fws k s hk hs).2.2⟩)
    have c1 : _ = some (gsumP (m.1 19) p (sHotW (m.1 10) ru fr nu vo wc ws n we nl) we, m) := c1
    rw [r10, r19] at c1
    exact c1
end SAME
theorem gBoth.ofSame {n0 K : Nat} {f g : gM → Option (Int32 × gM)} {m : gM} (I : Inv n0 K m.1) (h : gSame f g m) : gBoth n0 K f g m := by
  obtain ⟨v, h1, h2⟩ := h
  exact gBoth.same v I h1 h2
theorem p_holds {n0 K : Nat} {m : gM} (x : Int32) (I : Inv n0 K m.1) : gBoth n0 K (f_OT_holds x) (f_MO_holds x) m := by
  obtain ⟨w, h9, n, hr, le, we, nl, np, ol, wp, wc, ww, wo, ws, ru, fr, nu, vo, F⟩ := I.fx
  rcases gib_cases x 8 with hg | ⟨i, hi, rfl, hi2⟩
  · refine gBoth.same (-1) I ?_ ?_
    · unfold f_OT_holds; rw [ot_isLot, hg]; rfl
    · unfold f_MO_holds; rw [mo_isLot, hg]; rfl
  · have hgi : gib (nI i) 8 = true := gib_iff.mpr ⟨i, hi, rfl, hi2⟩
    obtain ⟨v, v1, v2⟩ := F.holder hi
    refine gBoth.same v I ?_ ?_
    · unfold f_OT_holds
      simp (disch := omega) only [gfd_eq, glet_eq, gbind_eq, nI_ltI, nI_1, gok_nI, grd_nI, nI_clamp, if_true, if_false, Nat.lt_irrefl, ot_isLot, hgi, v1, i10]
    · unfold f_MO_holds
      simp (disch := omega) only [gfd_eq, glet_eq, gbind_eq, nI_ltI, nI_1, gok_nI, grd_nI, nI_clamp, if_true, if_false, Nat.lt_irrefl, mo_isLot, hgi, v2, i10]
theorem p_leaseOf {n0 K : Nat} {m : gM} (x y : Int32) (I : Inv n0 K m.1) : gBoth n0 K (f_OT_leaseOf x y) (f_MO_leaseOf x y) m := by
  obtain ⟨w, h9, n, hr, le, we, nl, np, ol, wp, wc, ww, wo, ws, ru, fr, nu, vo, F⟩ := I.fx
  have F0 := F
  obtain ⟨⟨zn, z1, z36, zw, zh, zhr, zle, zwe, znl, znp⟩, ⟨y0, y1, y2, yhr, yle, ywe, ynl, ynp⟩, ⟨x0, x1, xhr, xle, xwe, xnl, xnp⟩, ⟨r6, r7, r8, r10, r11, r13, r14, r15, r16, r17, r19, r20, r21, r22, r28, r29, r30, r31⟩, ⟨ecol, eoil, e9, elot⟩, ⟨fp, fc, fw, fo, fb, fo1, frow, fws⟩, g1, g2, gn⟩ := F
  refine gBoth.ofSame I ?_
  rcases gib_cases x le with hg | ⟨i, hi, rfl, hi2⟩
  · refine ⟨-1, ?_, ?_⟩
    · unfold f_OT_leaseOf
      rw [gfd_eq, yle, gchk (by omega), hg]
      rfl
    · unfold f_MO_leaseOf
      rw [gfd_eq, xle, mo_in0 (by omega), hg, gbind_eq]
      rfl
  · have hgi : gib (nI i) le = true := gib_iff.mpr ⟨i, hi, rfl, hi2⟩
    obtain ⟨v, v1, v2⟩ := F0.ended (k := i) (by omega)
    have q1 : f_OT_leaseOf (nI i) y m = gswo y [(0, some (m.1 88 i, m)), (1, some (m.1 89 i, m)), (2, some (m.1 90 i, m)), (3, some (m.1 91 i, m)), (4, if v = 0 then some (0, m) else some (1, m))] (some (-1, m)) := by
      unfold f_OT_leaseOf
      rw [gfd_eq, yle, gchk (by omega), hgi, if_pos rfl]
      simp (disch := omega) only [gfd_eq, glet_eq, gbind_eq, nI_ltI, nI_1, gok_nI, grd_nI, nI_clamp, if_true, if_false, Nat.lt_irrefl, v1, r14, r15, r16, r17, i10]
    have q2 : f_MO_leaseOf (nI i) y m = gswo y [(0, some (m.1 88 i, m)), (1, some (m.1 89 i, m)), (2, some (m.1 90 i, m)), (3, some (m.1 91 i, m)), (4, if v = 0 then some (0, m) else some (1, m))] (some (-1, m)) := by
      unfold f_MO_leaseOf
      rw [gfd_eq, xle, mo_in0 (by omega), hgi, gbind_eq]
      simp (disch := omega) only [gfd_eq, glet_eq, gbind_eq, nI_ltI, nI_1, gok_nI, grd_nI, nI_clamp, if_true, if_false, Nat.lt_irrefl, v2, i10]
    unfold gSame
    rw [q1, q2]
    simp only [gswo]
    by_cases k0 : y = 0
    · exact ⟨m.1 88 i, if_pos k0, if_pos k0⟩
    rw [if_neg k0]
    by_cases k1 : y = 1
    · exact ⟨m.1 89 i, if_pos k1, if_pos k1⟩
    rw [if_neg k1]
    by_cases k2 : y = 2
    · exact ⟨m.1 90 i, if_pos k2, if_pos k2⟩
    rw [if_neg k2]
    by_cases k3 : y = 3
    · exact ⟨m.1 91 i, if_pos k3, if_pos k3⟩
    rw [if_neg k3]
    by_cases k4 : y = 4
    · rw [if_pos k4]
      by_cases k5 : v = 0
      · exact ⟨0, if_pos k5, if_pos k5⟩
      · exact ⟨1, if_neg k5, if_neg k5⟩
    rw [if_neg k4]
    exact ⟨-1, rfl, rfl⟩
