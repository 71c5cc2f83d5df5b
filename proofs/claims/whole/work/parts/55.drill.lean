/-! ===== drill ===== -/
theorem sWhy_cases (a b c : Int32) (d e f : Bool) : sWhy a b c d e f = 0 ∨ (¬ sWhy a b c d e f = 0 ∧ 0 < sWhy a b c d e f) := by
  unfold sWhy
  repeat (first | exact Or.inl rfl | exact Or.inr ⟨by decide, by decide⟩ | split)
theorem mo_whyNow {w h9 n c we le nl hr : Nat} {p : Int32} {wc ru fr nu vo : Nat → Nat} {m : gM} (hc : c < n) (hn : n ≤ 36) (hw : 1 ≤ w ∧ w ≤ 6) (h0 : m.1 81 0 = nI w) (h1 : m.1 81 1 = nI h9) (hwh : w * h9 = n) (hw0 : m.1 81 15 = nI we) (hwe : we ≤ 14) (hwc : ∀ k, k < we → m.1 93 k = nI (wc k) ∧ wc k < n)
    (hl0 : m.1 81 10 = nI le) (hle : le ≤ 12) (hlot : ∀ c, c < 36 → m.1 85 c = -4 ∨ ∃ l, l < 8 ∧ m.1 85 c = nI l) (g0 : m.1 81 48 = nI nl) (hnl : nl ≤ 12) (H : LawAt m.1 (116, 117, 118, 119) nl ru fr nu vo) (hh : m.1 81 2 = nI hr) (hhr : hr ≤ 199) (gn : ∀ k, k < nl → ru k ≤ 1 → nu k ≤ 9) :
    f_MO_whyNow p (nI c) m = some (sWhy (sHolder (sEnded (m.1 81 2) (m.1 90) (m.1 89) (m.1 88) (m.1 92) (m.1 93) (m.1 85) we) (m.1 87) (m.1 88) (m.1 89) (m.1 91) (m.1 85 c).toNatClampNeg le) p (m.1 85 c) (gany (sExc ru fr nu vo p (hr / 4)) nl) (gany (sNear (m.1 85) w c (sNum ru fr nu vo 0 (hr / 4) nl)) n) (gany (sApart wc w c (sNum ru fr nu vo 1 (hr / 4) nl)) we), m) := by
  have b0 := sNum_le (ru := ru) (fr := fr) (nu := nu) (vo := vo) (q := 0) (s := hr / 4) (by omega) hnl gn
  have b1 := sNum_le (ru := ru) (fr := fr) (nu := nu) (vo := vo) (q := 1) (s := hr / 4) (by omega) hnl gn
  have v2 := mo_whyNot (p := p) (near := sNum ru fr nu vo 0 (hr / 4) nl) (ap := sNum ru fr nu vo 1 (hr / 4) nl) hc hn hw h0 h1 hwh hw0 hwe hwc hl0 hle hlot g0 hnl H hh (by omega) (by omega) (by omega)
  have s2 := mo_shift (m := m) hh (by omega)
  have d0 : f_MO_lineAt 0 (nI (hr / 4)) m = _ := mo_lineAt (m := m) g0 hnl H (q := 0) (s := hr / 4) (by omega) (by omega)
  have d1 : f_MO_lineAt 1 (nI (hr / 4)) m = _ := mo_lineAt (m := m) g0 hnl H (q := 1) (s := hr / 4) (by omega) (by omega)
  have k0 : (sLine ru fr vo 0 (hr / 4) nl = -4 ∧ sNum ru fr nu vo 0 (hr / 4) nl = 0) ∨ ∃ k, k < 12 ∧ sLine ru fr vo 0 (hr / 4) nl = nI k ∧ m.1 118 k = nI (sNum ru fr nu vo 0 (hr / 4) nl) := by
    unfold sNum
    rcases sLine_cases ru fr vo 0 (hr / 4) hnl with e | ⟨k, hk, e⟩
    · rw [e]; exact Or.inl ⟨rfl, rfl⟩
    · rw [e, if_neg (nI_ne4 (by omega)), nI_clamp (by omega)]
      exact Or.inr ⟨k, by omega, rfl, (H k hk).2.2.1⟩
  have k1 : (sLine ru fr vo 1 (hr / 4) nl = -4 ∧ sNum ru fr nu vo 1 (hr / 4) nl = 0) ∨ ∃ k, k < 12 ∧ sLine ru fr vo 1 (hr / 4) nl = nI k ∧ m.1 118 k = nI (sNum ru fr nu vo 1 (hr / 4) nl) := by
    unfold sNum
    rcases sLine_cases ru fr vo 1 (hr / 4) hnl with e | ⟨k, hk, e⟩
    · rw [e]; exact Or.inl ⟨rfl, rfl⟩
    · rw [e, if_neg (nI_ne4 (by omega)), nI_clamp (by omega)]
      exact Or.inr ⟨k, by omega, rfl, (H k hk).2.2.1⟩
  generalize hans : sWhy _ _ _ _ _ _ = v at v2 ⊢
  unfold f_MO_whyNow
  simp (disch := omega) only [gfd_eq, glet_eq, gbind_eq, nI_ltI, nI_1, gok_nI, grd_nI, nI_clamp, if_true, if_false, Nat.lt_irrefl, s2, d0, d1, i10, gokT]
  rcases k0 with ⟨e0, z0⟩ | ⟨j0, y0, e0, z0⟩ <;> rcases k1 with ⟨e1, z1⟩ | ⟨j1, y1, e1, z1⟩
  · rw [z0, z1] at v2
    simp (disch := omega) only [gfd_eq, glet_eq, gbind_eq, nI_ltI, nI_1, gok_nI, grd_nI, nI_clamp, if_true, if_false, Nat.lt_irrefl, e0, e1, J_MO_whyNow_40, J_MO_whyNow_58, q0, v2, i10, gokT]
  · rw [z0] at v2
    simp (disch := omega) only [gfd_eq, glet_eq, gbind_eq, nI_ltI, nI_1, gok_nI, grd_nI, nI_clamp, if_true, if_false, Nat.lt_irrefl, e0, e1, J_MO_whyNow_40, J_MO_whyNow_58, q0, nI_ne4, z1, v2, i10, gokT]
  · rw [z1] at v2
    simp (disch := omega) only [gfd_eq, glet_eq, gbind_eq, nI_ltI, nI_1, gok_nI, grd_nI, nI_clamp, if_true, if_false, Nat.lt_irrefl, e0, e1, J_MO_whyNow_40, J_MO_whyNow_58, q0, nI_ne4, z0, v2, i10, gokT]
  · simp (disch := omega) only [gfd_eq, glet_eq, gbind_eq, nI_ltI, nI_1, gok_nI, grd_nI, nI_clamp, if_true, if_false, Nat.lt_irrefl, e0, e1, J_MO_whyNow_40, J_MO_whyNow_58, nI_ne4, z0, z1, v2, i10, gokT]
/-- a well more, in the reference -/
def gMw (N : gN) (we : Nat) (p c v : Int32) : gN := gup (grw (grw (gup (gup (gup (gup (gup (gup N 92 we p) 93 we c) 94 we v) 95 we 1) 96 we 0) 97 we 0) 98 (gst_ (N 98) (9 * we) 9 0)) 99 (gst_ (N 99) (60 * we) 60 0)) 81 15 (nI (we + 1))
theorem mo_addWell {we : Nat} {p c v : Int32} {m : gM} (h : m.1 81 15 = nI we) (hwe : we < 14) : f_MO_addWell p c v m = some (gMw m.1 we p c v, m.2) := by
  have l1 : ∀ (k : Int32 → gM → Option gM) (m : gM), L_MO_addWell_57 (nI we) k 1000 0 m = k (nI 9) (grw m.1 98 (gst_ (m.1 98) (9 * we) 9 0), m.2) := by
    intro k m
    unfold L_MO_addWell_57
    refine gloopS0 (fun (f : Int32 → gM → Option gM) j (s : gM) => f (nI j) s) 9 (fun j => (grw m.1 98 (gst_ (m.1 98) (9 * we) j 0), m.2)) _ ?_ ?_ ?_ 1000 (by omega)
    · show (grw m.1 98 (gst_ (m.1 98) (9 * we) 0 0), m.2) = m
      rw [gst_0, grw_id]
    · intro g j hj
      simp (disch := omega) only [gfd_eq, glet_eq, gbind_eq, nI_ltI, nI_1, gok_nI, grd_nI, nI_clamp, if_true, if_false, Nat.lt_irrefl, hj, q9, pk_mul, nI_add, gst_nI, Nat.reduceAdd, i10, gokT]
      rw [gup_fill]
    · intro g
      simp (disch := omega) only [gfd_eq, glet_eq, gbind_eq, nI_ltI, nI_1, gok_nI, grd_nI, nI_clamp, if_true, if_false, Nat.lt_irrefl, q9, i10, gokT]
  have l2 : ∀ (k : Int32 → gM → Option gM) (m : gM), L_MO_addWell_87 (nI we) k 1000 0 m = k (nI 60) (grw m.1 99 (gst_ (m.1 99) (60 * we) 60 0), m.2) := by
    intro k m
    unfold L_MO_addWell_87
    refine gloopS0 (fun (f : Int32 → gM → Option gM) j (s : gM) => f (nI j) s) 60 (fun j => (grw m.1 99 (gst_ (m.1 99) (60 * we) j 0), m.2)) _ ?_ ?_ ?_ 1000 (by omega)
    · show (grw m.1 99 (gst_ (m.1 99) (60 * we) 0 0), m.2) = m
      rw [gst_0, grw_id]
    · intro g j hj
      simp (disch := omega) only [gfd_eq, glet_eq, gbind_eq, nI_ltI, nI_1, gok_nI, grd_nI, nI_clamp, if_true, if_false, Nat.lt_irrefl, hj, q60, pk_mul, nI_add, gst_nI, Nat.reduceAdd, i10, gokT]
      rw [gup_fill]
    · intro g
      simp (disch := omega) only [gfd_eq, glet_eq, gbind_eq, nI_ltI, nI_1, gok_nI, grd_nI, nI_clamp, if_true, if_false, Nat.lt_irrefl, q60, i10, gokT]
  unfold f_MO_addWell J_MO_addWell_84 J_MO_addWell_114
  simp (disch := omega) only [gfd_eq, glet_eq, gbind_eq, nI_ltI, nI_1, gok_nI, grd_nI, nI_clamp, if_true, if_false, Nat.lt_irrefl, h, gst_nI, l1, l2, gsf_eq, i10, gokT]
  have e : grw (grw (gup (gup (gup (gup (gup (gup m.1 92 we p) 93 we c) 94 we v) 95 we 1) 96 we 0) 97 we 0) 98 (gst_ (m.1 98) (9 * we) 9 0)) 99 (gst_ (m.1 99) (60 * we) 60 0) 81 15 = nI we := by
    rw [grw_ne (by decide), grw_ne (by decide)]
    exact h
  show some (gup (grw (grw (gup (gup (gup (gup (gup (gup m.1 92 we p) 93 we c) 94 we v) 95 we 1) 96 we 0) 97 we 0) 98 (gst_ (m.1 98) (9 * we) 9 0)) 99 (gst_ (m.1 99) (60 * we) 60 0)) 81 15 (grw (grw (gup (gup (gup (gup (gup (gup m.1 92 we p) 93 we c) 94 we v) 95 we 1) 96 we 0) 97 we 0) 98 (gst_ (m.1 98) (9 * we) 9 0)) 99 (gst_ (m.1 99) (60 * we) 60 0) 81 15 + 1), m.2) = _
  rw [e, nI_1]
  rfl
theorem cl_wellsAdd {we : Nat} {x1 x2 x3 : Int32} {m : gM} (h : m.1 18 0 = nI we) (hwe : we < 10) : f_Wells_add 18 x1 x2 x3 m = some (nI we, (gup (gup (gup (gup (gup m.1 19 we x1) 20 we x2) 21 we x3) 22 we 1) 18 0 (nI (we + 1)), m.2)) := by
  unfold f_Wells_add
  simp (disch := omega) only [gfd_eq, glet_eq, gbind_eq, nI_ltI, nI_1, gok_nI, grd_nI, nI_clamp, if_true, if_false, Nat.lt_irrefl, h, hwe, q10, gst_nI, gsf_eq, gup_row, Nat.reduceAdd, gup_at, gzo_t (Or.inr rfl), i10, gokT]
  rw [nI_pred']
theorem FRel.drill {n we p c v : Nat} {C V : gN} (H : FRel n C V) (h : C 17 0 = nI we) (hwe : we < 10) (hp : p < 6) (hc : ∀ w0 h0 : Nat, V 22 0 = nI w0 → V 22 1 = nI h0 → w0 ≤ 6 → h0 ≤ 6 → c < w0 * h0) (hv : v ≤ 60) : FRel n (gup (gup (gup (gup (gup C 18 we (nI p)) 19 we (nI c)) 20 we (nI v)) 21 we 1) 17 0 (nI (we + 1))) (gup (grw (grw (gup (gup (gup (gup (gup (gup V 14 we (nI p)) 15 we (nI c)) 16 we (nI v)) 17 we 1) 18 we 0) 19 we 0) 20 (gst_ (V 20) (9 * we) 9 0)) 21 (gst_ (V 21) (60 * we) 60 0)) 22 4 (nI (we + 1))) := by
  obtain ⟨w, h9, hr, le, we', sd, gs, wt, ol, wp, wc, ww, wo, ws, a1, a2, a3, a4, a5, a6, a7, a8, a9, ⟨f1, f2, f3, f4⟩, ⟨g1, g2, g3, g4⟩, ⟨b3, b3b⟩, b4, b5, b6, b7⟩ := H
  have e : we' = we := (nI_eq (by omega) (by omega)).mp (a3.2.2.2.2.2.symm.trans h)
  subst e
  have hc' := hc w h9 a2.1 a2.2.1 a1.2.1 a1.2.2.2.1
  refine ⟨w, h9, hr, le, we' + 1, sd, gs, wt, ol, fun k => if k = we' then p else wp k, fun k => if k = we' then c else wc k, fun k => if k = we' then v else ww k, fun k => if k = we' then 1 else wo k, fun i => if 60 * we' ≤ i ∧ i < 60 * we' + 60 then 0 else ws i, ⟨a1.1, a1.2.1, a1.2.2.1, a1.2.2.2.1, a1.2.2.2.2.1, a1.2.2.2.2.2.1, by omega⟩, ⟨a2.1, a2.2.1, a2.2.2.1, a2.2.2.2.1, rfl⟩, ⟨a3.1, a3.2.1, a3.2.2.1, a3.2.2.2.1, a3.2.2.2.2.1, rfl⟩, a4, a5, a6, a7, a8, a9, ⟨gup_pair (a := 18) (b := 14) f1, gup_pair (a := 19) (b := 15) f2, gup_pair (a := 20) (b := 16) f3, gup_pair (a := 21) (b := 17) f4⟩, ⟨gup_fun (b := 14) g1, gup_fun (b := 15) g2, gup_fun (b := 16) g3, gup_fun (v := 1) (b := 17) g4⟩, ⟨fun k hk => ⟨?_, ?_, ?_⟩, fun k => ?_⟩, fun k hk => ⟨?_, ?_, fun l hl => ?_, fun s hs => ?_⟩, fun k h1 h2 => ?_, b6, fun sel i h1 h2 => ?_⟩
  · show (if k = we' then p else wp k) < 6
    by_cases e : k = we'
    · rw [if_pos e]; exact hp
    · rw [if_neg e]; exact (b3 k (by omega)).1
  · show (if k = we' then c else wc k) < w * h9
    by_cases e : k = we'
    · rw [if_pos e]; exact hc'
    · rw [if_neg e]; exact (b3 k (by omega)).2.1
  · show (if k = we' then v else ww k) ≤ 60
    by_cases e : k = we'
    · rw [if_pos e]; exact hv
    · rw [if_neg e]; exact (b3 k (by omega)).2.2
  · show (if k = we' then 1 else wo k) ≤ 1
    by_cases e : k = we'
    · rw [if_pos e]; omega
    · rw [if_neg e]; exact b3b k
  · show C 22 k = gup V 18 we' 0 18 k
    rw [gup_eq]
    show _ = if k = we' then 0 else V 18 k
    by_cases e : k = we'
    · rw [if_pos e, e]; exact (b5 we' (by omega) (by omega)).1
    · rw [if_neg e]; exact (b4 k (by omega)).1
  · show C 23 k = gup V 19 we' 0 19 k
    rw [gup_eq]
    show _ = if k = we' then 0 else V 19 k
    by_cases e : k = we'
    · rw [if_pos e, e]; exact (b5 we' (by omega) (by omega)).2.1
    · rw [if_neg e]; exact (b4 k (by omega)).2.1
  · show C 24 (9 * k + l) = gst_ (V 20) (9 * we') 9 0 (9 * k + l)
    unfold gst_
    by_cases e : k = we'
    · rw [if_pos (by omega), e]; exact (b5 we' (by omega) (by omega)).2.2.1 l hl
    · rw [if_neg (by omega)]; exact (b4 k (by omega)).2.2.1 l hl
  · show C 25 (50 * k + s) = nI (if 60 * we' ≤ 60 * k + s ∧ 60 * k + s < 60 * we' + 60 then 0 else ws (60 * k + s)) ∧ gst_ (V 21) (60 * we') 60 0 (60 * k + s) = nI (if 60 * we' ≤ 60 * k + s ∧ 60 * k + s < 60 * we' + 60 then 0 else ws (60 * k + s)) ∧ (if 60 * we' ≤ 60 * k + s ∧ 60 * k + s < 60 * we' + 60 then 0 else ws (60 * k + s)) ≤ 60 * hr
    unfold gst_
    by_cases e : k = we'
    · rw [if_pos (by omega), if_pos (by omega), e]
      exact ⟨(b5 we' (by omega) (by omega)).2.2.2 s hs, rfl, Nat.zero_le _⟩
    · rw [if_neg (by omega), if_neg (by omega)]; exact (b4 k (by omega)).2.2.2 s hs
  · exact b5 k (by omega) h2
  · rw [gup_row (by omega)]
    by_cases h21 : sel = 21
    · subst h21
      have h2 : 840 ≤ i := h2
      rw [grw_eq]
      unfold gst_
      rw [if_neg (by omega)]
      exact b7 21 i h1 h2
    · rw [grw_ne h21]
      by_cases h20 : sel = 20
      · subst h20
        have h2 : 126 ≤ i := h2
        rw [grw_eq]
        unfold gst_
        rw [if_neg (by omega)]
        exact b7 20 i h1 h2
      · rw [grw_ne h20]
        exact gzb (gzb (gzb (gzb (gzb (gzb b7 (show we' < 10 by omega)) (show we' < 10 by omega)) (show we' < 10 by omega)) (show we' < 10 by omega)) (show we' < 14 by omega)) (show we' < 14 by omega) sel i h1 h2
theorem p_drill {n0 K : Nat} {m : gM} (x y z : Int32) (I : Inv n0 K m.1) : gBoth n0 K (f_OT_drill x y z) (f_MO_drill x y z) m := by
  obtain ⟨w, h9, n, hr, le, we, nl, np, ol, wp, wc, ww, wo, ws, ru, fr, nu, vo, F⟩ := I.fx
  have F0 := F
  have wm := F.wells_m
  obtain ⟨⟨zn, z1, z36, zw, zh, zhr, zle, zwe, znl, znp⟩, ⟨y0, y1, y2, yhr, yle, ywe, ynl, ynp⟩, ⟨x0, x1, xhr, xle, xwe, xnl, xnp⟩, ⟨r6, r7, r8, r10, r11, r13, r14, r15, r16, r17, r19, r20, r21, r22, r28, r29, r30, r31⟩, ⟨ecol, eoil, e9, elot⟩, ⟨fp, fc, fw, fo, fb, fo1, frow, fws⟩, g1, g2, gn⟩ := F
  have a1 := ot_isPerson (x := x) (n := np) (by omega) ynp
  have a2 := ot_hasCell (x := y) (n := n) (by omega) y2
  have a3 : f_OT_within z 60 m = _ := ot_within (x := z) (n := 60) (by omega) m
  have b1 := mo_isPerson (x := x) (n := np) xnp (by omega)
  have b2 := mo_isCell (x := y) x0 x1 (by omega)
  rw [zn] at b2
  have b3 : ∀ m : gM, f_MO_in z.toInt64 (Int32.toInt64 0) (Int32.toInt64 60) m = _ := fun m => mo_in_n (x := z) (n := 60) (by omega) m
  rcases gib_cases x np with hg | ⟨i, hi, rfl, hi2⟩
  · rw [hg] at a1 b1
    refine gBoth.same (-1) I ?_ ?_
    · unfold f_OT_drill; rw [a1]; rfl
    · unfold f_MO_drill; rw [b1]; rfl
  have hgi := gib_iff.mpr ⟨i, hi, rfl, hi2⟩
  rw [hgi] at a1 b1
  rcases gib_cases y n with hg | ⟨j, hj, rfl, hj2⟩
  · rw [hg] at a2 b2
    refine gBoth.same (-1) I ?_ ?_
    · unfold f_OT_drill
      simp (disch := omega) only [gfd_eq, glet_eq, gbind_eq, nI_ltI, nI_1, gok_nI, grd_nI, nI_clamp, if_true, if_false, Nat.lt_irrefl, a1, a2, Bool.false_eq_true, i10, gokT]
    · unfold f_MO_drill
      simp (disch := omega) only [gfd_eq, glet_eq, gbind_eq, nI_ltI, nI_1, gok_nI, grd_nI, nI_clamp, if_true, if_false, Nat.lt_irrefl, b1, b2, Bool.false_eq_true, i10, gokT]
  have hgj := gib_iff.mpr ⟨j, hj, rfl, hj2⟩
  rw [hgj] at a2 b2
  rcases gib_cases z 61 with hg | ⟨v, hv, rfl, hv2⟩
  · rw [hg] at a3
    refine gBoth.same (-1) I ?_ ?_
    · unfold f_OT_drill
      simp (disch := omega) only [gfd_eq, glet_eq, gbind_eq, nI_ltI, nI_1, gok_nI, grd_nI, nI_clamp, if_true, if_false, Nat.lt_irrefl, a1, a2, a3, Bool.false_eq_true, i10, gokT]
    · unfold f_MO_drill
      simp (disch := omega) only [gfd_eq, glet_eq, gbind_eq, nI_ltI, nI_1, gok_nI, grd_nI, nI_clamp, if_true, if_false, Nat.lt_irrefl, b1, b2, b3, hg, Bool.false_eq_true, i10, gokT]
  have hgv := gib_iff.mpr ⟨v, hv, rfl, hv2⟩
  rw [hgv] at a3
  obtain ⟨r, v1, v2⟩ := F0.why (p := nI i) hj
  have v3 := mo_whyNow (p := nI i) (m := m) hj (by omega) zw x0 x1 zn xwe (by omega) wm xle zle elot xnl znl g2 xhr (by omega) gn
  have hr0 : r = 0 ∨ (¬ r = 0 ∧ 0 < r) := by
    have := v2.symm.trans v3
    have := (Prod.mk.inj (Option.some.inj this)).1
    rw [this]
    exact sWhy_cases _ _ _ _ _ _
  rcases hr0 with h0 | ⟨h0, h1⟩
  · subst h0
    by_cases hwe : we < 10
    · let m1 : gM := (gup (gup (gup (gup (gup m.1 19 we (nI i)) 20 we (nI j)) 21 we (nI v)) 22 we 1) 18 0 (nI (we + 1)), m.2)
      have c1 : f_Wells_add 18 (nI i) (nI j) (nI v) m = some (nI we, m1) := cl_wellsAdd ywe hwe
      have v4 := mo_whyNow (p := nI i) (m := m1) hj (by omega) zw x0 x1 zn xwe (by omega) wm xle zle elot xnl znl g2 xhr (by omega) gn
      have v5 : f_MO_whyNow (nI i) (nI j) m1 = some (0, m1) := by
        refine v4.trans ?_
        have := v2.symm.trans v3
        have := (Prod.mk.inj (Option.some.inj this)).1
        exact congrArg (fun t => some (t, m1)) this.symm
      have b1' := mo_isPerson (x := nI i) (n := np) (m := m1) xnp (by omega)
      have b2' := mo_isCell (x := nI j) (m := m1) x0 x1 (by omega)
      rw [zn, hgj] at b2'
      rw [hgi] at b1'
      have xwe1 : m1.1 81 15 = nI we := xwe
      have c2 := mo_addWell (p := nI i) (c := nI j) (v := nI v) (m := m1) xwe1 (by omega)
      have hne : ¬ we = 10 := by omega
      have n0' : ¬ (0 : Int32) < 0 := by decide
      refine ⟨nI we, m1, (gMw m1.1 we (nI i) (nI j) (nI v), m1.2), ?_, ?_, ?_⟩
      · unfold f_OT_drill
        simp (disch := omega) only [gfd_eq, glet_eq, gbind_eq, nI_ltI, nI_1, gok_nI, grd_nI, nI_clamp, if_true, if_false, Nat.lt_irrefl, a1, a2, a3, v1, c1, i10, gokT]
      · have e10 : ¬ nI we = (10 : Int32) := fun e => hne ((nI_eq (b := 10) (by omega) (by omega)).mp e)
        have e15 : gMw m1.1 we (nI i) (nI j) (nI v) 81 15 = nI (we + 1) := gup_at _ _ _ _
        unfold f_MO_drill
        simp (disch := omega) only [gfd_eq, glet_eq, gbind_eq, nI_ltI, nI_1, gok_nI, grd_nI, nI_clamp, if_true, if_false, Nat.lt_irrefl, b1', b2', b3, hgv, v5, n0', xwe1, e10, c2, e15, i10, gokT]
        rw [nI_pred']
      · have H1 := I.mono (Nat.le_succ n0)
        refine H1.fld (fun q hq => ?_) ?_ ?_ ?_ ?_ ?_ ?_
        · unfold gOut at hq
          show gup (grw (grw (gup (gup (gup (gup (gup (gup m1.1 92 we (nI i)) 93 we (nI j)) 94 we (nI v)) 95 we 1) 96 we 0) 97 we 0) 98 _) 99 _) 81 15 (nI (we + 1)) q = _
          rw [gup_ne (by omega), grw_ne (by omega), grw_ne (by omega), gup_ne (by omega), gup_ne (by omega), gup_ne (by omega), gup_ne (by omega), gup_ne (by omega), gup_ne (by omega)]
          show gup _ _ _ _ q = _
          rw [gup_ne (by omega), gup_ne (by omega), gup_ne (by omega), gup_ne (by omega), gup_ne (by omega)]
        · rfl
        · rfl
        · rfl
        · rfl
        · rfl
        · have L := H1.1.drill (we := we) (p := i) (c := j) (v := v) ywe hwe (by omega) (fun w0 h0 e1 e2 e3 e4 => by
            have e1 : m.1 81 0 = nI w0 := e1
            have e2 : m.1 81 1 = nI h0 := e2
            have p1 : w0 = w := (nI_eq (by omega) (by omega)).mp (e1.symm.trans x0)
            have p2 : h0 = h9 := (nI_eq (by omega) (by omega)).mp (e2.symm.trans x1)
            rw [p1, p2, zn]; exact hj) (by omega)
          have e1 : fvL m1.1 = fvL m.1 := by
            show fvL (gup (gup (gup (gup (gup m.1 19 we (nI i)) 20 we (nI j)) 21 we (nI v)) 22 we 1) 18 0 (nI (we + 1))) = _
            rw [fvL_far (by decide), fvL_far (by decide), fvL_far (by decide), fvL_far (by decide), fvL_far (by decide)]
          have e2 : fvL (grw (grw (gup (gup (gup (gup (gup (gup m1.1 92 we (nI i)) 93 we (nI j)) 94 we (nI v)) 95 we 1) 96 we 0) 97 we 0) 98 (gst_ (m1.1 98) (9 * we) 9 0)) 99 (gst_ (m1.1 99) (60 * we) 60 0)) = grw (grw (gup (gup (gup (gup (gup (gup (fvL m.1) 14 we (nI i)) 15 we (nI j)) 16 we (nI v)) 17 we 1) 18 we 0) 19 we 0) 20 (gst_ (m1.1 98) (9 * we) 9 0)) 21 (gst_ (m1.1 99) (60 * we) 60 0) := by
            rw [fvL_g99, fvL_g98, fvL_r97, fvL_r96, fvL_r95, fvL_r94, fvL_r93, fvL_r92, e1]
          refine FRel.cong (fun sel hs => ?_) (fun k hk => ?_) (FRel.blk (fun k hk => ?_) L)
          · funext k
            show fvL (gup _ 81 15 _) sel k = _
            rw [fvL_s15, if_neg (by omega), e2]
            exact (gup_row (a := 22) (by omega)).symm
          · show fvL (gup _ 81 15 _) 22 k = _
            rw [fvL_s15, e2, gup_all _ 22 4]
            simp only [Nat.le_refl, true_and]
            rfl
          · show gup (grw (grw (gup (gup (gup (gup (gup (gup m1.1 92 we (nI i)) 93 we (nI j)) 94 we (nI v)) 95 we 1) 96 we 0) 97 we 0) 98 _) 99 _) 81 15 (nI (we + 1)) (1 + k) = _
            rw [gup_ne (by omega), grw_ne (by omega), grw_ne (by omega), gup_ne (by omega), gup_ne (by omega), gup_ne (by omega), gup_ne (by omega), gup_ne (by omega), gup_ne (by omega)]
            show gup (gup (gup (gup (gup m.1 (1 + 18) we (nI i)) (1 + 19) we (nI j)) (1 + 20) we (nI v)) (1 + 21) we 1) (1 + 17) 0 (nI (we + 1)) (1 + k) = _
            have g1 := congrFun (gblk (gup (gup (gup (gup m.1 (1 + 18) we (nI i)) (1 + 19) we (nI j)) (1 + 20) we (nI v)) (1 + 21) we 1) 1 17 0 (nI (we + 1))) k
            rw [gblk, gblk, gblk, gblk] at g1
            exact g1
    · have e10 : we = 10 := by omega
      subst e10
      have n0' : ¬ (0 : Int32) < 0 := by decide
      refine gBoth.same (-3) I ?_ ?_
      · unfold f_OT_drill f_Wells_add
        simp (disch := omega) only [gfd_eq, glet_eq, gbind_eq, nI_ltI, nI_1, gok_nI, grd_nI, nI_clamp, if_true, if_false, Nat.lt_irrefl, a1, a2, a3, v1, ywe, q10, i10, gokT]
      · unfold f_MO_drill
        simp (disch := omega) only [gfd_eq, glet_eq, gbind_eq, nI_ltI, nI_1, gok_nI, grd_nI, nI_clamp, if_true, if_false, Nat.lt_irrefl, b1, b2, b3, hgv, v2, n0', xwe, q10, i10, gokT]
  · refine gBoth.same (-2) I ?_ ?_
    · unfold f_OT_drill
      simp (disch := omega) only [gfd_eq, glet_eq, gbind_eq, nI_ltI, nI_1, gok_nI, grd_nI, nI_clamp, if_true, if_false, Nat.lt_irrefl, a1, a2, a3, v1, h0, i10, gokT]
    · unfold f_MO_drill
      simp (disch := omega) only [gfd_eq, glet_eq, gbind_eq, nI_ltI, nI_1, gok_nI, grd_nI, nI_clamp, if_true, if_false, Nat.lt_irrefl, b1, b2, b3, hgv, v2, h1, i10, gokT]
