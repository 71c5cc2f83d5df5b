/-! ===== reading calls: told, count, lets ===== -/
theorem gsumP_t {wp f : Nat → Int32} {p : Int32} {n : Nat} (h : wp n = p) : gsumP wp p f (n + 1) = gsumP wp p f n + f n := by
  show gsumP wp p f n + (if wp n = p then f n else 0) = _
  rw [if_pos h]
theorem gsumP_f {wp f : Nat → Int32} {p : Int32} {n : Nat} (h : ¬ wp n = p) : gsumP wp p f (n + 1) = gsumP wp p f n := by
  show gsumP wp p f n + (if wp n = p then f n else 0) = _
  rw [if_neg h, Int32.add_zero]
theorem gsumP_congr {wp f g : Nat → Int32} {p : Int32} {n : Nat} (h : ∀ k, k < n → f k = g k) : gsumP wp p f n = gsumP wp p g n := gsumI_congr fun k hk => by
  show (if wp k = p then f k else 0) = if wp k = p then g k else 0
  rw [h k hk]
theorem pk_l10 {l : Nat} : nI (l + 10) - nI 10 = nI l := by
  rw [pk_sub (by omega), show l + 10 - 10 = l by omega]
theorem mo_told_loop {x1 x2 : Int32} {we : Nat} {v dl : Nat → Int32} {m : gM} (xwe : m.1 81 15 = nI we) (hwe : we ≤ 10) (hh : ∀ k, k < we → f_MO_hotOf (nI k) m = some (v k, m))
    (hb : (∃ l, l < 9 ∧ x2 = nI (l + 10) ∧ (∀ m : gM, f_MO_in x2.toInt64 (Int32.toInt64 10) (Int32.toInt64 18) m = some (1, m)) ∧ dl = fun k => m.1 98 (9 * k + l)) ∨ ((∀ m : gM, f_MO_in x2.toInt64 (Int32.toInt64 10) (Int32.toInt64 18) m = some (0, m)) ∧ dl = fun _ => 0))
    (k_24 : Int32 → Int32 → Int32 → Int32 → Int32 → gM → Option (Int32 × gM)) : L_MO_told_24 x1 x2 k_24 1000 0 0 0 0 0 m = k_24 (gsumP (m.1 92) x1 (fun _ => 1) we) (gsumP (m.1 92) x1 (m.1 96) we) (gsumP (m.1 92) x1 v we) (gsumP (m.1 92) x1 dl we) (nI we) m := by
  unfold L_MO_told_24
  refine gloopS (fun (f : Int32 → Int32 → Int32 → Int32 → Int32 → gM → Option (Int32 × gM)) j (_ : Unit) => f (gsumP (m.1 92) x1 (fun _ => 1) j) (gsumP (m.1 92) x1 (m.1 96) j) (gsumP (m.1 92) x1 v j) (gsumP (m.1 92) x1 dl j) (nI j) m) we (fun _ => ()) _ ?_ ?_ 1000 (by omega)
  · intro g j hj
    by_cases z : m.1 92 j = x1
    · rcases hb with ⟨l, hl, rfl, h1, rfl⟩ | ⟨h1, rfl⟩
      · simp (disch := omega) only [gfd_eq, glet_eq, gbind_eq, nI_ltI, nI_1, gok_nI, grd_nI, nI_clamp, if_true, if_false, Nat.lt_irrefl, xwe, hj, z, hh j hj, h1, i10]
        simp (disch := omega) only [gfd_eq, glet_eq, gbind_eq, nI_ltI, nI_1, gok_nI, grd_nI, nI_clamp, if_true, if_false, Nat.lt_irrefl, J_MO_told_105, J_MO_told_108, q9, q10, pk_mul, pk_lot', gsumP_t z, i10]
      · simp (disch := omega) only [gfd_eq, glet_eq, gbind_eq, nI_ltI, nI_1, gok_nI, grd_nI, nI_clamp, if_true, if_false, Nat.lt_irrefl, xwe, hj, z, hh j hj, h1, J_MO_told_105, J_MO_told_108, gsumP_t z, i10]
    · simp (disch := omega) only [gfd_eq, glet_eq, gbind_eq, nI_ltI, nI_1, gok_nI, grd_nI, nI_clamp, if_true, if_false, Nat.lt_irrefl, xwe, hj, z, J_MO_told_108, gsumP_f z, i10]
  · intro g
    simp (disch := omega) only [gfd_eq, glet_eq, gbind_eq, nI_ltI, nI_1, gok_nI, grd_nI, nI_clamp, if_true, if_false, Nat.lt_irrefl, xwe, i10]
theorem p_told {n0 K : Nat} {m : gM} (x y : Int32) (I : Inv n0 K m.1) : gBoth n0 K (f_OT_told x y) (f_MO_told x y) m := by
  obtain ⟨w, h9, n, hr, le, we, nl, np, ol, wp, wc, ww, wo, ws, ru, fr, nu, vo, F⟩ := I.fx
  obtain ⟨v, v1, v2, v3⟩ := F.hotW
  obtain ⟨⟨zn, z1, z36, zw, zh, zhr, zle, zwe, znl, znp⟩, ⟨y0, y1, y2, yhr, yle, ywe, ynl, ynp⟩, ⟨x0, x1, xhr, xle, xwe, xnl, xnp⟩, ⟨r6, r7, r8, r10, r11, r13, r14, r15, r16, r17, r19, r20, r21, r22, r28, r29, r30, r31⟩, ⟨ecol, eoil, e9, elot⟩, ⟨fp, fc, fw, fo, fb, fo1, frow, fws⟩, g1, g2, gn⟩ := F
  refine gBoth.ofSame I ?_
  have a1 := ot_isPerson (x := x) (n := np) (by omega) ynp
  have b1 := mo_isPerson (x := x) (n := np) xnp (by omega)
  rcases gib_cases x np with hg | ⟨i, hi, rfl, hi2⟩
  · rw [hg] at a1 b1
    refine ⟨-1, ?_, ?_⟩
    · unfold f_OT_told; rw [a1]; rfl
    · unfold f_MO_told; rw [b1]; rfl
  · rw [gib_iff.mpr ⟨i, hi, rfl, hi2⟩] at a1 b1
    have hh : ∀ k, k < we → f_MO_hotOf (nI k) m = some (v k, m) := fun k hk => (v1 k hk).2
    have c3 : f_Wells_sizeOf 18 (nI i) m = some (gsumP (m.1 92) (nI i) (fun _ => 1) we, m) := by
      have c := cl_sizeOf (a := 18) (p := nI i) (m := m) ywe zwe
      simp only [Nat.reduceAdd, r19] at c
      exact c
    have c4 : f_Wells_oilOf 18 (nI i) m = some (gsumP (m.1 92) (nI i) (m.1 96) we, m) := by
      have c := cl_oilOf (a := 18) (p := nI i) (m := m) ywe zwe
      simp only [Nat.reduceAdd, r19] at c
      rw [c, gsumP_congr (fun k hk => (frow k hk).1)]
    rcases byLot y with ⟨l, hl, rfl, hb⟩ | hb
    · have c5 : f_Wells_oilOfLot 18 (nI i) (nI l) m = some (gsumP (m.1 92) (nI i) (fun k => m.1 98 (9 * k + l)) we, m) := by
        have c := cl_oilOfLot (a := 18) (p := nI i) (m := m) ywe zwe hl
        simp only [Nat.reduceAdd, r19] at c
        rw [c, gsumP_congr (fun k hk => (frow k hk).2.2 l hl)]
      refine ⟨gsumP (m.1 92) (nI i) (fun k => m.1 98 (9 * k + l)) we, ?_, ?_⟩
      · unfold f_OT_told
        simp (disch := omega) only [gfd_eq, glet_eq, gbind_eq, nI_ltI, nI_1, gok_nI, grd_nI, nI_clamp, if_true, if_false, Nat.lt_irrefl, a1, (hb m).1, i10]
        simp (disch := omega) only [gfd_eq, glet_eq, gbind_eq, nI_ltI, nI_1, gok_nI, grd_nI, nI_clamp, if_true, if_false, Nat.lt_irrefl, gswo, q0, q1, q2, q3, q4, q5, q6, ne10, q10, pk_l10, c5, i10]
      · unfold f_MO_told
        simp (disch := omega) only [gfd_eq, glet_eq, gbind_eq, nI_ltI, nI_1, gok_nI, grd_nI, nI_clamp, if_true, if_false, Nat.lt_irrefl, b1, i10]
        rw [mo_told_loop xwe zwe hh (Or.inl ⟨l, hl, rfl, fun m => (hb m).2, rfl⟩)]
        simp (disch := omega) only [gfd_eq, glet_eq, gbind_eq, nI_ltI, nI_1, gok_nI, grd_nI, nI_clamp, if_true, if_false, Nat.lt_irrefl, J_MO_told_114, (hb m).2, i10]
    · refine gSame.of (o := gswo y [(0, some (m.1 100 i, m)), (1, some (m.1 101 i, m)), (2, some (m.1 102 i, m)), (3, some (gsumP (m.1 92) (nI i) (fun _ => 1) we, m)), (4, some (gsumP (m.1 92) (nI i) (m.1 96) we, m)), (5, some (gsumP (m.1 92) (nI i) v we, m)), (6, some (gmax 0 (m.1 101 i - (gsumP (m.1 92) (nI i) (m.1 96) we - gsumP (m.1 92) (nI i) v we)), m))] (some (-1, m))) ?_ ?_ (gsw_c ⟨_, rfl⟩ (gsw_c ⟨_, rfl⟩ (gsw_c ⟨_, rfl⟩ (gsw_c ⟨_, rfl⟩ (gsw_c ⟨_, rfl⟩ (gsw_c ⟨_, rfl⟩ (gsw_c ⟨_, rfl⟩ (gsw_n ⟨_, rfl⟩))))))))
      · unfold f_OT_told
        simp (disch := omega) only [gfd_eq, glet_eq, gbind_eq, nI_ltI, nI_1, gok_nI, grd_nI, nI_clamp, if_true, if_false, Nat.lt_irrefl, a1, (hb m).1, c3, c4, v3 (nI i), r28, r29, r30, i10]
      · unfold f_MO_told
        simp (disch := omega) only [gfd_eq, glet_eq, gbind_eq, nI_ltI, nI_1, gok_nI, grd_nI, nI_clamp, if_true, if_false, Nat.lt_irrefl, b1, i10]
        rw [mo_told_loop xwe zwe hh (Or.inr ⟨fun m => (hb m).2, rfl⟩)]
        simp (disch := omega) only [gfd_eq, glet_eq, gbind_eq, nI_ltI, nI_1, gok_nI, grd_nI, nI_clamp, if_true, if_false, Nat.lt_irrefl, J_MO_told_114, (hb m).2, gmax0, i10]
theorem mo_cells {w h9 n : Nat} {m : gM} (x0 : m.1 81 0 = nI w) (x1 : m.1 81 1 = nI h9) (zn : w * h9 = n) : f_MO_cells m = some (nI n, m) := by
  unfold f_MO_cells
  simp (disch := omega) only [gfd_eq, glet_eq, gbind_eq, nI_ltI, nI_1, gok_nI, grd_nI, nI_clamp, if_true, if_false, Nat.lt_irrefl, x0, x1, pk_mul, zn, i10]
theorem mo_count1 {n : Nat} {ol : Nat → Nat} {m : gM} (hn : n ≤ 36) (hc : f_MO_cells m = some (nI n, m)) (eoil : m.1 86 = fun i => nI (ol i)) (k : Int32 → Int32 → Int32 → gM → Option (Int32 × gM)) : L_MO_count_13 k 1000 0 0 0 m = k (gsumI (fun c => nI (osum ol c)) n) (gsumI (m.1 84) n) (nI n) m := by
  unfold L_MO_count_13
  refine gloopS (fun (f : Int32 → Int32 → Int32 → gM → Option (Int32 × gM)) j (_ : Unit) => f (gsumI (fun c => nI (osum ol c)) j) (gsumI (m.1 84) j) (nI j) m) n (fun _ => ()) _ ?_ ?_ 1000 (by omega)
  · intro g j hj
    simp (disch := omega) only [gfd_eq, glet_eq, gbind_eq, nI_ltI, nI_1, gok_nI, grd_nI, nI_clamp, if_true, if_false, Nat.lt_irrefl, hc, hj, mo_oilOf (c := j) (by omega) eoil, i10]
    rfl
  · intro g
    simp (disch := omega) only [gfd_eq, glet_eq, gbind_eq, nI_ltI, nI_1, gok_nI, grd_nI, nI_clamp, if_true, if_false, Nat.lt_irrefl, hc, i10]
theorem mo_count2 {m : gM} (k : Int32 → Int32 → Int32 → Option (Int32 × gM)) : L_MO_count_50 m k 1000 0 0 0 = k (gsumI (m.1 100) 6) (gsumI (m.1 101) 6) (nI 6) := by
  unfold L_MO_count_50
  refine gloopS (fun (f : Int32 → Int32 → Int32 → Option (Int32 × gM)) j (_ : Unit) => f (gsumI (m.1 100) j) (gsumI (m.1 101) j) (nI j)) 6 (fun _ => ()) _ ?_ ?_ 1000 (by omega)
  · intro g j hj
    simp (disch := omega) only [gfd_eq, glet_eq, gbind_eq, nI_ltI, nI_1, gok_nI, grd_nI, nI_clamp, if_true, if_false, Nat.lt_irrefl, hj, q6, i10]
    rfl
  · intro g
    simp (disch := omega) only [gfd_eq, glet_eq, gbind_eq, nI_ltI, nI_1, gok_nI, grd_nI, nI_clamp, if_true, if_false, Nat.lt_irrefl, q6, i10]
theorem gib04 : gib (0 : Int32) 4 = true := by decide
theorem grd_0 (m : gM) (a : Nat) : grd m a 0 = m.1 a 0 := rfl
theorem gif_some {c : Prop} [Decidable c] {a b : Int32} {m : gM} : (if c then some (a, m) else some (b, m)) = some (if c then a else b, m) := by
  split <;> rfl
theorem p_count {n0 K : Nat} {m : gM} (x : Int32) (I : Inv n0 K m.1) : gBoth n0 K (f_OT_count x) (f_MO_count x) m := by
  obtain ⟨w, h9, n, hr, le, we, nl, np, ol, wp, wc, ww, wo, ws, ru, fr, nu, vo, F⟩ := I.fx
  obtain ⟨v, v1, v2, v3⟩ := F.hotW
  obtain ⟨⟨zn, z1, z36, zw, zh, zhr, zle, zwe, znl, znp⟩, ⟨y0, y1, y2, yhr, yle, ywe, ynl, ynp⟩, ⟨x0, x1, xhr, xle, xwe, xnl, xnp⟩, ⟨r6, r7, r8, r10, r11, r13, r14, r15, r16, r17, r19, r20, r21, r22, r28, r29, r30, r31⟩, ⟨ecol, eoil, e9, elot⟩, ⟨fp, fc, fw, fo, fb, fo1, frow, fws⟩, g1, g2, gn⟩ := F
  have I0 := I
  obtain ⟨-, -, ⟨⟨ts, -, t1, t2⟩, -⟩, -, ⟨⟨s1, -, ⟨sz, -, s2, s3⟩, -⟩, -⟩, -, k1, k2, -⟩ := I
  refine gBoth.ofSame I0 ?_
  have hc := mo_cells x0 x1 zn
  have s1 : m.1 73 0 = m.1 125 0 := s1
  have s2 : m.1 73 1 = nI sz := s2
  have c1 := cl_sumCells (a := 3) (p := 9) (m := m) z36 y2
  have c2 := cl_sumCells (a := 3) (p := 8) (m := m) z36 y2
  have c8 := cl_sumPers (p := 28) (m := m)
  have c9 := cl_sumPers (p := 29) (m := m)
  rw [e9] at c1
  rw [r8] at c2
  rw [r28] at c8
  rw [r29] at c9
  refine gSame.of (o := gswo x [(0, some (nI n, m)), (1, some (gsumI (fun c => nI (osum ol c)) n, m)), (2, some (gsumI (m.1 84) n, m)), (3, some (nI np, m)), (4, some (nI le, m)), (5, some (nI we, m)), (6, some (nI nl, m)), (7, some (nI hr, m)), (8, some (gsumI (m.1 100) 6, m)), (9, some (gsumI (m.1 101) 6, m)), (10, some (gsumI v we, m)), (11, some (nI K, m)), (12, some (nI ts, m)), (13, some (if m.1 125 0 = -4 then -4 else nI sz, m))] (some (-1, m))) ?_ ?_ (gsw_c ⟨_, rfl⟩ (gsw_c ⟨_, rfl⟩ (gsw_c ⟨_, rfl⟩ (gsw_c ⟨_, rfl⟩ (gsw_c ⟨_, rfl⟩ (gsw_c ⟨_, rfl⟩ (gsw_c ⟨_, rfl⟩ (gsw_c ⟨_, rfl⟩ (gsw_c ⟨_, rfl⟩ (gsw_c ⟨_, rfl⟩ (gsw_c ⟨_, rfl⟩ (gsw_c ⟨_, rfl⟩ (gsw_c ⟨_, rfl⟩ (gsw_c ⟨_, rfl⟩ (gsw_n ⟨_, rfl⟩)))))))))))))))
  · unfold f_OT_count f_Pool_allOil f_Pool_allWater f_Books_allInTanks f_Books_allSold
    simp (disch := omega) only [gfd_eq, glet_eq, gbind_eq, nI_ltI, nI_1, gok_nI, grd_nI, nI_clamp, if_true, if_false, Nat.lt_irrefl, c1, c2, c8, c9, y2, ynp, yle, ywe, ynl, yhr, v2.1, k1, t1, s1, s2, gib04, gok_T, gif_some, Nat.reduceAdd, i10]
  · unfold f_MO_count
    rw [mo_count1 z36 hc eoil]
    unfold J_MO_count_47
    rw [mo_count2]
    simp (disch := omega) only [gfd_eq, glet_eq, gbind_eq, nI_ltI, nI_1, gok_nI, grd_nI, nI_clamp, if_true, if_false, Nat.lt_irrefl, J_MO_count_87, hc, xnp, xle, xwe, xnl, xhr, v2.2, k2, t2, s3, gib04, gok_T, gif_some, grd_0, i10]
