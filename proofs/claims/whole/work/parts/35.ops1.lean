/-! ===== calls: person, spot, fault, end ===== -/
/-- a call, on both sides -/
def gBoth (n K : Nat) (f g : gM → Option (Int32 × gM)) (m : gM) : Prop := ∃ (v : Int32) (m1 m2 : gM), f m = some (v, m1) ∧ g m1 = some (v, m2) ∧ Inv (n + 1) K m2.1
theorem gBoth.same {n K : Nat} {f g : gM → Option (Int32 × gM)} {m : gM} (v : Int32) (H : Inv n K m.1) (hf : f m = some (v, m)) (hg : g m = some (v, m)) : gBoth n K f g m := ⟨v, m, m, hf, hg, H.mono (Nat.le_succ n)⟩
theorem p_person {n K : Nat} {m : gM} (H : Inv n K m.1) : gBoth n K f_OT_person f_MO_person m := by
  obtain ⟨hF, ⟨np, hnp, p1, p2, p3, p4⟩, hT, hL, hS, hK⟩ := H.mono (Nat.le_succ n)
  by_cases h : np < 6
  · have hv : nI np + 1 - 1 = nI np := by rw [nI_1]; exact nI_pred np
    refine ⟨nI np, gsf m 0 3 (nI np + 1), gsf (gsf m 0 3 (nI np + 1)) 81 8 (nI np + 1), ?_, ?_, ?_⟩
    · unfold f_OT_person
      rw [gfd_eq, p1, if_pos (show nI np < (6 : Int32) from nI_lt h (by decide)), glet_eq]
      show some (nI np + 1 - 1, _) = _
      rw [hv]
    · unfold f_MO_person
      have e : gfd (gsf m 0 3 (nI np + 1)) 81 8 = nI np := p2
      rw [e, if_neg (show ¬ nI np = (6 : Int32) from fun z => by have := (nI_eq (b := 6) (by omega) (by decide)).mp z; omega), glet_eq]
      show some (nI np + 1 - 1, _) = _
      rw [hv]
    · refine ⟨?_, ⟨np + 1, by omega, by rw [← nI_1]; rfl, by rw [← nI_1]; rfl, p3, p4⟩, hT, hL, hS, hK.frame rfl rfl rfl (fun p hp => ?_)⟩
      · show FRel _ (fun j => gup (gup m.1 0 3 _) 81 8 _ (1 + j)) (fvL (gup (gup m.1 0 3 _) 81 8 _))
        rw [fvL_81 (by decide), fvL_far (by decide)]
        exact FRel.blk (fun j hj => by rw [gup_ne (by omega), gup_ne (by omega)]) hF
      · show gup (gup m.1 0 3 _) 81 8 _ p = _
        rw [gup_ne (by omega), gup_ne (by omega)]
  · have e6 : np = 6 := by omega
    subst e6
    refine gBoth.same (-3) H ?_ ?_
    · unfold f_OT_person
      rw [gfd_eq, p1, if_neg (by decide)]
    · unfold f_MO_person
      rw [gfd_eq, p2, if_pos (show nI 6 = (6 : Int32) from rfl)]
theorem p_fault {n K : Nat} {m : gM} (H : Inv n K m.1) : gBoth n K f_OT_fault f_MO_fault m := by
  have h := H.2.2.1.2.2.2.1
  exact gBoth.same (m.1 34 3) H rfl (by unfold f_MO_fault; rw [gfd_eq, ← h])
theorem p_end {n K : Nat} {m : gM} (x : Int32) (H : Inv n K m.1) : gBoth n K (f_OT_end x) (f_MO_end x) m := by
  obtain ⟨hF, hP, ⟨⟨ts, t0, t1, t2⟩, t3, t4, t5, t6⟩, hL, hS, hK⟩ := H.mono (Nat.le_succ n)
  have hin : f_MO_in x.toInt64 (Int32.toInt64 0) (nI ts).toInt64 = fun m => some (if gib x (ts + 1) = true then 1 else 0, m) := by
    funext m
    have e : nI ts = nI (ts + 1) - 1 := (nI_pred ts).symm
    rw [e, mo_in0 (by omega)]
  have hot : ∀ m' : gM, m'.1 34 0 = nI ts → f_OT_end x m' = if gib x (ts + 1) = true then some (nI ts, gsf m' 34 0 x) else some (-1, m') := by
    intro m' h
    unfold f_OT_end
    rw [gfd_eq, h]
    have := ot_within (x := x) (n := ts) (by omega) m'
    unfold f_OT_within at this
    by_cases h0 : x < 0
    · rw [if_pos h0] at this ⊢
      cases hg : gib x (ts + 1) with
      | false => rfl
      | true => rw [hg] at this; cases this
    · rw [if_neg h0] at this ⊢
      by_cases h1 : nI ts < x
      · rw [if_pos h1] at this ⊢
        cases hg : gib x (ts + 1) with
        | false => rfl
        | true => rw [hg] at this; cases this
      · rw [if_neg h1] at this ⊢
        cases hg : gib x (ts + 1) with
        | true => rfl
        | false => rw [hg] at this; cases this
  have hmo : ∀ m' : gM, m'.1 81 37 = nI ts → f_MO_end x m' = if gib x (ts + 1) = true then some (nI ts, gsf m' 81 37 x) else some (-1, m') := by
    intro m' h
    unfold f_MO_end
    rw [gfd_eq, h, hin, gbind_eq]
    show (if (if gib x (ts + 1) = true then (1 : Int32) else 0) = 0 then _ else _) = _
    rw [gb01]
    cases gib x (ts + 1)
    · rfl
    · rw [if_pos rfl, glet_eq, glet_eq, gfd_eq, h]
      rfl
  rcases gib_cases x (ts + 1) with hg | ⟨j, hj, rfl, hj2⟩
  · refine gBoth.same (-1) H ?_ ?_
    · rw [hot m t1, hg]; rfl
    · rw [hmo m t2, hg]; rfl
  · have hg : gib (nI j) (ts + 1) = true := gib_iff.mpr ⟨j, hj, rfl, hj2⟩
    refine ⟨nI ts, gsf m 34 0 (nI j), gsf (gsf m 34 0 (nI j)) 81 37 (nI j), ?_, ?_, ?_⟩
    · rw [hot m t1, hg]; rfl
    · rw [hmo (gsf m 34 0 (nI j)) t2, hg]; rfl
    · refine ⟨?_, hP, ⟨⟨j, by omega, rfl, rfl⟩, t3, t4, t5, t6⟩, hL, hS, hK.frame rfl rfl rfl (fun p hp => ?_)⟩
      · show FRel _ (fun j' => gup (gup m.1 34 0 _) 81 37 _ (1 + j')) (fvL (gup (gup m.1 34 0 _) 81 37 _))
        rw [fvL_81 (by decide), fvL_far (by decide)]
        exact FRel.blk (fun j hj => by rw [gup_ne (by omega), gup_ne (by omega)]) hF
      · show gup (gup m.1 34 0 _) 81 37 _ p = _
        rw [gup_ne (by omega), gup_ne (by omega)]
/-- what the field tells of cells and persons -/
theorem FRel.size {n : Nat} {C V : gN} (H : FRel n C V) : ∃ w h : Nat, w * h ≤ 36 ∧ 1 ≤ w * h ∧ C 2 2 = nI (w * h) ∧ V 22 0 = nI w ∧ V 22 1 = nI h := by
  obtain ⟨w, h9, hr, le, we, sd, gs, wt, ol, wp, wc, ww, wo, ws, a1, a2, a3, a4, a5, a6, a7, a8, a9, b1, b2, b3, b4, b5, b6, b7⟩ := H
  have h1 : w * h9 ≤ 6 * 6 := Nat.mul_le_mul a1.2.1 a1.2.2.2.1
  have h2 : 1 * 1 ≤ w * h9 := Nat.mul_le_mul a1.1 a1.2.2.1
  exact ⟨w, h9, h1, h2, a3.2.2.1, a2.1, a2.2.1⟩
theorem p_spot {n K : Nat} {m : gM} (x y : Int32) (H : Inv n K m.1) : gBoth n K (f_OT_spot x y) (f_MO_spot x y) m := by
  obtain ⟨hF, ⟨np, hnp, p1, p2, p3, p4⟩, hT, hL, hS, hK⟩ := H.mono (Nat.le_succ n)
  obtain ⟨w, h, s1, s2, s3, s4, s5⟩ := hF.size
  have s3 : m.1 3 2 = nI (w * h) := s3
  have s4 : m.1 81 0 = nI w := s4
  have s5 : m.1 81 1 = nI h := s5
  have a1 := ot_isPerson (x := x) (n := np) (by omega) p1
  have a2 := ot_hasCell (x := y) (n := w * h) (by omega) s3
  have b1 := mo_isPerson (x := x) (n := np) p2 (by omega)
  have b2 := mo_isCell (x := y) s4 s5 (by omega)
  rcases gib_cases x np with hg | ⟨i, hi, rfl, hi2⟩
  · rw [hg] at a1 b1
    refine gBoth.same (-5) H ?_ ?_
    · unfold f_OT_spot; rw [a1, gbind_eq]; rfl
    · unfold f_MO_spot; rw [b1, gbind_eq]; rfl
  · have hgi : gib (nI i) np = true := gib_iff.mpr ⟨i, hi, rfl, hi2⟩
    rw [hgi] at a1 b1
    rcases gib_cases y (w * h) with hg | ⟨j, hj, rfl, hj2⟩
    · rw [hg] at a2 b2
      refine gBoth.same (-5) H ?_ ?_
      · unfold f_OT_spot; rw [a1, gbind_eq]; show (f_OT_hasCell y m).bind _ = _; rw [a2]; rfl
      · unfold f_MO_spot; rw [b1, gbind_eq]; show (f_MO_isCell y m).bind _ = _; rw [b2]; rfl
    · have hgj : gib (nI j) (w * h) = true := gib_iff.mpr ⟨j, hj, rfl, hj2⟩
      rw [hgj] at a2 b2
      have b1 := mo_isPerson (x := nI i) (n := np) (m := (gup m.1 33 i (nI j), m.2)) p2 (by omega)
      have b2 := mo_isCell (x := nI j) (m := (gup m.1 33 i (nI j), m.2)) s4 s5 (by omega)
      rw [hgi] at b1
      rw [hgj] at b2
      refine ⟨m.1 33 i, (gup m.1 33 i (nI j), m.2), (gup (gup m.1 33 i (nI j)) 104 i (nI j), m.2), ?_, ?_, ?_⟩
      · unfold f_OT_spot
        rw [a1, gbind_eq]
        show (f_OT_hasCell (nI j) m).bind _ = _
        rw [a2, gbind_eq]
        show gok (gib (nI i) 6) (glet (grd m 33 (nI i)) fun v1 => gok (gib (nI i) 6) (glet (gst m 33 (nI i) (nI j)) fun m1 => some (v1, m1))) = _
        rw [gok_nI (by omega) (by decide), glet_eq, gok_nI (by omega) (by decide), glet_eq, grd_nI _ _ (by omega), gst_nI _ _ _ (by omega)]
      · unfold f_MO_spot
        rw [b1, gbind_eq]
        show (f_MO_isCell (nI j) (gup m.1 33 i (nI j), m.2)).bind _ = _
        rw [b2, gbind_eq]
        show gok (gib (nI i) 6) (glet (grd (gup m.1 33 i (nI j), m.2) 104 (nI i)) fun v1 => gok (gib (nI i) 6) (glet (gst (gup m.1 33 i (nI j), m.2) 104 (nI i) (nI j)) fun m1 => some (v1, m1))) = _
        rw [gok_nI (by omega) (by decide), glet_eq, gok_nI (by omega) (by decide), glet_eq, grd_nI _ _ (by omega), gst_nI _ _ _ (by omega)]
        show some (m.1 104 i, _) = some (m.1 33 i, _)
        rw [p3]
      · refine ⟨?_, ⟨np, hnp, p1, p2, ?_, fun p hp => ?_⟩, hT, hL, hS, hK.frame rfl rfl rfl (fun p hp => ?_)⟩
        · show FRel _ (fun j' => gup (gup m.1 33 i (nI j)) 104 i (nI j) (1 + j')) (fvL (gup (gup m.1 33 i (nI j)) 104 i (nI j)))
          rw [fvL_far (by decide), fvL_far (by decide)]
          exact FRel.blk (fun j hj => by rw [gup_ne (by omega), gup_ne (by omega)]) hF
        · show gup (gup m.1 33 i (nI j)) 104 i (nI j) 33 = gup (gup m.1 33 i (nI j)) 104 i (nI j) 104
          rw [gup_ne (by decide), gup_eq, gup_eq, gup_ne (by decide), p3]
        · show gup (gup m.1 33 i (nI j)) 104 i (nI j) 104 p = -4 ∨ ∃ c, c < 36 ∧ gup (gup m.1 33 i (nI j)) 104 i (nI j) 104 p = nI c
          rw [gup_eq, gup_ne (by decide)]
          show (if p = i then nI j else m.1 104 p) = -4 ∨ ∃ c, c < 36 ∧ (if p = i then nI j else m.1 104 p) = nI c
          by_cases hpi : p = i
          · rw [if_pos hpi]; exact Or.inr ⟨j, by omega, rfl⟩
          · rw [if_neg hpi]; exact p4 p hp
        · show gup (gup m.1 33 i (nI j)) 104 i (nI j) p = _
          rw [gup_ne (by omega), gup_ne (by omega)]
