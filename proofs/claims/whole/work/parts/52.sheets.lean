/-! ===== sheets: sheet, write ===== -/
theorem gokT {R : Type} (o : Option R) : gok true o = o := (fun (h : o = o) => h) rfl
theorem q72 : (72 : Int32) = nI 72 := rfl
theorem fvL_cong {N N' : gN} (h : ∀ q, 81 ≤ q → q < 104 → N' q = N q) : fvL N' = fvL N := by
  unfold fvL
  rw [h 81 (by decide) (by decide), h 82 (by decide) (by decide), h 83 (by decide) (by decide), h 84 (by decide) (by decide), h 85 (by decide) (by decide), h 86 (by decide) (by decide), h 87 (by decide) (by decide), h 88 (by decide) (by decide), h 89 (by decide) (by decide), h 90 (by decide) (by decide), h 91 (by decide) (by decide), h 92 (by decide) (by decide), h 93 (by decide) (by decide), h 94 (by decide) (by decide), h 95 (by decide) (by decide), h 96 (by decide) (by decide), h 97 (by decide) (by decide), h 98 (by decide) (by decide), h 99 (by decide) (by decide), h 100 (by decide) (by decide), h 101 (by decide) (by decide), h 102 (by decide) (by decide), h 103 (by decide) (by decide)]
/-- a call that touches the sheets alone -/
theorem Inv.shs {n K : Nat} {N N' : gN} (H : Inv n K N) (r : ∀ q, q < 73 ∨ (81 ≤ q ∧ q < 125) ∨ 128 ≤ q → N' q = N q) (hS : ∀ k, k < 4 → GSheet N' k) : Inv n K N' := by
  obtain ⟨hF, hP, hT, hL, -, hK⟩ := H
  refine ⟨?_, ?_, ?_, ?_, ⟨hS 0 (by decide), hS 1 (by decide), hS 2 (by decide), hS 3 (by decide)⟩, hK.frame (by rw [r 0 (by omega)]) (by rw [r 81 (by omega)]) (r 123 (by omega)) (fun q hq => r q (by omega))⟩
  · rw [fvL_cong (N := N) (fun q h1 h2 => r q (by omega))]
    exact FRel.blk (fun j hj => r (1 + j) (by omega)) hF
  · unfold GPers at hP ⊢
    rw [r 0 (by omega), r 81 (by omega), r 33 (by omega), r 104 (by omega)]
    exact hP
  · unfold GTape at hT ⊢
    rw [r 34 (by omega), r 81 (by omega), r 35 (by omega), r 112 (by omega), r 113 (by omega), r 114 (by omega), r 115 (by omega)]
    exact hT
  · unfold GLaw at hL ⊢
    rw [r 41 (by omega), r 81 (by omega), r 42 (by omega), r 43 (by omega), r 44 (by omega), r 45 (by omega), r 116 (by omega), r 117 (by omega), r 118 (by omega), r 119 (by omega), r 40 (by omega)]
    exact hL
theorem Inv.sheet_at {n K : Nat} {N : gN} (H : Inv n K N) {k : Nat} (hk : k < 4) : GSheet N k := by
  have h := H.2.2.2.2.1
  match k, hk with
  | 0, _ => exact h.1
  | 1, _ => exact h.2.1
  | 2, _ => exact h.2.2.1
  | 3, _ => exact h.2.2.2
theorem gfil_ne {m : gM} {a n p : Nat} {x : Int32} (h : p ≠ a) : (gfil m a n x).1 p = m.1 p := by
  funext q
  show (if p = a ∧ q < n then x else m.1 p q) = _
  rw [if_neg (fun z => h z.1)]
theorem gfil_at {m : gM} {a n : Nat} {x : Int32} {q : Nat} : (gfil m a n x).1 a q = if q < n then x else m.1 a q := by
  show (if a = a ∧ q < n then x else m.1 a q) = _
  by_cases h : q < n
  · rw [if_pos ⟨rfl, h⟩, if_pos h]
  · rw [if_neg (fun z => h z.2), if_neg h]
theorem mo_sheetL {i : Nat} (hi : i < 4) (m : gM) : L_MO_sheet_56 (nI i) 1000 0 m = some (1, (grw m.1 127 (gst_ (m.1 127) (72 * i) 72 0), m.2)) := by
  unfold L_MO_sheet_56
  refine gloopS0 (fun (f : Int32 → gM → Option (Int32 × gM)) j (s : gM) => f (nI j) s) 72 (fun j => (grw m.1 127 (gst_ (m.1 127) (72 * i) j 0), m.2)) _ ?_ ?_ ?_ 1000 (by omega)
  · show (grw m.1 127 (gst_ (m.1 127) (72 * i) 0 0), m.2) = m
    rw [gst_0, grw_id]
  · intro g j hj
    simp (disch := omega) only [gfd_eq, glet_eq, gbind_eq, nI_ltI, nI_1, gok_nI, grd_nI, nI_clamp, if_true, if_false, Nat.lt_irrefl, hj, q72, pk_mul, nI_add, gst_nI, Nat.reduceAdd, i10]
    rw [gup_fill]
  · intro g
    simp (disch := omega) only [gfd_eq, glet_eq, gbind_eq, nI_ltI, nI_1, gok_nI, grd_nI, nI_clamp, if_true, if_false, Nat.lt_irrefl, q72, i10]
theorem sheet_inv {n0 K i la s : Nat} {m : gM} {N1 : gN} (I : Inv n0 K m.1) (hi : i < 4) (hla : la < 3) (hs : s ≤ 72) (e1 : ∀ q, q ≠ 73 + 2 * i → q ≠ 73 + 2 * i + 1 → N1 q = m.1 q) (f0 : N1 (73 + 2 * i) 0 = nI la) (f1 : N1 (73 + 2 * i) 1 = nI s) (f2 : ∀ q, q < 72 → N1 (74 + 2 * i) q = 0) : Inv (n0 + 1) K (grw (gup (gup N1 125 i (nI la)) 126 i (nI s)) 127 (gst_ (gup (gup N1 125 i (nI la)) 126 i (nI s) 127) (72 * i) 72 0)) := by
  have e127 : gup (gup N1 125 i (nI la)) 126 i (nI s) 127 = m.1 127 := by rw [gup_ne (by decide), gup_ne (by decide), e1 127 (by omega) (by omega)]
  rw [e127]
  have r127 : grw (gup (gup N1 125 i (nI la)) 126 i (nI s)) 127 (gst_ (m.1 127) (72 * i) 72 0) 127 = gst_ (m.1 127) (72 * i) 72 0 := grw_eq _ _ _
  have r126 : grw (gup (gup N1 125 i (nI la)) 126 i (nI s)) 127 (gst_ (m.1 127) (72 * i) 72 0) 126 = fun q => if q = i then nI s else m.1 126 q := by
    rw [grw_ne (by decide), gup_eq, gup_ne (by decide), e1 126 (by omega) (by omega)]
  have r125 : grw (gup (gup N1 125 i (nI la)) 126 i (nI s)) 127 (gst_ (m.1 127) (72 * i) 72 0) 125 = fun q => if q = i then nI la else m.1 125 q := by
    rw [grw_ne (by decide), gup_ne (by decide), gup_eq, e1 125 (by omega) (by omega)]
  have ro : ∀ q, q < 125 ∨ 128 ≤ q → grw (gup (gup N1 125 i (nI la)) 126 i (nI s)) 127 (gst_ (m.1 127) (72 * i) 72 0) q = N1 q := by
    intro q hq
    rw [grw_ne (by omega), gup_ne (by omega), gup_ne (by omega)]
  generalize grw (gup (gup N1 125 i (nI la)) 126 i (nI s)) 127 (gst_ (m.1 127) (72 * i) 72 0) = N2 at r127 r126 r125 ro ⊢
  refine (I.mono (Nat.le_succ n0)).shs (fun q hq => ?_) (fun k hk => ?_)
  · rw [ro q (by omega)]
    exact e1 q (by omega) (by omega)
  · have G := I.sheet_at hk
    unfold GSheet at G ⊢
    rw [r125, r126, r127, ro (73 + 2 * k) (by omega), ro (74 + 2 * k) (by omega)]
    by_cases e : k = i
    · subst e
      refine ⟨?_, Or.inr ⟨la, hla, if_pos rfl⟩, ⟨s, hs, f1, if_pos rfl⟩, fun q hq => ?_⟩
      · rw [f0]; exact (if_pos rfl).symm
      · rw [f2 q hq]
        unfold gst_
        rw [if_pos (by omega)]
    · rw [e1 _ (by omega) (by omega), e1 _ (by omega) (by omega)]
      refine ⟨G.1.trans (if_neg e).symm, ?_, ?_, fun q hq => ?_⟩
      · show (if k = i then nI la else m.1 125 k) = -4 ∨ ∃ la', la' < 3 ∧ (if k = i then nI la else m.1 125 k) = nI la'
        rw [if_neg e]; exact G.2.1
      · obtain ⟨sz, z1, z2, z3⟩ := G.2.2.1
        exact ⟨sz, z1, z2, (if_neg e).trans z3⟩
      · unfold gst_
        rw [if_neg (by omega)]
        exact G.2.2.2 q hq
theorem p_sheet {n0 K : Nat} {m : gM} (x y z : Int32) (I : Inv n0 K m.1) : gBoth n0 K (f_OT_sheet x y z) (f_MO_sheet x y z) m := by
  have a1 := ot_isSheet x m
  have a2 := ot_isLane y m
  have b1 : ∀ m : gM, f_MO_in x.toInt64 (Int32.toInt64 0) (Int32.toInt64 3) m = _ := fun m => mo_in_n (x := x) (n := 3) (by omega) m
  have b2 : ∀ m : gM, f_MO_in y.toInt64 (Int32.toInt64 0) (Int32.toInt64 2) m = _ := fun m => mo_in_n (x := y) (n := 2) (by omega) m
  rcases gib_cases x 4 with hg | ⟨i, hi, rfl, hi2⟩
  · rw [hg] at a1
    refine gBoth.same (-1) I ?_ ?_
    · unfold f_OT_sheet; rw [a1]; rfl
    · unfold f_MO_sheet
      simp (disch := omega) only [gfd_eq, glet_eq, gbind_eq, nI_ltI, nI_1, gok_nI, grd_nI, nI_clamp, if_true, if_false, Nat.lt_irrefl, b1, hg, Bool.false_eq_true, i10]
  have hgi := gib_iff.mpr ⟨i, hi, rfl, hi2⟩
  rw [hgi] at a1
  rcases gib_cases y 3 with hg | ⟨la, hla, rfl, hla2⟩
  · rw [hg] at a2
    refine gBoth.same (-1) I ?_ ?_
    · unfold f_OT_sheet
      simp (disch := omega) only [gfd_eq, glet_eq, gbind_eq, nI_ltI, nI_1, gok_nI, grd_nI, nI_clamp, if_true, if_false, Nat.lt_irrefl, a1, a2, Bool.false_eq_true, i10]
    · unfold f_MO_sheet
      simp (disch := omega) only [gfd_eq, glet_eq, gbind_eq, nI_ltI, nI_1, gok_nI, grd_nI, nI_clamp, if_true, if_false, Nat.lt_irrefl, b1, hgi, b2, hg, Bool.false_eq_true, i10]
  have hgl := gib_iff.mpr ⟨la, hla, rfl, hla2⟩
  rw [hgl] at a2
  by_cases h72 : (72 : Int32) < z
  · refine gBoth.same (-1) I ?_ ?_
    · unfold f_OT_sheet
      simp (disch := omega) only [gfd_eq, glet_eq, gbind_eq, nI_ltI, nI_1, gok_nI, grd_nI, nI_clamp, if_true, if_false, Nat.lt_irrefl, a1, a2, h72, i10]
    · unfold f_MO_sheet
      simp (disch := omega) only [gfd_eq, glet_eq, gbind_eq, nI_ltI, nI_1, gok_nI, grd_nI, nI_clamp, if_true, if_false, Nat.lt_irrefl, b1, hgi, b2, hgl, h72, i10]
  by_cases h0 : z < 0
  · refine gBoth.same (-14) I ?_ ?_
    · unfold f_OT_sheet
      simp (disch := omega) only [gfd_eq, glet_eq, gbind_eq, nI_ltI, nI_1, gok_nI, grd_nI, nI_clamp, if_true, if_false, Nat.lt_irrefl, a1, a2, h72, h0, i10]
    · unfold f_MO_sheet
      simp (disch := omega) only [gfd_eq, glet_eq, gbind_eq, nI_ltI, nI_1, gok_nI, grd_nI, nI_clamp, if_true, if_false, Nat.lt_irrefl, b1, hgi, b2, hgl, h72, h0, i10]
  obtain ⟨s, hs, rfl⟩ := nI_of h0
  have hs72 : s ≤ 72 := by
    rcases Nat.lt_or_ge 72 s with q | q
    · exact absurd (nI_lt (a := 72) q hs) h72
    · exact q
  let m1 : gM := gfil (gsf (gsf m (73 + 2 * i) 0 (nI la)) (73 + 2 * i) 1 (nI s)) (73 + 2 * i + 1) 72 0
  have c1 : f_Sheet_becomeNew (73 + 2 * i) (nI la) (nI s) m = some m1 := by
    unfold f_Sheet_becomeNew
    rw [glet_eq, glet_eq, f_fill_eq _ _ _ _ (by decide), gbind_eq]
  have c2 := mo_sheetL (i := i) hi (gup (gup m1.1 125 i (nI la)) 126 i (nI s), m1.2)
  refine ⟨1, m1, (grw (gup (gup m1.1 125 i (nI la)) 126 i (nI s)) 127 (gst_ (gup (gup m1.1 125 i (nI la)) 126 i (nI s) 127) (72 * i) 72 0), m1.2), ?_, ?_, ?_⟩
  · unfold f_OT_sheet
    simp (disch := omega) only [gfd_eq, glet_eq, gbind_eq, nI_ltI, nI_1, gok_nI, grd_nI, nI_clamp, if_true, if_false, Nat.lt_irrefl, a1, a2, h72, h0, c1, i10]
  · unfold f_MO_sheet
    simp (disch := omega) only [gfd_eq, glet_eq, gbind_eq, nI_ltI, nI_1, gok_nI, grd_nI, nI_clamp, if_true, if_false, Nat.lt_irrefl, b1, hgi, b2, hgl, h72, h0, gst_nI, c2, gokT, i10]
  · have e1 : ∀ q, q ≠ 73 + 2 * i → q ≠ 73 + 2 * i + 1 → m1.1 q = m.1 q := by
      intro q h1 h2
      show (gfil _ _ _ _).1 q = _
      rw [gfil_ne h2]
      show gup (gup m.1 _ _ _) _ _ _ q = _
      rw [gup_ne h1, gup_ne h1]
    have f0 : m1.1 (73 + 2 * i) 0 = nI la := by
      show (gfil _ _ _ _).1 _ _ = _
      rw [gfil_ne (by omega)]
      show gup (gup m.1 _ _ _) _ _ _ _ _ = _
      rw [gup_col (by decide), gup_at]
    have f1 : m1.1 (73 + 2 * i) 1 = nI s := by
      show (gfil _ _ _ _).1 _ _ = _
      rw [gfil_ne (by omega)]
      exact gup_at _ _ _ _
    have f2 : ∀ q, q < 72 → m1.1 (74 + 2 * i) q = 0 := by
      intro q hq
      show (gfil _ (73 + 2 * i + 1) 72 0).1 (74 + 2 * i) q = _
      rw [show 74 + 2 * i = 73 + 2 * i + 1 by omega, gfil_at, if_pos hq]
    exact sheet_inv I hi hla hs72 e1 f0 f1 f2
theorem sx8 (x : Int32) : (x <<< ((24 : Int32) &&& 31)) >>> ((24 : Int32) &&& 31) = x.toInt8.toInt32 := by
  apply Int32.toBitVec_inj.mp
  rw [Int32.toBitVec_shiftRight, Int32.toBitVec_shiftLeft, Int8.toBitVec_toInt32, Int32.toBitVec_toInt8]
  have h : (((24 : Int32) &&& 31).toBitVec.smod 32) = 24#32 := by decide
  rw [h]
  show (x.toBitVec <<< (24#32).toNat).sshiftRight (24#32).toNat = _
  have h2 : (24#32).toNat = 24 := by decide
  rw [h2]
  apply BitVec.eq_of_getLsbD_eq
  intro i hi
  rw [BitVec.getLsbD_sshiftRight, BitVec.getLsbD_signExtend]
  simp only [BitVec.getLsbD_shiftLeft, BitVec.getLsbD_signExtend, BitVec.msb_eq_getLsbD_last]
  by_cases h8 : i < 8
  · simp [h8, show 24 + i < 32 by omega, hi, show ¬ 32 ≤ i by omega, show ¬ 24 + i < 24 by omega]
  · simp [h8, show ¬ 24 + i < 32 by omega, hi]
theorem sx16 (x : Int32) : (x <<< ((16 : Int32) &&& 31)) >>> ((16 : Int32) &&& 31) = x.toInt16.toInt32 := by
  apply Int32.toBitVec_inj.mp
  rw [Int32.toBitVec_shiftRight, Int32.toBitVec_shiftLeft, Int16.toBitVec_toInt32, Int32.toBitVec_toInt16]
  have h : (((16 : Int32) &&& 31).toBitVec.smod 32) = 16#32 := by decide
  rw [h]
  show (x.toBitVec <<< (16#32).toNat).sshiftRight (16#32).toNat = _
  have h2 : (16#32).toNat = 16 := by decide
  rw [h2]
  apply BitVec.eq_of_getLsbD_eq
  intro i hi
  rw [BitVec.getLsbD_sshiftRight, BitVec.getLsbD_signExtend]
  simp only [BitVec.getLsbD_shiftLeft, BitVec.getLsbD_signExtend, BitVec.msb_eq_getLsbD_last]
  by_cases h8 : i < 16
  · simp [h8, show 16 + i < 32 by omega, hi, show ¬ 32 ≤ i by omega, show ¬ 16 + i < 16 by omega]
  · simp [h8, show ¬ 16 + i < 32 by omega, hi]
/-- what a lane makes of a number -/
def gLane (la : Nat) (x : Int32) : Int32 := if la = 0 then x.toInt8.toInt32 else if la = 1 then x.toInt16.toInt32 else x
theorem eqn1 {k : Nat} (h : k < 2 ^ 31) : (nI k = 1) ↔ k = 1 := nI_eq (b := 1) h (by decide)
theorem eqn0 {k : Nat} (h : k < 2 ^ 31) : (nI k = 0) ↔ k = 0 := nI_eq (b := 0) h (by decide)
theorem cl_put {a la j : Nat} {x : Int32} {m : gM} (h : m.1 a 0 = nI la) (hla : la < 3) (hj : j < 72) : f_Sheet_put a (nI j) x m = some (gup m.1 (a + 1) j (gLane la x), m.2) := by
  unfold f_Sheet_put J_Sheet_put_31 gLane
  rw [gfd_eq, h]
  match la, hla with
  | 0, _ => simp (disch := omega) only [gfd_eq, glet_eq, gbind_eq, nI_ltI, nI_1, gok_nI, grd_nI, nI_clamp, if_true, if_false, Nat.lt_irrefl, gst_nI, eqn0, i10]
  | 1, _ => simp (disch := omega) only [gfd_eq, glet_eq, gbind_eq, nI_ltI, nI_1, gok_nI, grd_nI, nI_clamp, if_true, if_false, Nat.lt_irrefl, gst_nI, eqn0, eqn1, Nat.succ_ne_zero, i10]
  | 2, _ => simp (disch := omega) only [gfd_eq, glet_eq, gbind_eq, nI_ltI, nI_1, gok_nI, grd_nI, nI_clamp, if_true, if_false, Nat.lt_irrefl, gst_nI, eqn0, eqn1, Nat.succ_ne_zero, show ¬ (2 = 1) by decide, i10]
theorem p_write {n0 K : Nat} {m : gM} (x y z : Int32) (I : Inv n0 K m.1) : gBoth n0 K (f_OT_write x y z) (f_MO_write x y z) m := by
  have a1 := ot_isSheet x m
  have b1 : ∀ m : gM, f_MO_in x.toInt64 (Int32.toInt64 0) (Int32.toInt64 3) m = _ := fun m => mo_in_n (x := x) (n := 3) (by omega) m
  rcases gib_cases x 4 with hg | ⟨i, hi, rfl, hi2⟩
  · rw [hg] at a1
    refine gBoth.same (-1) I ?_ ?_
    · unfold f_OT_write; rw [a1]; rfl
    · unfold f_MO_write; rw [b1, hg]; rfl
  have hgi := gib_iff.mpr ⟨i, hi, rfl, hi2⟩
  rw [hgi] at a1
  obtain ⟨s1, s2, ⟨sz, hsz, s3, s4⟩, s5⟩ := I.sheet_at hi
  rcases s2 with h4 | ⟨la, hla, hl⟩
  · have h4' := s1.trans h4
    refine gBoth.same (-11) I ?_ ?_
    · unfold f_OT_write
      simp (disch := omega) only [gfd_eq, glet_eq, gbind_eq, nI_ltI, nI_1, gok_nI, grd_nI, nI_clamp, if_true, if_false, Nat.lt_irrefl, a1, h4', i10]
    · unfold f_MO_write
      simp (disch := omega) only [gfd_eq, glet_eq, gbind_eq, nI_ltI, nI_1, gok_nI, grd_nI, nI_clamp, if_true, if_false, Nat.lt_irrefl, b1, hgi, h4, gokT, i10]
  have hl' := s1.trans hl
  have hne : ¬ nI la = -4 := nI_ne4 (by omega)
  have b2 : ∀ m : gM, f_MO_in y.toInt64 (Int32.toInt64 0) (nI sz - 1).toInt64 m = _ := fun m => mo_in0 (x := y) (n := sz) (by omega) m
  have a3 := fun (A B : Option (Int32 × gM)) => gchk (x := y) (n := sz) (by omega) (A := A) (B := B)
  rcases gib_cases y sz with hg | ⟨j, hj, rfl, hj2⟩
  · refine gBoth.same (-12) I ?_ ?_
    · unfold f_OT_write
      simp (disch := omega) only [gfd_eq, glet_eq, gbind_eq, nI_ltI, nI_1, gok_nI, grd_nI, nI_clamp, if_true, if_false, Nat.lt_irrefl, a1, hl', hne, s3, a3, hg, Bool.false_eq_true, i10]
    · unfold f_MO_write
      simp (disch := omega) only [gfd_eq, glet_eq, gbind_eq, nI_ltI, nI_1, gok_nI, grd_nI, nI_clamp, if_true, if_false, Nat.lt_irrefl, b1, hgi, hl, hne, s4, b2, hg, Bool.false_eq_true, gokT, i10]
  have hgj := gib_iff.mpr ⟨j, hj, rfl, hj2⟩
  have c1 := cl_put (j := j) (x := z) hl' hla (by omega)
  refine ⟨1, (gup m.1 (73 + 2 * i + 1) j (gLane la z), m.2), (gup (gup m.1 (73 + 2 * i + 1) j (gLane la z)) 127 (72 * i + j) (gLane la z), m.2), ?_, ?_, ?_⟩
  · unfold f_OT_write
    have j0 : ¬ nI j < 0 := nI_pos hj2
    simp (disch := omega) only [gfd_eq, glet_eq, gbind_eq, nI_ltI, nI_1, gok_nI, grd_nI, nI_clamp, if_true, if_false, Nat.lt_irrefl, a1, hl', hne, s3, j0, hj, c1, i10]
  · have e1 : gup m.1 (73 + 2 * i + 1) j (gLane la z) 125 = m.1 125 := gup_ne (by omega)
    have e2 : gup m.1 (73 + 2 * i + 1) j (gLane la z) 126 = m.1 126 := gup_ne (by omega)
    unfold f_MO_write J_MO_write_99
    simp (disch := omega) only [gfd_eq, glet_eq, gbind_eq, nI_ltI, nI_1, gok_nI, grd_nI, nI_clamp, if_true, if_false, Nat.lt_irrefl, b1, hgi, gokT, e1, hl, hne, e2, s4, b2, hgj, sx8, sx16, q72, pk_mul, nI_add, gst_nI, eqn0, eqn1, i10]
    unfold gLane
    match la, hla with
    | 0, _ => rfl
    | 1, _ => rfl
    | 2, _ => rfl
  · refine (I.mono (Nat.le_succ n0)).shs (fun q hq => ?_) (fun k hk => ?_)
    · show gup _ _ _ _ q = _
      rw [gup_ne (by omega), gup_ne (by omega)]
    · have G := I.sheet_at hk
      unfold GSheet at G ⊢
      show gup (gup m.1 (73 + 2 * i + 1) j (gLane la z)) 127 (72 * i + j) (gLane la z) (73 + 2 * k) 0 = gup (gup m.1 (73 + 2 * i + 1) j (gLane la z)) 127 (72 * i + j) (gLane la z) 125 k ∧ (gup (gup m.1 (73 + 2 * i + 1) j (gLane la z)) 127 (72 * i + j) (gLane la z) 125 k = -4 ∨ ∃ la', la' < 3 ∧ gup (gup m.1 (73 + 2 * i + 1) j (gLane la z)) 127 (72 * i + j) (gLane la z) 125 k = nI la') ∧ (∃ sz : Nat, sz ≤ 72 ∧ gup (gup m.1 (73 + 2 * i + 1) j (gLane la z)) 127 (72 * i + j) (gLane la z) (73 + 2 * k) 1 = nI sz ∧ gup (gup m.1 (73 + 2 * i + 1) j (gLane la z)) 127 (72 * i + j) (gLane la z) 126 k = nI sz) ∧ ∀ q, q < 72 → gup (gup m.1 (73 + 2 * i + 1) j (gLane la z)) 127 (72 * i + j) (gLane la z) (74 + 2 * k) q = gup (gup m.1 (73 + 2 * i + 1) j (gLane la z)) 127 (72 * i + j) (gLane la z) 127 (72 * k + q)
      rw [gup_eq _ 127, gup_ne (show 73 + 2 * k ≠ 127 by omega), gup_ne (show 125 ≠ 127 by decide), gup_ne (show 126 ≠ 127 by decide), gup_ne (show 74 + 2 * k ≠ 127 by omega), gup_ne (show 73 + 2 * k ≠ 73 + 2 * i + 1 by omega), gup_ne (show 125 ≠ 73 + 2 * i + 1 by omega), gup_ne (show 126 ≠ 73 + 2 * i + 1 by omega), gup_ne (show 127 ≠ 73 + 2 * i + 1 by omega)]
      refine ⟨G.1, G.2.1, G.2.2.1, fun q hq => ?_⟩
      show _ = if 72 * k + q = 72 * i + j then gLane la z else m.1 127 (72 * k + q)
      rw [gup_all]
      by_cases e : k = i ∧ q = j
      · rw [if_pos (by omega), if_pos (by omega)]
      · rw [if_neg (by omega), if_neg (by omega)]
        exact G.2.2.2 q hq
