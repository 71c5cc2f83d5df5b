/-! ===== keep, stand: fields kept and taken back ===== -/
theorem FRel.far0 {n : Nat} {C V : gN} (H : FRel n C V) : (∀ i, 36 ≤ i → C 5 i = 0 ∧ C 6 i = 0 ∧ C 7 i = 0 ∧ C 8 i = 0 ∧ C 9 i = 0) ∧ (∀ i, 324 ≤ i → C 10 i = 0) ∧ (∀ i, 8 ≤ i → C 12 i = 0) ∧ (∀ i, 12 ≤ i → C 13 i = 0 ∧ C 14 i = 0 ∧ C 15 i = 0 ∧ C 16 i = 0) ∧ (∀ i, 10 ≤ i → C 18 i = 0 ∧ C 19 i = 0 ∧ C 20 i = 0 ∧ C 21 i = 0) ∧ (∀ i, 6 ≤ i → C 27 i = 0 ∧ C 28 i = 0 ∧ C 29 i = 0) ∧ ∀ i, 50 ≤ i → C 30 i = 0 := by
  obtain ⟨w, h9, hr, le, we, sd, gs, wt, ol, wp, wc, ww, wo, ws, a1, a2, a3, a4, ⟨d1, d2, d3, d4, d5⟩, ⟨o1, o2, o3, o4, o5⟩, a7, a8, ⟨e1, e2, e3, e4, e5⟩, ⟨f1, f2, f3, f4⟩, b2, b3, b4, b5, ⟨k1, k2, k3, k4⟩, b7⟩ := H
  have z4 : ∀ i, 324 ≤ i → V 4 i = 0 := fun i hi => b7 4 i (by decide) hi
  rw [d1, d2, d3, d4, d5, e1, e2, e3, e4, e5, f1, f2, f3, f4, k1, k2, k3, k4]
  refine ⟨fun i hi => ⟨b7 0 i (by decide) hi, b7 1 i (by decide) hi, b7 2 i (by decide) hi, ?_, b7 3 i (by decide) hi⟩, z4, fun i hi => b7 9 i (by decide) hi, fun i hi => ⟨b7 10 i (by decide) hi, b7 11 i (by decide) hi, b7 12 i (by decide) hi, b7 13 i (by decide) hi⟩, fun i hi => ⟨b7 14 i (by decide) hi, b7 15 i (by decide) hi, b7 16 i (by decide) hi, b7 17 i (by decide) hi⟩, fun i hi => ⟨b7 6 i (by decide) hi, b7 7 i (by decide) hi, b7 8 i (by decide) hi⟩, fun i hi => b7 5 i (by decide) hi⟩
  have y : ∀ t, t < 9 → nI (ol (9 * i + t)) = 0 := fun t ht => by
    have := z4 (9 * i + t) (by omega)
    rw [o4] at this
    exact this
  have e : C 8 i = nI (ol (9 * i)) + nI (ol (9 * i + 1)) + nI (ol (9 * i + 2)) + nI (ol (9 * i + 3)) + nI (ol (9 * i + 4)) + nI (ol (9 * i + 5)) + nI (ol (9 * i + 6)) + nI (ol (9 * i + 7)) + nI (ol (9 * i + 8)) := by
    rw [o5]
    show nI (osum ol i) = _
    unfold osum
    simp only [nI_add]
  have y0 : nI (ol (9 * i)) = 0 := y 0 (by omega)
  rw [e, y0, y 1 (by omega), y 2 (by omega), y 3 (by omega), y 4 (by omega), y 5 (by omega), y 6 (by omega), y 7 (by omega), y 8 (by omega)]
  rfl
/-- how long the rows of a Town are, where they count whole -/
def cLen : Nat → Nat := fun j => match j with
  | 5 => 36 | 6 => 36 | 7 => 36 | 8 => 36 | 9 => 36 | 10 => 324 | 12 => 8 | 13 => 12 | 14 => 12 | 15 => 12 | 16 => 12 | 18 => 10 | 19 => 10 | 20 => 10 | 21 => 10 | 27 => 6 | 28 => 6 | 29 => 6 | 30 => 50 | _ => 0
def cWhole (j : Nat) : Prop := (5 ≤ j ∧ j ≤ 10) ∨ (12 ≤ j ∧ j ≤ 16) ∨ (18 ≤ j ∧ j ≤ 21) ∨ (27 ≤ j ∧ j ≤ 30)
theorem cRow {f g : Nat → Int32} {n : Nat} (h : ∀ q, g q = if q < n then f q else 0) (z : ∀ i, n ≤ i → f i = 0) : g = f := by
  funext q
  rw [h q]
  by_cases hq : q < n
  · rw [if_pos hq]
  · rw [if_neg hq, z q (by omega)]
theorem FRel.copy {n : Nat} {C V C' V' : gN} (H : FRel n C V) (c0 : C' 0 4 = C 0 4) (c2 : ∀ q, q < 3 → C' 2 q = C 2 q) (c11 : C' 11 1 = C 11 1) (c17 : C' 17 0 = C 17 0)
    (cr : ∀ j, cWhole j → ∀ q, C' j q = if q < cLen j then C j q else 0) (cp : (∀ q, q < 36 → C' 3 q = C 3 q ∧ C' 4 q = C 4 q) ∧ (∀ q, q < 10 → C' 22 q = C 22 q ∧ C' 23 q = C 23 q) ∧ (∀ q, q < 90 → C' 24 q = C 24 q) ∧ ∀ q, q < 500 → C' 25 q = C 25 q)
    (vr : ∀ sel i, sel < 22 → V' sel i = if i < fvLen sel then V sel i else 0) (v22 : ∀ i, i < 5 → V' 22 i = V 22 i) : FRel n C' V' := by
  have Z := H.far0
  have r5 : C' 5 = C 5 := cRow (cr 5 (by unfold cWhole; omega)) (fun i hi => (Z.1 i hi).1)
  have r6 : C' 6 = C 6 := cRow (cr 6 (by unfold cWhole; omega)) (fun i hi => (Z.1 i hi).2.1)
  have r7 : C' 7 = C 7 := cRow (cr 7 (by unfold cWhole; omega)) (fun i hi => (Z.1 i hi).2.2.1)
  have r8 : C' 8 = C 8 := cRow (cr 8 (by unfold cWhole; omega)) (fun i hi => (Z.1 i hi).2.2.2.1)
  have r9 : C' 9 = C 9 := cRow (cr 9 (by unfold cWhole; omega)) (fun i hi => (Z.1 i hi).2.2.2.2)
  have r10 : C' 10 = C 10 := cRow (cr 10 (by unfold cWhole; omega)) (fun i hi => Z.2.1 i hi)
  have r12 : C' 12 = C 12 := cRow (cr 12 (by unfold cWhole; omega)) (fun i hi => Z.2.2.1 i hi)
  have r13 : C' 13 = C 13 := cRow (cr 13 (by unfold cWhole; omega)) (fun i hi => (Z.2.2.2.1 i hi).1)
  have r14 : C' 14 = C 14 := cRow (cr 14 (by unfold cWhole; omega)) (fun i hi => (Z.2.2.2.1 i hi).2.1)
  have r15 : C' 15 = C 15 := cRow (cr 15 (by unfold cWhole; omega)) (fun i hi => (Z.2.2.2.1 i hi).2.2.1)
  have r16 : C' 16 = C 16 := cRow (cr 16 (by unfold cWhole; omega)) (fun i hi => (Z.2.2.2.1 i hi).2.2.2)
  have r18 : C' 18 = C 18 := cRow (cr 18 (by unfold cWhole; omega)) (fun i hi => (Z.2.2.2.2.1 i hi).1)
  have r19 : C' 19 = C 19 := cRow (cr 19 (by unfold cWhole; omega)) (fun i hi => (Z.2.2.2.2.1 i hi).2.1)
  have r20 : C' 20 = C 20 := cRow (cr 20 (by unfold cWhole; omega)) (fun i hi => (Z.2.2.2.2.1 i hi).2.2.1)
  have r21 : C' 21 = C 21 := cRow (cr 21 (by unfold cWhole; omega)) (fun i hi => (Z.2.2.2.2.1 i hi).2.2.2)
  have r27 : C' 27 = C 27 := cRow (cr 27 (by unfold cWhole; omega)) (fun i hi => (Z.2.2.2.2.2.1 i hi).1)
  have r28 : C' 28 = C 28 := cRow (cr 28 (by unfold cWhole; omega)) (fun i hi => (Z.2.2.2.2.2.1 i hi).2.1)
  have r29 : C' 29 = C 29 := cRow (cr 29 (by unfold cWhole; omega)) (fun i hi => (Z.2.2.2.2.2.1 i hi).2.2)
  have r30 : C' 30 = C 30 := cRow (cr 30 (by unfold cWhole; omega)) (fun i hi => Z.2.2.2.2.2.2 i hi)
  obtain ⟨w, h9, hr, le, we, sd, gs, wt, ol, wp, wc, ww, wo, ws, a1, a2, a3, a4, a5, a6, a7, a8, a9, b1, b2, b3, b4, b5, b6, b7⟩ := H
  have hzl : ∀ sel, sel < 22 → fvZ sel ≤ fvLen sel := by decide
  have H2 : FRel n C' V := by
    have h36 : w * h9 ≤ 6 * 6 := Nat.mul_le_mul a1.2.1 a1.2.2.2.1
    refine ⟨w, h9, hr, le, we, sd, gs, wt, ol, wp, wc, ww, wo, ws, a1, a2, ?_, fun c hc => ?_, ?_, ?_, a7, a8, ?_, ?_, b2, b3, fun k hk => ?_, fun k h1 h2 => ?_, ?_, b7⟩
    · rw [c0, c2 0 (by decide), c2 1 (by decide), c2 2 (by decide), c11, c17]; exact a3
    · rw [(cp.1 c (by omega)).1, (cp.1 c (by omega)).2]; exact a4 c hc
    · rw [r5, r6, r7, r9, r10]; exact a5
    · rw [r8]; exact a6
    · rw [r12, r13, r14, r15, r16]; exact a9
    · rw [r18, r19, r20, r21]; exact b1
    · have hk10 : k < 10 := by omega
      rw [(cp.2.1 k hk10).1, (cp.2.1 k hk10).2]
      refine ⟨(b4 k hk).1, (b4 k hk).2.1, fun l hl => ?_, fun s hs => ?_⟩
      · rw [cp.2.2.1 _ (by omega)]; exact (b4 k hk).2.2.1 l hl
      · rw [cp.2.2.2 _ (by omega)]; exact (b4 k hk).2.2.2 s hs
    · rw [(cp.2.1 k h2).1, (cp.2.1 k h2).2]
      refine ⟨(b5 k h1 h2).1, (b5 k h1 h2).2.1, fun l hl => ?_, fun s hs => ?_⟩
      · rw [cp.2.2.1 _ (by omega)]; exact (b5 k h1 h2).2.2.1 l hl
      · rw [cp.2.2.2 _ (by omega)]; exact (b5 k h1 h2).2.2.2 s hs
    · rw [r27, r28, r29, r30]; exact b6
  refine FRel.cong (fun sel hs => ?_) v22 H2
  exact cRow (vr sel · hs) (fun i hi => b7 sel i hs (Nat.le_trans (hzl sel hs) hi))
/-- which row of the reference a number of the view means -/
def fvRow : Nat → Nat := fun sel => match sel with
  | 0 => 82 | 1 => 83 | 2 => 84 | 3 => 85 | 4 => 86 | 5 => 103 | 6 => 100 | 7 => 101 | 8 => 102 | 9 => 87 | 10 => 88 | 11 => 89 | 12 => 90 | 13 => 91 | 14 => 92 | 15 => 93 | 16 => 94 | 17 => 95 | 18 => 96 | 19 => 97 | 20 => 98 | _ => 99
theorem fvL_row (N : gN) {sel : Nat} (hs : sel < 22) : fvL N sel = N (fvRow sel) := by
  match sel, hs with
  | 0, _ => rfl
  | 1, _ => rfl
  | 2, _ => rfl
  | 3, _ => rfl
  | 4, _ => rfl
  | 5, _ => rfl
  | 6, _ => rfl
  | 7, _ => rfl
  | 8, _ => rfl
  | 9, _ => rfl
  | 10, _ => rfl
  | 11, _ => rfl
  | 12, _ => rfl
  | 13, _ => rfl
  | 14, _ => rfl
  | 15, _ => rfl
  | 16, _ => rfl
  | 17, _ => rfl
  | 18, _ => rfl
  | 19, _ => rfl
  | 20, _ => rfl
  | 21, _ => rfl
  | s + 22, h => omega
theorem fvRow_lt {sel : Nat} (hs : sel < 22) : 82 ≤ fvRow sel ∧ fvRow sel < 104 := by
  have : ∀ sel, sel < 22 → 82 ≤ fvRow sel ∧ fvRow sel < 104 := by decide
  exact this sel hs
theorem pg_fv {sel i : Nat} (hs : sel < 22) : (i < fvLen sel → pgOff (fvRow sel) i = fvOff sel i ∧ fvOff sel i < 1647) ∧ (fvLen sel ≤ i → pgOff (fvRow sel) i = 5000) := by
  have no : ∀ {p}, 82 ≤ p → (p < 86 → 36 ≤ i) → (p = 86 → 324 ≤ i) → (p = 103 → 50 ≤ i) → (100 ≤ p ∧ p < 103 → 6 ≤ i) → (p = 87 → 8 ≤ i) → (88 ≤ p ∧ p < 92 → 12 ≤ i) → (92 ≤ p ∧ p < 98 → 14 ≤ i) → (p = 98 → 126 ≤ i) → (p = 99 → 840 ≤ i) → pgOff p i = 5000 := by
    intro p h0 h1 h2 h3 h4 h5 h6 h7 h8 h9
    unfold pgOff
    rw [if_neg (by omega), if_neg (by omega), if_neg (by omega), if_neg (by omega), if_neg (by omega), if_neg (by omega), if_neg (by omega), if_neg (by omega), if_neg (by omega), if_neg (by omega), if_neg (by omega), if_neg (by omega)]
  match sel, hs with
  | 0, _ =>
    refine ⟨fun hi => ?_, fun hi => ?_⟩
    · have hi : i < 36 := hi
      show pgOff 82 i = 3 + 4 * i ∧ 3 + 4 * i < 1647
      rw [pg_o1 (by omega)]
      omega
    · have hi : 36 ≤ i := hi
      exact no (p := 82) (by omega) (by omega) (by omega) (by omega) (by omega) (by omega) (by omega) (by omega) (by omega) (by omega)
  | 1, _ =>
    refine ⟨fun hi => ?_, fun hi => ?_⟩
    · have hi : i < 36 := hi
      show pgOff 83 i = 4 + 4 * i ∧ 4 + 4 * i < 1647
      rw [pg_o1 (by omega)]
      omega
    · have hi : 36 ≤ i := hi
      exact no (p := 83) (by omega) (by omega) (by omega) (by omega) (by omega) (by omega) (by omega) (by omega) (by omega) (by omega)
  | 2, _ =>
    refine ⟨fun hi => ?_, fun hi => ?_⟩
    · have hi : i < 36 := hi
      show pgOff 84 i = 5 + 4 * i ∧ 5 + 4 * i < 1647
      rw [pg_o1 (by omega)]
      omega
    · have hi : 36 ≤ i := hi
      exact no (p := 84) (by omega) (by omega) (by omega) (by omega) (by omega) (by omega) (by omega) (by omega) (by omega) (by omega)
  | 3, _ =>
    refine ⟨fun hi => ?_, fun hi => ?_⟩
    · have hi : i < 36 := hi
      show pgOff 85 i = 6 + 4 * i ∧ 6 + 4 * i < 1647
      rw [pg_o1 (by omega)]
      omega
    · have hi : 36 ≤ i := hi
      exact no (p := 85) (by omega) (by omega) (by omega) (by omega) (by omega) (by omega) (by omega) (by omega) (by omega) (by omega)
  | 4, _ =>
    refine ⟨fun hi => ?_, fun hi => ?_⟩
    · have hi : i < 324 := hi
      show pgOff 86 i = 147 + i ∧ 147 + i < 1647
      rw [pg_o2 (by omega)]
      omega
    · have hi : 324 ≤ i := hi
      exact no (p := 86) (by omega) (by omega) (by omega) (by omega) (by omega) (by omega) (by omega) (by omega) (by omega) (by omega)
  | 5, _ =>
    refine ⟨fun hi => ?_, fun hi => ?_⟩
    · have hi : i < 50 := hi
      show pgOff 103 i = 471 + i ∧ 471 + i < 1647
      rw [pg_o3 (by omega)]
      omega
    · have hi : 50 ≤ i := hi
      exact no (p := 103) (by omega) (by omega) (by omega) (by omega) (by omega) (by omega) (by omega) (by omega) (by omega) (by omega)
  | 6, _ =>
    refine ⟨fun hi => ?_, fun hi => ?_⟩
    · have hi : i < 6 := hi
      show pgOff 100 i = 521 + 3 * i ∧ 521 + 3 * i < 1647
      rw [pg_o4 (by omega)]
      omega
    · have hi : 6 ≤ i := hi
      exact no (p := 100) (by omega) (by omega) (by omega) (by omega) (by omega) (by omega) (by omega) (by omega) (by omega) (by omega)
  | 7, _ =>
    refine ⟨fun hi => ?_, fun hi => ?_⟩
    · have hi : i < 6 := hi
      show pgOff 101 i = 522 + 3 * i ∧ 522 + 3 * i < 1647
      rw [pg_o4 (by omega)]
      omega
    · have hi : 6 ≤ i := hi
      exact no (p := 101) (by omega) (by omega) (by omega) (by omega) (by omega) (by omega) (by omega) (by omega) (by omega) (by omega)
  | 8, _ =>
    refine ⟨fun hi => ?_, fun hi => ?_⟩
    · have hi : i < 6 := hi
      show pgOff 102 i = 523 + 3 * i ∧ 523 + 3 * i < 1647
      rw [pg_o4 (by omega)]
      omega
    · have hi : 6 ≤ i := hi
      exact no (p := 102) (by omega) (by omega) (by omega) (by omega) (by omega) (by omega) (by omega) (by omega) (by omega) (by omega)
  | 9, _ =>
    refine ⟨fun hi => ?_, fun hi => ?_⟩
    · have hi : i < 8 := hi
      show pgOff 87 i = 539 + i ∧ 539 + i < 1647
      rw [pg_o5 (by omega)]
      omega
    · have hi : 8 ≤ i := hi
      exact no (p := 87) (by omega) (by omega) (by omega) (by omega) (by omega) (by omega) (by omega) (by omega) (by omega) (by omega)
  | 10, _ =>
    refine ⟨fun hi => ?_, fun hi => ?_⟩
    · have hi : i < 12 := hi
      show pgOff 88 i = 548 + 4 * i ∧ 548 + 4 * i < 1647
      rw [pg_o7 (by omega)]
      omega
    · have hi : 12 ≤ i := hi
      exact no (p := 88) (by omega) (by omega) (by omega) (by omega) (by omega) (by omega) (by omega) (by omega) (by omega) (by omega)
  | 11, _ =>
    refine ⟨fun hi => ?_, fun hi => ?_⟩
    · have hi : i < 12 := hi
      show pgOff 89 i = 549 + 4 * i ∧ 549 + 4 * i < 1647
      rw [pg_o7 (by omega)]
      omega
    · have hi : 12 ≤ i := hi
      exact no (p := 89) (by omega) (by omega) (by omega) (by omega) (by omega) (by omega) (by omega) (by omega) (by omega) (by omega)
  | 12, _ =>
    refine ⟨fun hi => ?_, fun hi => ?_⟩
    · have hi : i < 12 := hi
      show pgOff 90 i = 550 + 4 * i ∧ 550 + 4 * i < 1647
      rw [pg_o7 (by omega)]
      omega
    · have hi : 12 ≤ i := hi
      exact no (p := 90) (by omega) (by omega) (by omega) (by omega) (by omega) (by omega) (by omega) (by omega) (by omega) (by omega)
  | 13, _ =>
    refine ⟨fun hi => ?_, fun hi => ?_⟩
    · have hi : i < 12 := hi
      show pgOff 91 i = 551 + 4 * i ∧ 551 + 4 * i < 1647
      rw [pg_o7 (by omega)]
      omega
    · have hi : 12 ≤ i := hi
      exact no (p := 91) (by omega) (by omega) (by omega) (by omega) (by omega) (by omega) (by omega) (by omega) (by omega) (by omega)
  | 14, _ =>
    refine ⟨fun hi => ?_, fun hi => ?_⟩
    · have hi : i < 14 := hi
      show pgOff 92 i = 597 + 6 * i ∧ 597 + 6 * i < 1647
      rw [pg_o9 (by omega)]
      omega
    · have hi : 14 ≤ i := hi
      exact no (p := 92) (by omega) (by omega) (by omega) (by omega) (by omega) (by omega) (by omega) (by omega) (by omega) (by omega)
  | 15, _ =>
    refine ⟨fun hi => ?_, fun hi => ?_⟩
    · have hi : i < 14 := hi
      show pgOff 93 i = 598 + 6 * i ∧ 598 + 6 * i < 1647
      rw [pg_o9 (by omega)]
      omega
    · have hi : 14 ≤ i := hi
      exact no (p := 93) (by omega) (by omega) (by omega) (by omega) (by omega) (by omega) (by omega) (by omega) (by omega) (by omega)
  | 16, _ =>
    refine ⟨fun hi => ?_, fun hi => ?_⟩
    · have hi : i < 14 := hi
      show pgOff 94 i = 599 + 6 * i ∧ 599 + 6 * i < 1647
      rw [pg_o9 (by omega)]
      omega
    · have hi : 14 ≤ i := hi
      exact no (p := 94) (by omega) (by omega) (by omega) (by omega) (by omega) (by omega) (by omega) (by omega) (by omega) (by omega)
  | 17, _ =>
    refine ⟨fun hi => ?_, fun hi => ?_⟩
    · have hi : i < 14 := hi
      show pgOff 95 i = 600 + 6 * i ∧ 600 + 6 * i < 1647
      rw [pg_o9 (by omega)]
      omega
    · have hi : 14 ≤ i := hi
      exact no (p := 95) (by omega) (by omega) (by omega) (by omega) (by omega) (by omega) (by omega) (by omega) (by omega) (by omega)
  | 18, _ =>
    refine ⟨fun hi => ?_, fun hi => ?_⟩
    · have hi : i < 14 := hi
      show pgOff 96 i = 601 + 6 * i ∧ 601 + 6 * i < 1647
      rw [pg_o9 (by omega)]
      omega
    · have hi : 14 ≤ i := hi
      exact no (p := 96) (by omega) (by omega) (by omega) (by omega) (by omega) (by omega) (by omega) (by omega) (by omega) (by omega)
  | 19, _ =>
    refine ⟨fun hi => ?_, fun hi => ?_⟩
    · have hi : i < 14 := hi
      show pgOff 97 i = 602 + 6 * i ∧ 602 + 6 * i < 1647
      rw [pg_o9 (by omega)]
      omega
    · have hi : 14 ≤ i := hi
      exact no (p := 97) (by omega) (by omega) (by omega) (by omega) (by omega) (by omega) (by omega) (by omega) (by omega) (by omega)
  | 20, _ =>
    refine ⟨fun hi => ?_, fun hi => ?_⟩
    · have hi : i < 126 := hi
      show pgOff 98 i = 681 + i ∧ 681 + i < 1647
      rw [pg_o10 (by omega)]
      omega
    · have hi : 126 ≤ i := hi
      exact no (p := 98) (by omega) (by omega) (by omega) (by omega) (by omega) (by omega) (by omega) (by omega) (by omega) (by omega)
  | 21, _ =>
    refine ⟨fun hi => ?_, fun hi => ?_⟩
    · have hi : i < 840 := hi
      show pgOff 99 i = 807 + i ∧ 807 + i < 1647
      rw [pg_o11 (by omega)]
      omega
    · have hi : 840 ≤ i := hi
      exact no (p := 99) (by omega) (by omega) (by omega) (by omega) (by omega) (by omega) (by omega) (by omega) (by omega) (by omega)
  | s + 22, h => omega
theorem pg_81 : pgOff 81 0 = 0 ∧ pgOff 81 1 = 1 ∧ pgOff 81 2 = 2 ∧ pgOff 81 10 = 547 ∧ pgOff 81 15 = 596 := by decide
/-- a page filled: what stands where -/
theorem tuP_at (N : gN) (k : Nat) {p q : Nat} (h : p ≠ 123) (h2 : ¬ (p = 81 ∧ q = 58)) : tuP N k 1647 p q = N p q := by
  unfold tuP
  rw [if_neg (fun z => h z.1), if_neg h2]
theorem tuP_pg (N : gN) (k : Nat) {o : Nat} (h : o < 1647) : tuP N k 1647 123 (1800 * k + o) = N (pgRow o) (pgIdx o) := by
  unfold tuP
  rw [if_pos ⟨rfl, by omega, by omega⟩, show 1800 * k + o - 1800 * k = o by omega]
theorem tuP_other (N : gN) {k j o : Nat} (hj : j ≠ k) (h : o < 1647) : tuP N k 1647 123 (1800 * j + o) = N 123 (1800 * j + o) := by
  unfold tuP
  rw [if_neg (by omega), if_neg (by omega)]
theorem fvOff_22 (i : Nat) (hi : i < 5) : fvOff 22 i < 1647 := by
  have : ∀ i, i < 5 → fvOff 22 i < 1647 := by decide
  exact this i hi
theorem fvP_same {N N' : gN} {j : Nat} (h : ∀ o, o < 1647 → N' 123 (1800 * j + o) = N 123 (1800 * j + o)) : (∀ sel, sel < 22 → fvP N' j sel = fvP N j sel) ∧ ∀ i, i < 5 → fvP N' j 22 i = fvP N j 22 i := by
  constructor
  · intro sel hs
    funext i
    unfold fvP
    by_cases hi : i < fvLen sel
    · rw [if_pos hi, if_pos hi, h _ ((pg_fv hs).1 hi).2]
    · rw [if_neg hi, if_neg hi]
  · intro i hi
    show (if i < 5 then N' 123 (1800 * j + fvOff 22 i) else 0) = if i < 5 then N 123 (1800 * j + fvOff 22 i) else 0
    rw [if_pos hi, if_pos hi, h _ (fvOff_22 i hi)]
/-- the page is the field -/
theorem fvP_of {N M : gN} {k : Nat} (h : ∀ o, o < 1647 → M 123 (1800 * k + o) = N (pgRow o) (pgIdx o)) : (∀ sel i, sel < 22 → fvP M k sel i = if i < fvLen sel then fvL N sel i else 0) ∧ ∀ i, i < 5 → fvP M k 22 i = fvL N 22 i := by
  constructor
  · intro sel i hs
    unfold fvP
    by_cases hi : i < fvLen sel
    · rw [if_pos hi, if_pos hi]
      obtain ⟨e1, e2⟩ := (pg_fv hs).1 hi
      rw [h _ e2, ← e1]
      have hb := pg_back (p := fvRow sel) (q := i) (by rw [e1]; exact e2)
      rw [hb.1, hb.2, fvL_row N hs]
    · rw [if_neg hi, if_neg hi]
  · intro i hi
    show (if i < 5 then M 123 (1800 * k + fvOff 22 i) else 0) = _
    rw [if_pos hi, h _ (fvOff_22 i hi)]
    match i, hi with
    | 0, _ => rfl
    | 1, _ => rfl
    | 2, _ => rfl
    | 3, _ => rfl
    | 4, _ => rfl
    | i + 5, h => omega
