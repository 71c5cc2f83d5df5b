/-! ===== a page turned: which place has which number (by program) ===== -/
def pgRow (t : Nat) : Nat := if t < 3 then 81 else if t < 147 then 82 + (t - 3) % 4 else if t < 471 then 86 else if t < 521 then 103 else if t < 539 then 100 + (t - 521) % 3 else if t < 547 then 87 else if t < 548 then 81 else if t < 596 then 88 + (t - 548) % 4 else if t < 597 then 81 else if t < 681 then 92 + (t - 597) % 6 else if t < 807 then 98 else 99
def pgIdx (t : Nat) : Nat := if t < 3 then t else if t < 147 then (t - 3) / 4 else if t < 471 then t - 147 else if t < 521 then t - 471 else if t < 539 then (t - 521) / 3 else if t < 547 then t - 539 else if t < 548 then 10 else if t < 596 then (t - 548) / 4 else if t < 597 then 15 else if t < 681 then (t - 597) / 6 else if t < 807 then t - 681 else t - 807
def pgOff (p q : Nat) : Nat := if p = 81 ∧ q < 3 then q else if (82 ≤ p ∧ p < 86) ∧ q < 36 then 3 + 4 * q + (p - 82) else if p = 86 ∧ q < 324 then 147 + q else if p = 103 ∧ q < 50 then 471 + q else if (100 ≤ p ∧ p < 103) ∧ q < 6 then 521 + 3 * q + (p - 100) else if p = 87 ∧ q < 8 then 539 + q else if p = 81 ∧ q = 10 then 547 else if (88 ≤ p ∧ p < 92) ∧ q < 12 then 548 + 4 * q + (p - 88) else if p = 81 ∧ q = 15 then 596 else if (92 ≤ p ∧ p < 98) ∧ q < 14 then 597 + 6 * q + (p - 92) else if p = 98 ∧ q < 126 then 681 + q else if p = 99 ∧ q < 840 then 807 + q else 5000
theorem pg_r0 {t : Nat} (h2 : t < 3) : pgRow t = 81 ∧ pgIdx t = t := by
  unfold pgRow pgIdx
  constructor
  · rw [if_pos h2]
  · rw [if_pos h2]
theorem pg_r1 {t : Nat} (h1 : 3 ≤ t) (h2 : t < 147) : pgRow t = 82 + (t - 3) % 4 ∧ pgIdx t = (t - 3) / 4 := by
  unfold pgRow pgIdx
  constructor
  · rw [if_neg (by omega), if_pos h2]
  · rw [if_neg (by omega), if_pos h2]
theorem pg_r2 {t : Nat} (h1 : 147 ≤ t) (h2 : t < 471) : pgRow t = 86 ∧ pgIdx t = t - 147 := by
  unfold pgRow pgIdx
  constructor
  · rw [if_neg (by omega), if_neg (by omega), if_pos h2]
  · rw [if_neg (by omega), if_neg (by omega), if_pos h2]
theorem pg_r3 {t : Nat} (h1 : 471 ≤ t) (h2 : t < 521) : pgRow t = 103 ∧ pgIdx t = t - 471 := by
  unfold pgRow pgIdx
  constructor
  · rw [if_neg (by omega), if_neg (by omega), if_neg (by omega), if_pos h2]
  · rw [if_neg (by omega), if_neg (by omega), if_neg (by omega), if_pos h2]
theorem pg_r4 {t : Nat} (h1 : 521 ≤ t) (h2 : t < 539) : pgRow t = 100 + (t - 521) % 3 ∧ pgIdx t = (t - 521) / 3 := by
  unfold pgRow pgIdx
  constructor
  · rw [if_neg (by omega), if_neg (by omega), if_neg (by omega), if_neg (by omega), if_pos h2]
  · rw [if_neg (by omega), if_neg (by omega), if_neg (by omega), if_neg (by omega), if_pos h2]
theorem pg_r5 {t : Nat} (h1 : 539 ≤ t) (h2 : t < 547) : pgRow t = 87 ∧ pgIdx t = t - 539 := by
  unfold pgRow pgIdx
  constructor
  · rw [if_neg (by omega), if_neg (by omega), if_neg (by omega), if_neg (by omega), if_neg (by omega), if_pos h2]
  · rw [if_neg (by omega), if_neg (by omega), if_neg (by omega), if_neg (by omega), if_neg (by omega), if_pos h2]
theorem pg_r6 {t : Nat} (h1 : 547 ≤ t) (h2 : t < 548) : pgRow t = 81 ∧ pgIdx t = 10 := by
  unfold pgRow pgIdx
  constructor
  · rw [if_neg (by omega), if_neg (by omega), if_neg (by omega), if_neg (by omega), if_neg (by omega), if_neg (by omega), if_pos h2]
  · rw [if_neg (by omega), if_neg (by omega), if_neg (by omega), if_neg (by omega), if_neg (by omega), if_neg (by omega), if_pos h2]
theorem pg_r7 {t : Nat} (h1 : 548 ≤ t) (h2 : t < 596) : pgRow t = 88 + (t - 548) % 4 ∧ pgIdx t = (t - 548) / 4 := by
  unfold pgRow pgIdx
  constructor
  · rw [if_neg (by omega), if_neg (by omega), if_neg (by omega), if_neg (by omega), if_neg (by omega), if_neg (by omega), if_neg (by omega), if_pos h2]
  · rw [if_neg (by omega), if_neg (by omega), if_neg (by omega), if_neg (by omega), if_neg (by omega), if_neg (by omega), if_neg (by omega), if_pos h2]
theorem pg_r8 {t : Nat} (h1 : 596 ≤ t) (h2 : t < 597) : pgRow t = 81 ∧ pgIdx t = 15 := by
  unfold pgRow pgIdx
  constructor
  · rw [if_neg (by omega), if_neg (by omega), if_neg (by omega), if_neg (by omega), if_neg (by omega), if_neg (by omega), if_neg (by omega), if_neg (by omega), if_pos h2]
  · rw [if_neg (by omega), if_neg (by omega), if_neg (by omega), if_neg (by omega), if_neg (by omega), if_neg (by omega), if_neg (by omega), if_neg (by omega), if_pos h2]
theorem pg_r9 {t : Nat} (h1 : 597 ≤ t) (h2 : t < 681) : pgRow t = 92 + (t - 597) % 6 ∧ pgIdx t = (t - 597) / 6 := by
  unfold pgRow pgIdx
  constructor
  · rw [if_neg (by omega), if_neg (by omega), if_neg (by omega), if_neg (by omega), if_neg (by omega), if_neg (by omega), if_neg (by omega), if_neg (by omega), if_neg (by omega), if_pos h2]
  · rw [if_neg (by omega), if_neg (by omega), if_neg (by omega), if_neg (by omega), if_neg (by omega), if_neg (by omega), if_neg (by omega), if_neg (by omega), if_neg (by omega), if_pos h2]
theorem pg_r10 {t : Nat} (h1 : 681 ≤ t) (h2 : t < 807) : pgRow t = 98 ∧ pgIdx t = t - 681 := by
  unfold pgRow pgIdx
  constructor
  · rw [if_neg (by omega), if_neg (by omega), if_neg (by omega), if_neg (by omega), if_neg (by omega), if_neg (by omega), if_neg (by omega), if_neg (by omega), if_neg (by omega), if_neg (by omega), if_pos h2]
  · rw [if_neg (by omega), if_neg (by omega), if_neg (by omega), if_neg (by omega), if_neg (by omega), if_neg (by omega), if_neg (by omega), if_neg (by omega), if_neg (by omega), if_neg (by omega), if_pos h2]
theorem pg_r11 {t : Nat} (h1 : 807 ≤ t) (h2 : t < 1647) : pgRow t = 99 ∧ pgIdx t = t - 807 := by
  unfold pgRow pgIdx
  constructor
  · rw [if_neg (by omega), if_neg (by omega), if_neg (by omega), if_neg (by omega), if_neg (by omega), if_neg (by omega), if_neg (by omega), if_neg (by omega), if_neg (by omega), if_neg (by omega), if_neg (by omega)]
  · rw [if_neg (by omega), if_neg (by omega), if_neg (by omega), if_neg (by omega), if_neg (by omega), if_neg (by omega), if_neg (by omega), if_neg (by omega), if_neg (by omega), if_neg (by omega), if_neg (by omega)]
theorem pg_o0 {p q : Nat} (h : p = 81 ∧ q < 3) : pgOff p q = q := by
  unfold pgOff
  rw [if_pos h]
theorem pg_o1 {p q : Nat} (h : (82 ≤ p ∧ p < 86) ∧ q < 36) : pgOff p q = 3 + 4 * q + (p - 82) := by
  unfold pgOff
  rw [if_neg (by omega), if_pos h]
theorem pg_o2 {p q : Nat} (h : p = 86 ∧ q < 324) : pgOff p q = 147 + q := by
  unfold pgOff
  rw [if_neg (by omega), if_neg (by omega), if_pos h]
theorem pg_o3 {p q : Nat} (h : p = 103 ∧ q < 50) : pgOff p q = 471 + q := by
  unfold pgOff
  rw [if_neg (by omega), if_neg (by omega), if_neg (by omega), if_pos h]
theorem pg_o4 {p q : Nat} (h : (100 ≤ p ∧ p < 103) ∧ q < 6) : pgOff p q = 521 + 3 * q + (p - 100) := by
  unfold pgOff
  rw [if_neg (by omega), if_neg (by omega), if_neg (by omega), if_neg (by omega), if_pos h]
theorem pg_o5 {p q : Nat} (h : p = 87 ∧ q < 8) : pgOff p q = 539 + q := by
  unfold pgOff
  rw [if_neg (by omega), if_neg (by omega), if_neg (by omega), if_neg (by omega), if_neg (by omega), if_pos h]
theorem pg_o6 {p q : Nat} (h : p = 81 ∧ q = 10) : pgOff p q = 547 := by
  unfold pgOff
  rw [if_neg (by omega), if_neg (by omega), if_neg (by omega), if_neg (by omega), if_neg (by omega), if_neg (by omega), if_pos h]
theorem pg_o7 {p q : Nat} (h : (88 ≤ p ∧ p < 92) ∧ q < 12) : pgOff p q = 548 + 4 * q + (p - 88) := by
  unfold pgOff
  rw [if_neg (by omega), if_neg (by omega), if_neg (by omega), if_neg (by omega), if_neg (by omega), if_neg (by omega), if_neg (by omega), if_pos h]
theorem pg_o8 {p q : Nat} (h : p = 81 ∧ q = 15) : pgOff p q = 596 := by
  unfold pgOff
  rw [if_neg (by omega), if_neg (by omega), if_neg (by omega), if_neg (by omega), if_neg (by omega), if_neg (by omega), if_neg (by omega), if_neg (by omega), if_pos h]
theorem pg_o9 {p q : Nat} (h : (92 ≤ p ∧ p < 98) ∧ q < 14) : pgOff p q = 597 + 6 * q + (p - 92) := by
  unfold pgOff
  rw [if_neg (by omega), if_neg (by omega), if_neg (by omega), if_neg (by omega), if_neg (by omega), if_neg (by omega), if_neg (by omega), if_neg (by omega), if_neg (by omega), if_pos h]
theorem pg_o10 {p q : Nat} (h : p = 98 ∧ q < 126) : pgOff p q = 681 + q := by
  unfold pgOff
  rw [if_neg (by omega), if_neg (by omega), if_neg (by omega), if_neg (by omega), if_neg (by omega), if_neg (by omega), if_neg (by omega), if_neg (by omega), if_neg (by omega), if_neg (by omega), if_pos h]
theorem pg_o11 {p q : Nat} (h : p = 99 ∧ q < 840) : pgOff p q = 807 + q := by
  unfold pgOff
  rw [if_neg (by omega), if_neg (by omega), if_neg (by omega), if_neg (by omega), if_neg (by omega), if_neg (by omega), if_neg (by omega), if_neg (by omega), if_neg (by omega), if_neg (by omega), if_neg (by omega), if_pos h]
theorem pg_inv {t : Nat} (ht : t < 1647) : pgOff (pgRow t) (pgIdx t) = t := by
  by_cases h0 : t < 3
  · rw [(pg_r0 h0).1, (pg_r0 h0).2, pg_o0 (by omega)]
  by_cases h1 : t < 147
  · rw [(pg_r1 (by omega) h1).1, (pg_r1 (by omega) h1).2, pg_o1 (by omega)]
    omega
  by_cases h2 : t < 471
  · rw [(pg_r2 (by omega) h2).1, (pg_r2 (by omega) h2).2, pg_o2 (by omega)]
    omega
  by_cases h3 : t < 521
  · rw [(pg_r3 (by omega) h3).1, (pg_r3 (by omega) h3).2, pg_o3 (by omega)]
    omega
  by_cases h4 : t < 539
  · rw [(pg_r4 (by omega) h4).1, (pg_r4 (by omega) h4).2, pg_o4 (by omega)]
    omega
  by_cases h5 : t < 547
  · rw [(pg_r5 (by omega) h5).1, (pg_r5 (by omega) h5).2, pg_o5 (by omega)]
    omega
  by_cases h6 : t < 548
  · rw [(pg_r6 (by omega) h6).1, (pg_r6 (by omega) h6).2, pg_o6 (by omega)]
    omega
  by_cases h7 : t < 596
  · rw [(pg_r7 (by omega) h7).1, (pg_r7 (by omega) h7).2, pg_o7 (by omega)]
    omega
  by_cases h8 : t < 597
  · rw [(pg_r8 (by omega) h8).1, (pg_r8 (by omega) h8).2, pg_o8 (by omega)]
    omega
  by_cases h9 : t < 681
  · rw [(pg_r9 (by omega) h9).1, (pg_r9 (by omega) h9).2, pg_o9 (by omega)]
    omega
  by_cases h10 : t < 807
  · rw [(pg_r10 (by omega) h10).1, (pg_r10 (by omega) h10).2, pg_o10 (by omega)]
    omega
  rw [(pg_r11 (by omega) ht).1, (pg_r11 (by omega) ht).2, pg_o11 (by omega)]
  omega
theorem pg_back {p q : Nat} (h : pgOff p q < 1647) : pgRow (pgOff p q) = p ∧ pgIdx (pgOff p q) = q := by
  by_cases h0 : p = 81 ∧ q < 3
  · rw [pg_o0 h0, (pg_r0 (by omega)).1, (pg_r0 (by omega)).2]
    omega
  by_cases h1 : (82 ≤ p ∧ p < 86) ∧ q < 36
  · rw [pg_o1 h1, (pg_r1 (by omega) (by omega)).1, (pg_r1 (by omega) (by omega)).2]
    omega
  by_cases h2 : p = 86 ∧ q < 324
  · rw [pg_o2 h2, (pg_r2 (by omega) (by omega)).1, (pg_r2 (by omega) (by omega)).2]
    omega
  by_cases h3 : p = 103 ∧ q < 50
  · rw [pg_o3 h3, (pg_r3 (by omega) (by omega)).1, (pg_r3 (by omega) (by omega)).2]
    omega
  by_cases h4 : (100 ≤ p ∧ p < 103) ∧ q < 6
  · rw [pg_o4 h4, (pg_r4 (by omega) (by omega)).1, (pg_r4 (by omega) (by omega)).2]
    omega
  by_cases h5 : p = 87 ∧ q < 8
  · rw [pg_o5 h5, (pg_r5 (by omega) (by omega)).1, (pg_r5 (by omega) (by omega)).2]
    omega
  by_cases h6 : p = 81 ∧ q = 10
  · rw [pg_o6 h6, (pg_r6 (by omega) (by omega)).1, (pg_r6 (by omega) (by omega)).2]
    omega
  by_cases h7 : (88 ≤ p ∧ p < 92) ∧ q < 12
  · rw [pg_o7 h7, (pg_r7 (by omega) (by omega)).1, (pg_r7 (by omega) (by omega)).2]
    omega
  by_cases h8 : p = 81 ∧ q = 15
  · rw [pg_o8 h8, (pg_r8 (by omega) (by omega)).1, (pg_r8 (by omega) (by omega)).2]
    omega
  by_cases h9 : (92 ≤ p ∧ p < 98) ∧ q < 14
  · rw [pg_o9 h9, (pg_r9 (by omega) (by omega)).1, (pg_r9 (by omega) (by omega)).2]
    omega
  by_cases h10 : p = 98 ∧ q < 126
  · rw [pg_o10 h10, (pg_r10 (by omega) (by omega)).1, (pg_r10 (by omega) (by omega)).2]
    omega
  by_cases h11 : p = 99 ∧ q < 840
  · rw [pg_o11 h11, (pg_r11 (by omega) (by omega)).1, (pg_r11 (by omega) (by omega)).2]
    omega
  exfalso
  unfold pgOff at h
  rw [if_neg h0, if_neg h1, if_neg h2, if_neg h3, if_neg h4, if_neg h5, if_neg h6, if_neg h7, if_neg h8, if_neg h9, if_neg h10, if_neg h11] at h
  omega
theorem pg_no {p q : Nat} (h : p < 81 ∨ 104 ≤ p ∨ (p = 81 ∧ ¬ q < 3 ∧ q ≠ 10 ∧ q ≠ 15)) : pgOff p q = 5000 := by
  unfold pgOff
  rw [if_neg (by omega), if_neg (by omega), if_neg (by omega), if_neg (by omega), if_neg (by omega), if_neg (by omega), if_neg (by omega), if_neg (by omega), if_neg (by omega), if_neg (by omega), if_neg (by omega), if_neg (by omega)]
/-- memory while a page is filled, while one is taken back -/
def tuP (N : gN) (k t : Nat) : gN := fun p q => if p = 123 ∧ 1800 * k ≤ q ∧ q < 1800 * k + t then N (pgRow (q - 1800 * k)) (pgIdx (q - 1800 * k)) else if p = 81 ∧ q = 58 then nI (1800 * k + t) else N p q
def tuG (N : gN) (k t : Nat) : gN := fun p q => if pgOff p q < t then N 123 (1800 * k + pgOff p q) else if p = 81 ∧ q = 58 then nI (1800 * k + t) else N p q
theorem pgRow_lt {t : Nat} (ht : t < 1647) : 81 ≤ pgRow t ∧ pgRow t < 104 ∧ (pgRow t = 81 → pgIdx t ≠ 58 ∧ pgIdx t ≠ 59) := by
  have h := pg_inv ht
  refine ⟨?_, ?_, fun e => ?_⟩
  · rcases Nat.lt_or_ge (pgRow t) 81 with z | z
    · rw [pg_no (Or.inl z)] at h; omega
    · exact z
  · rcases Nat.lt_or_ge (pgRow t) 104 with z | z
    · exact z
    · rw [pg_no (Or.inr (Or.inl z))] at h; omega
  · constructor
    · intro z
      rw [pg_no (Or.inr (Or.inr (by omega)))] at h; omega
    · intro z
      rw [pg_no (Or.inr (Or.inr (by omega)))] at h; omega
theorem tuP_E {N : gN} {k t : Nat} {L : Nat → Nat → Int64} (hk : k < 4) (ht : t < 1647) (h59 : N 81 59 = 1) : f_MO_turn (tuP N k t (pgRow t) (pgIdx t)) (tuP N k t, L) = some (N (pgRow t) (pgIdx t), (gup (gup (tuP N k t) 123 (1800 * k + t) (N (pgRow t) (pgIdx t))) 81 58 (nI (1800 * k + t + 1)), L)) := by
  obtain ⟨r1, r2, r3⟩ := pgRow_lt ht
  have e0 : tuP N k t (pgRow t) (pgIdx t) = N (pgRow t) (pgIdx t) := by
    unfold tuP
    rw [if_neg (by omega), if_neg (fun z => (r3 z.1).1 z.2)]
  have e1 : tuP N k t 81 59 = 1 := by
    unfold tuP
    rw [if_neg (by omega), if_neg (by omega)]
    exact h59
  have e2 : tuP N k t 81 58 = nI (1800 * k + t) := by
    unfold tuP
    rw [if_neg (by omega), if_pos ⟨rfl, rfl⟩]
  have e3 : gup (tuP N k t) 123 (1800 * k + t) (N (pgRow t) (pgIdx t)) 81 58 = nI (1800 * k + t) := by
    rw [gup_row (by decide)]; exact e2
  rw [e0]
  unfold f_MO_turn J_MO_turn_32
  simp (disch := omega) only [gfd_eq, glet_eq, gbind_eq, nI_ltI, nI_1, gok_nI, grd_nI, nI_clamp, if_true, if_false, Nat.lt_irrefl, e1, e2, gst_nI, gsf_eq, e3, i10, gokT]
theorem tuP_G {N : gN} {k t : Nat} (ht : t < 1647) : gup (gup (gup (tuP N k t) 123 (1800 * k + t) (N (pgRow t) (pgIdx t))) 81 58 (nI (1800 * k + t + 1))) (pgRow t) (pgIdx t) (N (pgRow t) (pgIdx t)) = tuP N k (t + 1) := by
  obtain ⟨r1, r2, r3⟩ := pgRow_lt ht
  funext p q
  rw [gup_all, gup_all, gup_all]
  by_cases c1 : p = pgRow t ∧ q = pgIdx t
  · rw [if_pos c1, c1.1, c1.2]
    unfold tuP
    rw [if_neg (by omega), if_neg (fun z => (r3 z.1).1 z.2)]
  · rw [if_neg c1]
    by_cases c2 : p = 81 ∧ q = 58
    · rw [if_pos c2]
      unfold tuP
      rw [if_neg (by omega), if_pos c2, Nat.add_assoc]
    · rw [if_neg c2]
      by_cases c3 : p = 123 ∧ q = 1800 * k + t
      · rw [if_pos c3]
        unfold tuP
        rw [if_pos (by omega), c3.2, show 1800 * k + t - 1800 * k = t by omega]
      · rw [if_neg c3]
        unfold tuP
        by_cases c4 : p = 123 ∧ 1800 * k ≤ q ∧ q < 1800 * k + t
        · rw [if_pos c4, if_pos (by omega)]
        · rw [if_neg c4, if_neg c2, if_neg (by omega), if_neg c2]
theorem tuG_E {N : gN} {k t : Nat} {L : Nat → Nat → Int64} {x : Int32} (hk : k < 4) (ht : t < 1647) (h59 : N 81 59 = 0) : f_MO_turn x (tuG N k t, L) = some (N 123 (1800 * k + t), (gup (tuG N k t) 81 58 (nI (1800 * k + t + 1)), L)) := by
  have e1 : tuG N k t 81 59 = 0 := by
    unfold tuG
    rw [pg_no (Or.inr (Or.inr (by omega))), if_neg (by omega), if_neg (by omega)]
    exact h59
  have e2 : tuG N k t 81 58 = nI (1800 * k + t) := by
    unfold tuG
    rw [pg_no (Or.inr (Or.inr (by omega))), if_neg (by omega), if_pos ⟨rfl, rfl⟩]
  have e3 : tuG N k t 123 (1800 * k + t) = N 123 (1800 * k + t) := by
    unfold tuG
    rw [pg_no (Or.inr (Or.inl (by omega))), if_neg (by omega), if_neg (by omega)]
  unfold f_MO_turn J_MO_turn_32
  simp (disch := omega) only [gfd_eq, glet_eq, gbind_eq, nI_ltI, nI_1, gok_nI, grd_nI, nI_clamp, if_true, if_false, Nat.lt_irrefl, e1, e2, e3, gsf_eq, i10, gokT]
theorem tuG_G {N : gN} {k t : Nat} (ht : t < 1647) : gup (gup (tuG N k t) 81 58 (nI (1800 * k + t + 1))) (pgRow t) (pgIdx t) (N 123 (1800 * k + t)) = tuG N k (t + 1) := by
  funext p q
  rw [gup_all, gup_all]
  by_cases c1 : p = pgRow t ∧ q = pgIdx t
  · rw [if_pos c1, c1.1, c1.2]
    unfold tuG
    rw [pg_inv ht, if_pos (by omega)]
  · rw [if_neg c1]
    by_cases c2 : p = 81 ∧ q = 58
    · rw [if_pos c2]
      unfold tuG
      rw [pg_no (Or.inr (Or.inr (by omega))), if_neg (by omega), if_pos c2, Nat.add_assoc]
    · rw [if_neg c2]
      have hne : pgOff p q ≠ t := fun z => by
        have := pg_back (p := p) (q := q) (by omega)
        rw [z] at this
        exact c1 ⟨this.1.symm, this.2.symm⟩
      unfold tuG
      by_cases c4 : pgOff p q < t
      · rw [if_pos c4, if_pos (by omega)]
      · rw [if_neg c4, if_neg c2, if_neg (by omega), if_neg c2]
section TURN
variable {T : Nat → gN} {tM : Nat → gN} {tv : Nat → Int32} {L : Nat → Nat → Int64}

theorem L_MO_turnLand_38_T (hE : ∀ t, t < 1647 → f_MO_turn (T t (pgRow t) (pgIdx t)) (T t, L) = some (tv t, (tM t, L))) (hG : ∀ t, t < 1647 → gup (tM t) (pgRow t) (pgIdx t) (tv t) = T (t + 1)) (k : Int32 → gM → Option gM) : L_MO_turnLand_38 k 1000 0 (T 3, L) = k (nI 36) (T 147, L) := by
  unfold L_MO_turnLand_38
  refine gloopS0 (fun (f : Int32 → gM → Option gM) j (s : gM) => f (nI j) s) 36 (fun j => (T (3 + 4 * j), L)) _ rfl ?_ ?_ 1000 (by omega)
  · intro g j hj
    have r0 : pgRow (3 + 4 * j) = 82 ∧ pgIdx (3 + 4 * j) = j := by
      have := pg_r1 (t := 3 + 4 * j) (by omega) (by omega)
      rw [this.1, this.2]
      omega
    have E0 := hE (3 + 4 * j) (by omega)
    have G0 := hG (3 + 4 * j) (by omega)
    rw [r0.1, r0.2] at E0 G0
    have r1 : pgRow (3 + 4 * j + 1) = 83 ∧ pgIdx (3 + 4 * j + 1) = j := by
      have := pg_r1 (t := 3 + 4 * j + 1) (by omega) (by omega)
      rw [this.1, this.2]
      omega
    have E1 := hE (3 + 4 * j + 1) (by omega)
    have G1 := hG (3 + 4 * j + 1) (by omega)
    rw [r1.1, r1.2] at E1 G1
    rw [show 3 + 4 * j + 1 + 1 = 3 + 4 * j + 2 by omega] at G1
    have r2 : pgRow (3 + 4 * j + 2) = 84 ∧ pgIdx (3 + 4 * j + 2) = j := by
      have := pg_r1 (t := 3 + 4 * j + 2) (by omega) (by omega)
      rw [this.1, this.2]
      omega
    have E2 := hE (3 + 4 * j + 2) (by omega)
    have G2 := hG (3 + 4 * j + 2) (by omega)
    rw [r2.1, r2.2] at E2 G2
    rw [show 3 + 4 * j + 2 + 1 = 3 + 4 * j + 3 by omega] at G2
    have r3 : pgRow (3 + 4 * j + 3) = 85 ∧ pgIdx (3 + 4 * j + 3) = j := by
      have := pg_r1 (t := 3 + 4 * j + 3) (by omega) (by omega)
      rw [this.1, this.2]
      omega
    have E3 := hE (3 + 4 * j + 3) (by omega)
    have G3 := hG (3 + 4 * j + 3) (by omega)
    rw [r3.1, r3.2] at E3 G3
    rw [show 3 + 4 * j + 3 + 1 = 3 + 4 * (j + 1) by omega] at G3
    simp (disch := omega) only [gfd_eq, glet_eq, gbind_eq, nI_ltI, nI_1, gok_nI, grd_nI, nI_clamp, if_true, if_false, Nat.lt_irrefl, hj, show (36 : Int32) = nI 36 from rfl, gst_nI, E0, G0, E1, G1, E2, G2, E3, G3, i10, gokT]
  · intro g
    simp (disch := omega) only [gfd_eq, glet_eq, gbind_eq, nI_ltI, nI_1, gok_nI, grd_nI, nI_clamp, if_true, if_false, Nat.lt_irrefl, show (36 : Int32) = nI 36 from rfl, Nat.reduceMul, Nat.reduceAdd, i10, gokT]
theorem L_MO_turnLand_116_T (hE : ∀ t, t < 1647 → f_MO_turn (T t (pgRow t) (pgIdx t)) (T t, L) = some (tv t, (tM t, L))) (hG : ∀ t, t < 1647 → gup (tM t) (pgRow t) (pgIdx t) (tv t) = T (t + 1)) (k : Int32 → gM → Option gM) : L_MO_turnLand_116 k 1000 0 (T 147, L) = k (nI 324) (T 471, L) := by
  unfold L_MO_turnLand_116
  refine gloopS0 (fun (f : Int32 → gM → Option gM) j (s : gM) => f (nI j) s) 324 (fun j => (T (147 + 1 * j), L)) _ rfl ?_ ?_ 1000 (by omega)
  · intro g j hj
    have r0 : pgRow (147 + 1 * j) = 86 ∧ pgIdx (147 + 1 * j) = j := by
      have := pg_r2 (t := 147 + 1 * j) (by omega) (by omega)
      rw [this.1, this.2]
      omega
    have E0 := hE (147 + 1 * j) (by omega)
    have G0 := hG (147 + 1 * j) (by omega)
    rw [r0.1, r0.2] at E0 G0
    rw [show 147 + 1 * j + 1 = 147 + 1 * (j + 1) by omega] at G0
    simp (disch := omega) only [gfd_eq, glet_eq, gbind_eq, nI_ltI, nI_1, gok_nI, grd_nI, nI_clamp, if_true, if_false, Nat.lt_irrefl, hj, show (324 : Int32) = nI 324 from rfl, gst_nI, E0, G0, i10, gokT]
  · intro g
    simp (disch := omega) only [gfd_eq, glet_eq, gbind_eq, nI_ltI, nI_1, gok_nI, grd_nI, nI_clamp, if_true, if_false, Nat.lt_irrefl, show (324 : Int32) = nI 324 from rfl, Nat.reduceMul, Nat.reduceAdd, i10, gokT]
theorem L_MO_turnLand_147_T (hE : ∀ t, t < 1647 → f_MO_turn (T t (pgRow t) (pgIdx t)) (T t, L) = some (tv t, (tM t, L))) (hG : ∀ t, t < 1647 → gup (tM t) (pgRow t) (pgIdx t) (tv t) = T (t + 1)) (k : Int32 → gM → Option gM) : L_MO_turnLand_147 k 1000 0 (T 471, L) = k (nI 50) (T 521, L) := by
  unfold L_MO_turnLand_147
  refine gloopS0 (fun (f : Int32 → gM → Option gM) j (s : gM) => f (nI j) s) 50 (fun j => (T (471 + 1 * j), L)) _ rfl ?_ ?_ 1000 (by omega)
  · intro g j hj
    have r0 : pgRow (471 + 1 * j) = 103 ∧ pgIdx (471 + 1 * j) = j := by
      have := pg_r3 (t := 471 + 1 * j) (by omega) (by omega)
      rw [this.1, this.2]
      omega
    have E0 := hE (471 + 1 * j) (by omega)
    have G0 := hG (471 + 1 * j) (by omega)
    rw [r0.1, r0.2] at E0 G0
    rw [show 471 + 1 * j + 1 = 471 + 1 * (j + 1) by omega] at G0
    simp (disch := omega) only [gfd_eq, glet_eq, gbind_eq, nI_ltI, nI_1, gok_nI, grd_nI, nI_clamp, if_true, if_false, Nat.lt_irrefl, hj, show (50 : Int32) = nI 50 from rfl, gst_nI, E0, G0, i10, gokT]
  · intro g
    simp (disch := omega) only [gfd_eq, glet_eq, gbind_eq, nI_ltI, nI_1, gok_nI, grd_nI, nI_clamp, if_true, if_false, Nat.lt_irrefl, show (50 : Int32) = nI 50 from rfl, Nat.reduceMul, Nat.reduceAdd, i10, gokT]
theorem L_MO_turnLand_177_T (hE : ∀ t, t < 1647 → f_MO_turn (T t (pgRow t) (pgIdx t)) (T t, L) = some (tv t, (tM t, L))) (hG : ∀ t, t < 1647 → gup (tM t) (pgRow t) (pgIdx t) (tv t) = T (t + 1)) : L_MO_turnLand_177 1000 0 (T 521, L) = some (T 539, L) := by
  unfold L_MO_turnLand_177
  refine gloopS0 (fun (f : Int32 → gM → Option gM) j (s : gM) => f (nI j) s) 6 (fun j => (T (521 + 3 * j), L)) _ rfl ?_ ?_ 1000 (by omega)
  · intro g j hj
    have r0 : pgRow (521 + 3 * j) = 100 ∧ pgIdx (521 + 3 * j) = j := by
      have := pg_r4 (t := 521 + 3 * j) (by omega) (by omega)
      rw [this.1, this.2]
      omega
    have E0 := hE (521 + 3 * j) (by omega)
    have G0 := hG (521 + 3 * j) (by omega)
    rw [r0.1, r0.2] at E0 G0
    have r1 : pgRow (521 + 3 * j + 1) = 101 ∧ pgIdx (521 + 3 * j + 1) = j := by
      have := pg_r4 (t := 521 + 3 * j + 1) (by omega) (by omega)
      rw [this.1, this.2]
      omega
    have E1 := hE (521 + 3 * j + 1) (by omega)
    have G1 := hG (521 + 3 * j + 1) (by omega)
    rw [r1.1, r1.2] at E1 G1
    rw [show 521 + 3 * j + 1 + 1 = 521 + 3 * j + 2 by omega] at G1
    have r2 : pgRow (521 + 3 * j + 2) = 102 ∧ pgIdx (521 + 3 * j + 2) = j := by
      have := pg_r4 (t := 521 + 3 * j + 2) (by omega) (by omega)
      rw [this.1, this.2]
      omega
    have E2 := hE (521 + 3 * j + 2) (by omega)
    have G2 := hG (521 + 3 * j + 2) (by omega)
    rw [r2.1, r2.2] at E2 G2
    rw [show 521 + 3 * j + 2 + 1 = 521 + 3 * (j + 1) by omega] at G2
    simp (disch := omega) only [gfd_eq, glet_eq, gbind_eq, nI_ltI, nI_1, gok_nI, grd_nI, nI_clamp, if_true, if_false, Nat.lt_irrefl, hj, show (6 : Int32) = nI 6 from rfl, gst_nI, E0, G0, E1, G1, E2, G2, i10, gokT]
  · intro g
    simp (disch := omega) only [gfd_eq, glet_eq, gbind_eq, nI_ltI, nI_1, gok_nI, grd_nI, nI_clamp, if_true, if_false, Nat.lt_irrefl, show (6 : Int32) = nI 6 from rfl, Nat.reduceMul, Nat.reduceAdd, i10, gokT]
theorem L_MO_turnPapers_2_T (hE : ∀ t, t < 1647 → f_MO_turn (T t (pgRow t) (pgIdx t)) (T t, L) = some (tv t, (tM t, L))) (hG : ∀ t, t < 1647 → gup (tM t) (pgRow t) (pgIdx t) (tv t) = T (t + 1)) (k : Int32 → gM → Option gM) : L_MO_turnPapers_2 k 1000 0 (T 539, L) = k (nI 8) (T 547, L) := by
  unfold L_MO_turnPapers_2
  refine gloopS0 (fun (f : Int32 → gM → Option gM) j (s : gM) => f (nI j) s) 8 (fun j => (T (539 + 1 * j), L)) _ rfl ?_ ?_ 1000 (by omega)
  · intro g j hj
    have r0 : pgRow (539 + 1 * j) = 87 ∧ pgIdx (539 + 1 * j) = j := by
      have := pg_r5 (t := 539 + 1 * j) (by omega) (by omega)
      rw [this.1, this.2]
      omega
    have E0 := hE (539 + 1 * j) (by omega)
    have G0 := hG (539 + 1 * j) (by omega)
    rw [r0.1, r0.2] at E0 G0
    rw [show 539 + 1 * j + 1 = 539 + 1 * (j + 1) by omega] at G0
    simp (disch := omega) only [gfd_eq, glet_eq, gbind_eq, nI_ltI, nI_1, gok_nI, grd_nI, nI_clamp, if_true, if_false, Nat.lt_irrefl, hj, show (8 : Int32) = nI 8 from rfl, gst_nI, E0, G0, i10, gokT]
  · intro g
    simp (disch := omega) only [gfd_eq, glet_eq, gbind_eq, nI_ltI, nI_1, gok_nI, grd_nI, nI_clamp, if_true, if_false, Nat.lt_irrefl, show (8 : Int32) = nI 8 from rfl, Nat.reduceMul, Nat.reduceAdd, i10, gokT]
theorem L_MO_turnPapers_44_T (hE : ∀ t, t < 1647 → f_MO_turn (T t (pgRow t) (pgIdx t)) (T t, L) = some (tv t, (tM t, L))) (hG : ∀ t, t < 1647 → gup (tM t) (pgRow t) (pgIdx t) (tv t) = T (t + 1)) (k : Int32 → gM → Option gM) : L_MO_turnPapers_44 k 1000 0 (T 548, L) = k (nI 12) (T 596, L) := by
  unfold L_MO_turnPapers_44
  refine gloopS0 (fun (f : Int32 → gM → Option gM) j (s : gM) => f (nI j) s) 12 (fun j => (T (548 + 4 * j), L)) _ rfl ?_ ?_ 1000 (by omega)
  · intro g j hj
    have r0 : pgRow (548 + 4 * j) = 88 ∧ pgIdx (548 + 4 * j) = j := by
      have := pg_r7 (t := 548 + 4 * j) (by omega) (by omega)
      rw [this.1, this.2]
      omega
    have E0 := hE (548 + 4 * j) (by omega)
    have G0 := hG (548 + 4 * j) (by omega)
    rw [r0.1, r0.2] at E0 G0
    have r1 : pgRow (548 + 4 * j + 1) = 89 ∧ pgIdx (548 + 4 * j + 1) = j := by
      have := pg_r7 (t := 548 + 4 * j + 1) (by omega) (by omega)
      rw [this.1, this.2]
      omega
    have E1 := hE (548 + 4 * j + 1) (by omega)
    have G1 := hG (548 + 4 * j + 1) (by omega)
    rw [r1.1, r1.2] at E1 G1
    rw [show 548 + 4 * j + 1 + 1 = 548 + 4 * j + 2 by omega] at G1
    have r2 : pgRow (548 + 4 * j + 2) = 90 ∧ pgIdx (548 + 4 * j + 2) = j := by
      have := pg_r7 (t := 548 + 4 * j + 2) (by omega) (by omega)
      rw [this.1, this.2]
      omega
    have E2 := hE (548 + 4 * j + 2) (by omega)
    have G2 := hG (548 + 4 * j + 2) (by omega)
    rw [r2.1, r2.2] at E2 G2
    rw [show 548 + 4 * j + 2 + 1 = 548 + 4 * j + 3 by omega] at G2
    have r3 : pgRow (548 + 4 * j + 3) = 91 ∧ pgIdx (548 + 4 * j + 3) = j := by
      have := pg_r7 (t := 548 + 4 * j + 3) (by omega) (by omega)
      rw [this.1, this.2]
      omega
    have E3 := hE (548 + 4 * j + 3) (by omega)
    have G3 := hG (548 + 4 * j + 3) (by omega)
    rw [r3.1, r3.2] at E3 G3
    rw [show 548 + 4 * j + 3 + 1 = 548 + 4 * (j + 1) by omega] at G3
    simp (disch := omega) only [gfd_eq, glet_eq, gbind_eq, nI_ltI, nI_1, gok_nI, grd_nI, nI_clamp, if_true, if_false, Nat.lt_irrefl, hj, show (12 : Int32) = nI 12 from rfl, gst_nI, E0, G0, E1, G1, E2, G2, E3, G3, i10, gokT]
  · intro g
    simp (disch := omega) only [gfd_eq, glet_eq, gbind_eq, nI_ltI, nI_1, gok_nI, grd_nI, nI_clamp, if_true, if_false, Nat.lt_irrefl, show (12 : Int32) = nI 12 from rfl, Nat.reduceMul, Nat.reduceAdd, i10, gokT]
theorem L_MO_turnPapers_134_T (hE : ∀ t, t < 1647 → f_MO_turn (T t (pgRow t) (pgIdx t)) (T t, L) = some (tv t, (tM t, L))) (hG : ∀ t, t < 1647 → gup (tM t) (pgRow t) (pgIdx t) (tv t) = T (t + 1)) (k : Int32 → gM → Option gM) : L_MO_turnPapers_134 k 1000 0 (T 597, L) = k (nI 14) (T 681, L) := by
  unfold L_MO_turnPapers_134
  refine gloopS0 (fun (f : Int32 → gM → Option gM) j (s : gM) => f (nI j) s) 14 (fun j => (T (597 + 6 * j), L)) _ rfl ?_ ?_ 1000 (by omega)
  · intro g j hj
    have r0 : pgRow (597 + 6 * j) = 92 ∧ pgIdx (597 + 6 * j) = j := by
      have := pg_r9 (t := 597 + 6 * j) (by omega) (by omega)
      rw [this.1, this.2]
      omega
    have E0 := hE (597 + 6 * j) (by omega)
    have G0 := hG (597 + 6 * j) (by omega)
    rw [r0.1, r0.2] at E0 G0
    have r1 : pgRow (597 + 6 * j + 1) = 93 ∧ pgIdx (597 + 6 * j + 1) = j := by
      have := pg_r9 (t := 597 + 6 * j + 1) (by omega) (by omega)
      rw [this.1, this.2]
      omega
    have E1 := hE (597 + 6 * j + 1) (by omega)
    have G1 := hG (597 + 6 * j + 1) (by omega)
    rw [r1.1, r1.2] at E1 G1
    rw [show 597 + 6 * j + 1 + 1 = 597 + 6 * j + 2 by omega] at G1
    have r2 : pgRow (597 + 6 * j + 2) = 94 ∧ pgIdx (597 + 6 * j + 2) = j := by
      have := pg_r9 (t := 597 + 6 * j + 2) (by omega) (by omega)
      rw [this.1, this.2]
      omega
    have E2 := hE (597 + 6 * j + 2) (by omega)
    have G2 := hG (597 + 6 * j + 2) (by omega)
    rw [r2.1, r2.2] at E2 G2
    rw [show 597 + 6 * j + 2 + 1 = 597 + 6 * j + 3 by omega] at G2
    have r3 : pgRow (597 + 6 * j + 3) = 95 ∧ pgIdx (597 + 6 * j + 3) = j := by
      have := pg_r9 (t := 597 + 6 * j + 3) (by omega) (by omega)
      rw [this.1, this.2]
      omega
    have E3 := hE (597 + 6 * j + 3) (by omega)
    have G3 := hG (597 + 6 * j + 3) (by omega)
    rw [r3.1, r3.2] at E3 G3
    rw [show 597 + 6 * j + 3 + 1 = 597 + 6 * j + 4 by omega] at G3
    have r4 : pgRow (597 + 6 * j + 4) = 96 ∧ pgIdx (597 + 6 * j + 4) = j := by
      have := pg_r9 (t := 597 + 6 * j + 4) (by omega) (by omega)
      rw [this.1, this.2]
      omega
    have E4 := hE (597 + 6 * j + 4) (by omega)
    have G4 := hG (597 + 6 * j + 4) (by omega)
    rw [r4.1, r4.2] at E4 G4
    rw [show 597 + 6 * j + 4 + 1 = 597 + 6 * j + 5 by omega] at G4
    have r5 : pgRow (597 + 6 * j + 5) = 97 ∧ pgIdx (597 + 6 * j + 5) = j := by
      have := pg_r9 (t := 597 + 6 * j + 5) (by omega) (by omega)
      rw [this.1, this.2]
      omega
    have E5 := hE (597 + 6 * j + 5) (by omega)
    have G5 := hG (597 + 6 * j + 5) (by omega)
    rw [r5.1, r5.2] at E5 G5
    rw [show 597 + 6 * j + 5 + 1 = 597 + 6 * (j + 1) by omega] at G5
    simp (disch := omega) only [gfd_eq, glet_eq, gbind_eq, nI_ltI, nI_1, gok_nI, grd_nI, nI_clamp, if_true, if_false, Nat.lt_irrefl, hj, show (14 : Int32) = nI 14 from rfl, gst_nI, E0, G0, E1, G1, E2, G2, E3, G3, E4, G4, E5, G5, i10, gokT]
  · intro g
    simp (disch := omega) only [gfd_eq, glet_eq, gbind_eq, nI_ltI, nI_1, gok_nI, grd_nI, nI_clamp, if_true, if_false, Nat.lt_irrefl, show (14 : Int32) = nI 14 from rfl, Nat.reduceMul, Nat.reduceAdd, i10, gokT]
theorem L_MO_turnPapers_244_T (hE : ∀ t, t < 1647 → f_MO_turn (T t (pgRow t) (pgIdx t)) (T t, L) = some (tv t, (tM t, L))) (hG : ∀ t, t < 1647 → gup (tM t) (pgRow t) (pgIdx t) (tv t) = T (t + 1)) (k : Int32 → gM → Option gM) : L_MO_turnPapers_244 k 1000 0 (T 681, L) = k (nI 126) (T 807, L) := by
  unfold L_MO_turnPapers_244
  refine gloopS0 (fun (f : Int32 → gM → Option gM) j (s : gM) => f (nI j) s) 126 (fun j => (T (681 + 1 * j), L)) _ rfl ?_ ?_ 1000 (by omega)
  · intro g j hj
    have r0 : pgRow (681 + 1 * j) = 98 ∧ pgIdx (681 + 1 * j) = j := by
      have := pg_r10 (t := 681 + 1 * j) (by omega) (by omega)
      rw [this.1, this.2]
      omega
    have E0 := hE (681 + 1 * j) (by omega)
    have G0 := hG (681 + 1 * j) (by omega)
    rw [r0.1, r0.2] at E0 G0
    rw [show 681 + 1 * j + 1 = 681 + 1 * (j + 1) by omega] at G0
    simp (disch := omega) only [gfd_eq, glet_eq, gbind_eq, nI_ltI, nI_1, gok_nI, grd_nI, nI_clamp, if_true, if_false, Nat.lt_irrefl, hj, show (126 : Int32) = nI 126 from rfl, gst_nI, E0, G0, i10, gokT]
  · intro g
    simp (disch := omega) only [gfd_eq, glet_eq, gbind_eq, nI_ltI, nI_1, gok_nI, grd_nI, nI_clamp, if_true, if_false, Nat.lt_irrefl, show (126 : Int32) = nI 126 from rfl, Nat.reduceMul, Nat.reduceAdd, i10, gokT]
theorem L_MO_turnPapers_274_T (hE : ∀ t, t < 1647 → f_MO_turn (T t (pgRow t) (pgIdx t)) (T t, L) = some (tv t, (tM t, L))) (hG : ∀ t, t < 1647 → gup (tM t) (pgRow t) (pgIdx t) (tv t) = T (t + 1)) : L_MO_turnPapers_274 1000 0 (T 807, L) = some (T 1647, L) := by
  unfold L_MO_turnPapers_274
  refine gloopS0 (fun (f : Int32 → gM → Option gM) j (s : gM) => f (nI j) s) 840 (fun j => (T (807 + 1 * j), L)) _ rfl ?_ ?_ 1000 (by omega)
  · intro g j hj
    have r0 : pgRow (807 + 1 * j) = 99 ∧ pgIdx (807 + 1 * j) = j := by
      have := pg_r11 (t := 807 + 1 * j) (by omega) (by omega)
      rw [this.1, this.2]
      omega
    have E0 := hE (807 + 1 * j) (by omega)
    have G0 := hG (807 + 1 * j) (by omega)
    rw [r0.1, r0.2] at E0 G0
    rw [show 807 + 1 * j + 1 = 807 + 1 * (j + 1) by omega] at G0
    simp (disch := omega) only [gfd_eq, glet_eq, gbind_eq, nI_ltI, nI_1, gok_nI, grd_nI, nI_clamp, if_true, if_false, Nat.lt_irrefl, hj, show (840 : Int32) = nI 840 from rfl, gst_nI, E0, G0, i10, gokT]
  · intro g
    simp (disch := omega) only [gfd_eq, glet_eq, gbind_eq, nI_ltI, nI_1, gok_nI, grd_nI, nI_clamp, if_true, if_false, Nat.lt_irrefl, show (840 : Int32) = nI 840 from rfl, Nat.reduceMul, Nat.reduceAdd, i10, gokT]
theorem turnLand_T (hE : ∀ t, t < 1647 → f_MO_turn (T t (pgRow t) (pgIdx t)) (T t, L) = some (tv t, (tM t, L))) (hG : ∀ t, t < 1647 → gup (tM t) (pgRow t) (pgIdx t) (tv t) = T (t + 1)) : f_MO_turnLand (T 0, L) = some (T 539, L) := by
  have E0 : f_MO_turn (T 0 81 0) (T 0, L) = some (tv 0, (tM 0, L)) := hE 0 (by decide)
  have G0 : gup (tM 0) 81 0 (tv 0) = T 1 := hG 0 (by decide)
  have E1 : f_MO_turn (T 1 81 1) (T 1, L) = some (tv 1, (tM 1, L)) := hE 1 (by decide)
  have G1 : gup (tM 1) 81 1 (tv 1) = T 2 := hG 1 (by decide)
  have E2 : f_MO_turn (T 2 81 2) (T 2, L) = some (tv 2, (tM 2, L)) := hE 2 (by decide)
  have G2 : gup (tM 2) 81 2 (tv 2) = T 3 := hG 2 (by decide)
  unfold f_MO_turnLand
  rw [gfd_eq, E0, gbind_eq, glet_eq, gsf_eq]
  show ((f_MO_turn (gfd (gup (tM 0) 81 0 (tv 0), L) 81 1) (gup (tM 0) 81 0 (tv 0), L)).bind _) = _
  rw [G0, gfd_eq, E1, gbind_eq, glet_eq, gsf_eq]
  show ((f_MO_turn (gfd (gup (tM 1) 81 1 (tv 1), L) 81 2) (gup (tM 1) 81 1 (tv 1), L)).bind _) = _
  rw [G1, gfd_eq, E2, gbind_eq, glet_eq, gsf_eq]
  show L_MO_turnLand_38 _ 1000 0 (gup (tM 2) 81 2 (tv 2), L) = _
  rw [G2, L_MO_turnLand_38_T hE hG]
  unfold J_MO_turnLand_114
  rw [L_MO_turnLand_116_T hE hG]
  unfold J_MO_turnLand_145
  rw [L_MO_turnLand_147_T hE hG]
  unfold J_MO_turnLand_175
  rw [L_MO_turnLand_177_T hE hG]
theorem turnPapers_T (hE : ∀ t, t < 1647 → f_MO_turn (T t (pgRow t) (pgIdx t)) (T t, L) = some (tv t, (tM t, L))) (hG : ∀ t, t < 1647 → gup (tM t) (pgRow t) (pgIdx t) (tv t) = T (t + 1)) : f_MO_turnPapers (T 539, L) = some (T 1647, L) := by
  have E10 : f_MO_turn (T 547 81 10) (T 547, L) = some (tv 547, (tM 547, L)) := hE 547 (by decide)
  have G10 : gup (tM 547) 81 10 (tv 547) = T 548 := hG 547 (by decide)
  have E15 : f_MO_turn (T 596 81 15) (T 596, L) = some (tv 596, (tM 596, L)) := hE 596 (by decide)
  have G15 : gup (tM 596) 81 15 (tv 596) = T 597 := hG 596 (by decide)
  unfold f_MO_turnPapers
  rw [L_MO_turnPapers_2_T hE hG]
  unfold J_MO_turnPapers_30
  rw [gfd_eq, E10, gbind_eq, glet_eq, gsf_eq]
  show L_MO_turnPapers_44 _ 1000 0 (gup (tM 547) 81 10 (tv 547), L) = _
  rw [G10, L_MO_turnPapers_44_T hE hG]
  unfold J_MO_turnPapers_120
  rw [gfd_eq, E15, gbind_eq, glet_eq, gsf_eq]
  show L_MO_turnPapers_134 _ 1000 0 (gup (tM 596) 81 15 (tv 596), L) = _
  rw [G15, L_MO_turnPapers_134_T hE hG]
  unfold J_MO_turnPapers_242
  rw [L_MO_turnPapers_244_T hE hG]
  unfold J_MO_turnPapers_272
  rw [L_MO_turnPapers_274_T hE hG]
end TURN
/-- the page k filled from the field that is now; the field that is now taken from page k -/
def pgN (N : gN) (k : Nat) (b : Int32) : gN := gup (gup N 81 58 (nI (1800 * k))) 81 59 b
theorem tuP_0 (N : gN) (k : Nat) (b : Int32) : tuP (pgN N k b) k 0 = pgN N k b := by
  funext p q
  unfold tuP
  rw [if_neg (by omega)]
  by_cases c : p = 81 ∧ q = 58
  · rw [if_pos c, c.1, c.2]
    unfold pgN
    rw [gup_col (by decide), gup_at]
    rfl
  · rw [if_neg c]
theorem tuG_0 (N : gN) (k : Nat) (b : Int32) : tuG (pgN N k b) k 0 = pgN N k b := by
  funext p q
  unfold tuG
  rw [if_neg (by omega)]
  by_cases c : p = 81 ∧ q = 58
  · rw [if_pos c, c.1, c.2]
    unfold pgN
    rw [gup_col (by decide), gup_at]
    rfl
  · rw [if_neg c]
theorem mo_pageP {k : Nat} (hk : k < 4) (m : gM) : f_MO_turnPage (nI k) 1 m = some (tuP (pgN m.1 k 1) k 1647, m.2) := by
  have h59 : pgN m.1 k 1 81 59 = 1 := gup_at _ _ _ _
  have a := turnLand_T (T := tuP (pgN m.1 k 1) k) (L := m.2) (fun t ht => tuP_E hk ht h59) (fun t ht => tuP_G ht)
  have b := turnPapers_T (T := tuP (pgN m.1 k 1) k) (L := m.2) (fun t ht => tuP_E hk ht h59) (fun t ht => tuP_G ht)
  rw [tuP_0] at a
  unfold f_MO_turnPage
  rw [glet_eq, gzo_t (Or.inr rfl), glet_eq, gsf_eq, gsf_eq, show (1800 : Int32) = nI 1800 from rfl, pk_mul]
  show ((f_MO_turnLand (pgN m.1 k 1, m.2)).bind _) = _
  rw [a, gbind_eq, b, gbind_eq]
theorem mo_pageG {k : Nat} (hk : k < 4) (m : gM) : f_MO_turnPage (nI k) 0 m = some (tuG (pgN m.1 k 0) k 1647, m.2) := by
  have h59 : pgN m.1 k 0 81 59 = 0 := gup_at _ _ _ _
  have a := turnLand_T (T := tuG (pgN m.1 k 0) k) (L := m.2) (fun t ht => tuG_E hk ht h59) (fun t ht => tuG_G ht)
  have b := turnPapers_T (T := tuG (pgN m.1 k 0) k) (L := m.2) (fun t ht => tuG_E hk ht h59) (fun t ht => tuG_G ht)
  rw [tuG_0] at a
  unfold f_MO_turnPage
  rw [glet_eq, gzo_t (Or.inl rfl), glet_eq, gsf_eq, gsf_eq, show (1800 : Int32) = nI 1800 from rfl, pk_mul]
  show ((f_MO_turnLand (pgN m.1 k 0, m.2)).bind _) = _
  rw [a, gbind_eq, b, gbind_eq]
