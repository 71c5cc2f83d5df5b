/-! ===== what calls ask of their numbers, on both sides ===== -/
abbrev gN : Type := Nat → Nat → Int32
theorem gib_iff {x : Int32} {n : Nat} : gib x n = true ↔ ∃ j, j < n ∧ x = nI j ∧ j < 2 ^ 31 := by
  constructor
  · intro h
    unfold gib at h
    rw [Bool.and_eq_true, decide_eq_true_eq, decide_eq_true_eq] at h
    obtain ⟨j, hj, e⟩ := nI_of (Int32.not_lt.mpr h.1)
    subst e
    rw [nI_clamp hj] at h
    exact ⟨j, h.2, rfl, hj⟩
  · rintro ⟨j, h1, rfl, h2⟩
    unfold gib
    rw [Bool.and_eq_true, decide_eq_true_eq, decide_eq_true_eq, nI_clamp h2]
    exact ⟨nI_pos' h2, h1⟩
theorem gchk {α : Type} {x : Int32} {n : Nat} (hn : n < 2 ^ 31) {A B : α} : (if x < 0 then A else if x < nI n then B else A) = if gib x n = true then B else A := by
  by_cases h0 : x < 0
  · have : ¬ gib x n = true := fun h => by
      obtain ⟨j, h1, rfl, h2⟩ := gib_iff.mp h
      exact nI_pos h2 h0
    rw [if_pos h0, if_neg this]
  · obtain ⟨j, hj, rfl⟩ := nI_of h0
    rw [if_neg h0]
    by_cases h1 : j < n
    · rw [if_pos (nI_lt h1 hn), if_pos (gib_iff.mpr ⟨j, h1, rfl, hj⟩)]
    · rw [if_neg (nI_nlt (by omega) hj), if_neg (fun h => ?_)]
      obtain ⟨i, h2, h3, h4⟩ := gib_iff.mp h
      have := (nI_eq hj h4).mp h3
      omega
theorem gl_lt (x y : Int32) : (x.toInt64 < y.toInt64) ↔ x < y := by
  rw [Int64.lt_iff_toInt_lt, Int32.lt_iff_toInt_lt, Int32.toInt_toInt64, Int32.toInt_toInt64]
theorem mo_in (x a b : Int32) (m : gM) : f_MO_in x.toInt64 a.toInt64 b.toInt64 m = some (if x < a then 0 else if b < x then 0 else 1, m) := by
  unfold f_MO_in
  by_cases h1 : x < a
  · rw [if_pos ((lg_cmp_lt _ _).mpr ((gl_lt _ _).mpr h1)), if_pos h1]
  · rw [if_neg (fun z => h1 ((gl_lt _ _).mp ((lg_cmp_lt _ _).mp z))), if_neg h1]
    by_cases h2 : b < x
    · rw [if_pos ((lg_cmp_gt _ _).mpr ((gl_lt _ _).mpr h2)), if_pos h2]
    · rw [if_neg (fun z => h2 ((gl_lt _ _).mp ((lg_cmp_gt _ _).mp z))), if_neg h2]
theorem nI_sub1 {n : Nat} (hn : n < 2 ^ 31) (x : Int32) (hx : ¬ x < 0) : (nI n - 1 < x) ↔ ¬ x < nI n := by
  obtain ⟨j, hj, rfl⟩ := nI_of hx
  cases n with
  | zero =>
    constructor
    · intro _
      exact nI_pos hj
    · intro _
      rw [Int32.lt_iff_toInt_lt, nI_toInt hj]
      have : (nI 0 - 1).toInt = -1 := by decide
      rw [this]
      omega
  | succ n =>
    rw [nI_pred]
    constructor
    · intro h
      have := (nI_ltI (by omega) hj).mp h
      exact nI_nlt (by omega) hj
    · intro h
      refine nI_lt ?_ hj
      rcases Nat.lt_or_ge n j with q | q
      · exact q
      · exact absurd (nI_lt (by omega) hn) h
theorem mo_in0 {x : Int32} {n : Nat} (hn : n < 2 ^ 31) (m : gM) : f_MO_in x.toInt64 (Int32.toInt64 0) (nI n - 1).toInt64 m = some (if gib x n = true then 1 else 0, m) := by
  rw [mo_in]
  congr 2
  rw [← gchk (A := (0 : Int32)) (B := 1) hn]
  by_cases h0 : x < 0
  · rw [if_pos h0, if_pos h0]
  · rw [if_neg h0, if_neg h0]
    by_cases h1 : x < nI n
    · rw [if_neg (fun z => (nI_sub1 hn x h0).mp z h1), if_pos h1]
    · rw [if_pos ((nI_sub1 hn x h0).mpr h1), if_neg h1]
theorem gzo_b {R : Type} {b : Bool} {o : Option R} : gzo (if b = true then (1 : Int32) else 0) o = o := by
  cases b
  · exact gzo_t (Or.inl rfl)
  · exact gzo_t (Or.inr rfl)
theorem gb01 {α : Type} {b : Bool} {A B : α} : (if (if b = true then (1 : Int32) else 0) = 0 then A else B) = if b = true then B else A := by
  cases b
  · rfl
  · rfl
theorem gup_ne {N : gN} {a i p : Nat} {x : Int32} (h : p ≠ a) : gup N a i x p = N p := by
  funext q
  exact gup_row h
theorem gup_eq (N : gN) (a i : Nat) (x : Int32) : gup N a i x a = fun q => if q = i then x else N a q := by
  funext q
  rw [gup_all]
  simp
/-- a place in a row that is in its bounds, or not -/
theorem gib_cases (x : Int32) (n : Nat) : (gib x n = false) ∨ ∃ j, j < n ∧ x = nI j ∧ j < 2 ^ 31 := by
  cases h : gib x n with
  | false => exact Or.inl rfl
  | true => exact Or.inr (gib_iff.mp h)
-- the class
theorem ot_within {x : Int32} {n : Nat} (hn : n + 1 < 2 ^ 31) (m : gM) : f_OT_within x (nI n) m = some (if gib x (n + 1) = true then 1 else 0, m) := by
  unfold f_OT_within
  rw [← gchk (A := (0 : Int32)) (B := 1) (n := n + 1) hn]
  by_cases h0 : x < 0
  · rw [if_pos h0, if_pos h0]
  · rw [if_neg h0, if_neg h0]
    obtain ⟨j, hj, rfl⟩ := nI_of h0
    by_cases h1 : j ≤ n
    · rw [if_neg (nI_nlt h1 (by omega)), if_pos (nI_lt (by omega) hn)]
    · rw [if_pos (nI_lt (by omega) hj), if_neg (nI_nlt (by omega) hj)]
theorem ot_isLot (x : Int32) (m : gM) : f_OT_isLot x m = some (if gib x 8 = true then 1 else 0, m) := by
  unfold f_OT_isLot
  have := gchk (α := Option (Int32 × gM)) (x := x) (n := 8) (by decide) (A := some (0, m)) (B := some (1, m))
  refine Eq.trans this ?_
  cases gib x 8 <;> rfl
theorem ot_hasCell {x : Int32} {n : Nat} (hn : n < 2 ^ 31) {m : gM} (h : m.1 3 2 = nI n) : f_OT_hasCell x m = some (if gib x n = true then 1 else 0, m) := by
  unfold f_OT_hasCell f_Pool_has
  rw [gfd_eq, h, gchk hn]
  cases gib x n
  · exact gzo_t (Or.inl rfl)
  · exact gzo_t (Or.inr rfl)
theorem ot_isPerson {x : Int32} {n : Nat} (hn : n < 2 ^ 31) {m : gM} (h : m.1 0 3 = nI n) : f_OT_isPerson x m = some (if gib x n = true then 1 else 0, m) := by
  unfold f_OT_isPerson
  rw [gfd_eq, h, gchk hn]
  cases gib x n <;> rfl
theorem ot_isWell {x : Int32} {n : Nat} (hn : n < 2 ^ 31) {m : gM} (h : m.1 18 0 = nI n) : f_OT_isWell x m = some (if gib x n = true then 1 else 0, m) := by
  unfold f_OT_isWell
  rw [gfd_eq, h, gchk hn]
  cases gib x n <;> rfl
-- the reference
theorem mo_isCell {x : Int32} {w h : Nat} {m : gM} (h0 : m.1 81 0 = nI w) (h1 : m.1 81 1 = nI h) (hn : w * h < 2 ^ 31) : f_MO_isCell x m = some (if gib x (w * h) = true then 1 else 0, m) := by
  unfold f_MO_isCell f_MO_cells
  rw [gbind_eq, gfd_eq, gfd_eq, h0, h1, pk_mul, mo_in0 hn, gbind_eq, gzo_b]
theorem mo_isLot (x : Int32) (m : gM) : f_MO_isLot x m = some (if gib x 8 = true then 1 else 0, m) := by
  unfold f_MO_isLot
  rw [show (Int32.toInt64 7) = (nI 8 - 1).toInt64 from rfl, mo_in0 (by decide), gbind_eq, gzo_b]
theorem mo_isPerson {x : Int32} {n : Nat} {m : gM} (h : m.1 81 8 = nI n) (hn : n < 2 ^ 31) : f_MO_isPerson x m = some (if gib x n = true then 1 else 0, m) := by
  unfold f_MO_isPerson
  rw [gfd_eq, h, mo_in0 hn, gbind_eq, gzo_b]
theorem mo_isWell {x : Int32} {n : Nat} {m : gM} (h : m.1 81 15 = nI n) (hn : n < 2 ^ 31) : f_MO_isWell x m = some (if gib x n = true then 1 else 0, m) := by
  unfold f_MO_isWell
  rw [gfd_eq, h, mo_in0 hn, gbind_eq, gzo_b]
