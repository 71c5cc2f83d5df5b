/-! ===== cell ===== -/
theorem fvL_g82 (N : gN) (f : Nat → Int32) : fvL (grw N 82 f) = grw (fvL N) 0 f := by
  funext sel
  match sel with
  | 0 => rfl
  | 1 => rfl
  | 2 => rfl
  | 3 => rfl
  | 4 => rfl
  | 5 => rfl
  | 6 => rfl
  | 7 => rfl
  | 8 => rfl
  | 9 => rfl
  | 10 => rfl
  | 11 => rfl
  | 12 => rfl
  | 13 => rfl
  | 14 => rfl
  | 15 => rfl
  | 16 => rfl
  | 17 => rfl
  | 18 => rfl
  | 19 => rfl
  | 20 => rfl
  | 21 => rfl
  | sel + 22 =>
    rw [grw_ne (show sel + 22 ≠ 0 by omega)]
    funext i
    match i with
    | 0 => rfl
    | 1 => rfl
    | 2 => rfl
    | 3 => rfl
    | 4 => rfl
    | i + 5 => rfl
theorem fvL_g83 (N : gN) (f : Nat → Int32) : fvL (grw N 83 f) = grw (fvL N) 1 f := by
  funext sel
  match sel with
  | 0 => rfl
  | 1 => rfl
  | 2 => rfl
  | 3 => rfl
  | 4 => rfl
  | 5 => rfl
  | 6 => rfl
  | 7 => rfl
  | 8 => rfl
  | 9 => rfl
  | 10 => rfl
  | 11 => rfl
  | 12 => rfl
  | 13 => rfl
  | 14 => rfl
  | 15 => rfl
  | 16 => rfl
  | 17 => rfl
  | 18 => rfl
  | 19 => rfl
  | 20 => rfl
  | 21 => rfl
  | sel + 22 =>
    rw [grw_ne (show sel + 22 ≠ 1 by omega)]
    funext i
    match i with
    | 0 => rfl
    | 1 => rfl
    | 2 => rfl
    | 3 => rfl
    | 4 => rfl
    | i + 5 => rfl
theorem fvL_g84 (N : gN) (f : Nat → Int32) : fvL (grw N 84 f) = grw (fvL N) 2 f := by
  funext sel
  match sel with
  | 0 => rfl
  | 1 => rfl
  | 2 => rfl
  | 3 => rfl
  | 4 => rfl
  | 5 => rfl
  | 6 => rfl
  | 7 => rfl
  | 8 => rfl
  | 9 => rfl
  | 10 => rfl
  | 11 => rfl
  | 12 => rfl
  | 13 => rfl
  | 14 => rfl
  | 15 => rfl
  | 16 => rfl
  | 17 => rfl
  | 18 => rfl
  | 19 => rfl
  | 20 => rfl
  | 21 => rfl
  | sel + 22 =>
    rw [grw_ne (show sel + 22 ≠ 2 by omega)]
    funext i
    match i with
    | 0 => rfl
    | 1 => rfl
    | 2 => rfl
    | 3 => rfl
    | 4 => rfl
    | i + 5 => rfl
theorem fvL_g85 (N : gN) (f : Nat → Int32) : fvL (grw N 85 f) = grw (fvL N) 3 f := by
  funext sel
  match sel with
  | 0 => rfl
  | 1 => rfl
  | 2 => rfl
  | 3 => rfl
  | 4 => rfl
  | 5 => rfl
  | 6 => rfl
  | 7 => rfl
  | 8 => rfl
  | 9 => rfl
  | 10 => rfl
  | 11 => rfl
  | 12 => rfl
  | 13 => rfl
  | 14 => rfl
  | 15 => rfl
  | 16 => rfl
  | 17 => rfl
  | 18 => rfl
  | 19 => rfl
  | 20 => rfl
  | 21 => rfl
  | sel + 22 =>
    rw [grw_ne (show sel + 22 ≠ 3 by omega)]
    funext i
    match i with
    | 0 => rfl
    | 1 => rfl
    | 2 => rfl
    | 3 => rfl
    | 4 => rfl
    | i + 5 => rfl
theorem fvL_g86 (N : gN) (f : Nat → Int32) : fvL (grw N 86 f) = grw (fvL N) 4 f := by
  funext sel
  match sel with
  | 0 => rfl
  | 1 => rfl
  | 2 => rfl
  | 3 => rfl
  | 4 => rfl
  | 5 => rfl
  | 6 => rfl
  | 7 => rfl
  | 8 => rfl
  | 9 => rfl
  | 10 => rfl
  | 11 => rfl
  | 12 => rfl
  | 13 => rfl
  | 14 => rfl
  | 15 => rfl
  | 16 => rfl
  | 17 => rfl
  | 18 => rfl
  | 19 => rfl
  | 20 => rfl
  | 21 => rfl
  | sel + 22 =>
    rw [grw_ne (show sel + 22 ≠ 4 by omega)]
    funext i
    match i with
    | 0 => rfl
    | 1 => rfl
    | 2 => rfl
    | 3 => rfl
    | 4 => rfl
    | i + 5 => rfl
theorem fvL_g87 (N : gN) (f : Nat → Int32) : fvL (grw N 87 f) = grw (fvL N) 9 f := by
  funext sel
  match sel with
  | 0 => rfl
  | 1 => rfl
  | 2 => rfl
  | 3 => rfl
  | 4 => rfl
  | 5 => rfl
  | 6 => rfl
  | 7 => rfl
  | 8 => rfl
  | 9 => rfl
  | 10 => rfl
  | 11 => rfl
  | 12 => rfl
  | 13 => rfl
  | 14 => rfl
  | 15 => rfl
  | 16 => rfl
  | 17 => rfl
  | 18 => rfl
  | 19 => rfl
  | 20 => rfl
  | 21 => rfl
  | sel + 22 =>
    rw [grw_ne (show sel + 22 ≠ 9 by omega)]
    funext i
    match i with
    | 0 => rfl
    | 1 => rfl
    | 2 => rfl
    | 3 => rfl
    | 4 => rfl
    | i + 5 => rfl
theorem fvL_g88 (N : gN) (f : Nat → Int32) : fvL (grw N 88 f) = grw (fvL N) 10 f := by
  funext sel
  match sel with
  | 0 => rfl
  | 1 => rfl
  | 2 => rfl
  | 3 => rfl
  | 4 => rfl
  | 5 => rfl
  | 6 => rfl
  | 7 => rfl
  | 8 => rfl
  | 9 => rfl
  | 10 => rfl
  | 11 => rfl
  | 12 => rfl
  | 13 => rfl
  | 14 => rfl
  | 15 => rfl
  | 16 => rfl
  | 17 => rfl
  | 18 => rfl
  | 19 => rfl
  | 20 => rfl
  | 21 => rfl
  | sel + 22 =>
    rw [grw_ne (show sel + 22 ≠ 10 by omega)]
    funext i
    match i with
    | 0 => rfl
    | 1 => rfl
    | 2 => rfl
    | 3 => rfl
    | 4 => rfl
    | i + 5 => rfl
theorem fvL_g89 (N : gN) (f : Nat → Int32) : fvL (grw N 89 f) = grw (fvL N) 11 f := by
  funext sel
  match sel with
  | 0 => rfl
  | 1 => rfl
  | 2 => rfl
  | 3 => rfl
  | 4 => rfl
  | 5 => rfl
  | 6 => rfl
  | 7 => rfl
  | 8 => rfl
  | 9 => rfl
  | 10 => rfl
  | 11 => rfl
  | 12 => rfl
  | 13 => rfl
  | 14 => rfl
  | 15 => rfl
  | 16 => rfl
  | 17 => rfl
  | 18 => rfl
  | 19 => rfl
  | 20 => rfl
  | 21 => rfl
  | sel + 22 =>
    rw [grw_ne (show sel + 22 ≠ 11 by omega)]
    funext i
    match i with
    | 0 => rfl
    | 1 => rfl
    | 2 => rfl
    | 3 => rfl
    | 4 => rfl
    | i + 5 => rfl
theorem fvL_g90 (N : gN) (f : Nat → Int32) : fvL (grw N 90 f) = grw (fvL N) 12 f := by
  funext sel
  match sel with
  | 0 => rfl
  | 1 => rfl
  | 2 => rfl
  | 3 => rfl
  | 4 => rfl
  | 5 => rfl
  | 6 => rfl
  | 7 => rfl
  | 8 => rfl
  | 9 => rfl
  | 10 => rfl
  | 11 => rfl
  | 12 => rfl
  | 13 => rfl
  | 14 => rfl
  | 15 => rfl
  | 16 => rfl
  | 17 => rfl
  | 18 => rfl
  | 19 => rfl
  | 20 => rfl
  | 21 => rfl
  | sel + 22 =>
    rw [grw_ne (show sel + 22 ≠ 12 by omega)]
    funext i
    match i with
    | 0 => rfl
    | 1 => rfl
    | 2 => rfl
    | 3 => rfl
    | 4 => rfl
    | i + 5 => rfl
theorem fvL_g91 (N : gN) (f : Nat → Int32) : fvL (grw N 91 f) = grw (fvL N) 13 f := by
  funext sel
  match sel with
  | 0 => rfl
  | 1 => rfl
  | 2 => rfl
  | 3 => rfl
  | 4 => rfl
  | 5 => rfl
  | 6 => rfl
  | 7 => rfl
  | 8 => rfl
  | 9 => rfl
  | 10 => rfl
  | 11 => rfl
  | 12 => rfl
  | 13 => rfl
  | 14 => rfl
  | 15 => rfl
  | 16 => rfl
  | 17 => rfl
  | 18 => rfl
  | 19 => rfl
  | 20 => rfl
  | 21 => rfl
  | sel + 22 =>
    rw [grw_ne (show sel + 22 ≠ 13 by omega)]
    funext i
    match i with
    | 0 => rfl
    | 1 => rfl
    | 2 => rfl
    | 3 => rfl
    | 4 => rfl
    | i + 5 => rfl
theorem fvL_g92 (N : gN) (f : Nat → Int32) : fvL (grw N 92 f) = grw (fvL N) 14 f := by
  funext sel
  match sel with
  | 0 => rfl
  | 1 => rfl
  | 2 => rfl
  | 3 => rfl
  | 4 => rfl
  | 5 => rfl
  | 6 => rfl
  | 7 => rfl
  | 8 => rfl
  | 9 => rfl
  | 10 => rfl
  | 11 => rfl
  | 12 => rfl
  | 13 => rfl
  | 14 => rfl
  | 15 => rfl
  | 16 => rfl
  | 17 => rfl
  | 18 => rfl
  | 19 => rfl
  | 20 => rfl
  | 21 => rfl
  | sel + 22 =>
    rw [grw_ne (show sel + 22 ≠ 14 by omega)]
    funext i
    match i with
    | 0 => rfl
    | 1 => rfl
    | 2 => rfl
    | 3 => rfl
    | 4 => rfl
    | i + 5 => rfl
theorem fvL_g93 (N : gN) (f : Nat → Int32) : fvL (grw N 93 f) = grw (fvL N) 15 f := by
  funext sel
  match sel with
  | 0 => rfl
  | 1 => rfl
  | 2 => rfl
  | 3 => rfl
  | 4 => rfl
  | 5 => rfl
  | 6 => rfl
  | 7 => rfl
  | 8 => rfl
  | 9 => rfl
  | 10 => rfl
  | 11 => rfl
  | 12 => rfl
  | 13 => rfl
  | 14 => rfl
  | 15 => rfl
  | 16 => rfl
  | 17 => rfl
  | 18 => rfl
  | 19 => rfl
  | 20 => rfl
  | 21 => rfl
  | sel + 22 =>
    rw [grw_ne (show sel + 22 ≠ 15 by omega)]
    funext i
    match i with
    | 0 => rfl
    | 1 => rfl
    | 2 => rfl
    | 3 => rfl
    | 4 => rfl
    | i + 5 => rfl
theorem fvL_g94 (N : gN) (f : Nat → Int32) : fvL (grw N 94 f) = grw (fvL N) 16 f := by
  funext sel
  match sel with
  | 0 => rfl
  | 1 => rfl
  | 2 => rfl
  | 3 => rfl
  | 4 => rfl
  | 5 => rfl
  | 6 => rfl
  | 7 => rfl
  | 8 => rfl
  | 9 => rfl
  | 10 => rfl
  | 11 => rfl
  | 12 => rfl
  | 13 => rfl
  | 14 => rfl
  | 15 => rfl
  | 16 => rfl
  | 17 => rfl
  | 18 => rfl
  | 19 => rfl
  | 20 => rfl
  | 21 => rfl
  | sel + 22 =>
    rw [grw_ne (show sel + 22 ≠ 16 by omega)]
    funext i
    match i with
    | 0 => rfl
    | 1 => rfl
    | 2 => rfl
    | 3 => rfl
    | 4 => rfl
    | i + 5 => rfl
theorem fvL_g95 (N : gN) (f : Nat → Int32) : fvL (grw N 95 f) = grw (fvL N) 17 f := by
  funext sel
  match sel with
  | 0 => rfl
  | 1 => rfl
  | 2 => rfl
  | 3 => rfl
  | 4 => rfl
  | 5 => rfl
  | 6 => rfl
  | 7 => rfl
  | 8 => rfl
  | 9 => rfl
  | 10 => rfl
  | 11 => rfl
  | 12 => rfl
  | 13 => rfl
  | 14 => rfl
  | 15 => rfl
  | 16 => rfl
  | 17 => rfl
  | 18 => rfl
  | 19 => rfl
  | 20 => rfl
  | 21 => rfl
  | sel + 22 =>
    rw [grw_ne (show sel + 22 ≠ 17 by omega)]
    funext i
    match i with
    | 0 => rfl
    | 1 => rfl
    | 2 => rfl
    | 3 => rfl
    | 4 => rfl
    | i + 5 => rfl
theorem fvL_g96 (N : gN) (f : Nat → Int32) : fvL (grw N 96 f) = grw (fvL N) 18 f := by
  funext sel
  match sel with
  | 0 => rfl
  | 1 => rfl
  | 2 => rfl
  | 3 => rfl
  | 4 => rfl
  | 5 => rfl
  | 6 => rfl
  | 7 => rfl
  | 8 => rfl
  | 9 => rfl
  | 10 => rfl
  | 11 => rfl
  | 12 => rfl
  | 13 => rfl
  | 14 => rfl
  | 15 => rfl
  | 16 => rfl
  | 17 => rfl
  | 18 => rfl
  | 19 => rfl
  | 20 => rfl
  | 21 => rfl
  | sel + 22 =>
    rw [grw_ne (show sel + 22 ≠ 18 by omega)]
    funext i
    match i with
    | 0 => rfl
    | 1 => rfl
    | 2 => rfl
    | 3 => rfl
    | 4 => rfl
    | i + 5 => rfl
theorem fvL_g97 (N : gN) (f : Nat → Int32) : fvL (grw N 97 f) = grw (fvL N) 19 f := by
  funext sel
  match sel with
  | 0 => rfl
  | 1 => rfl
  | 2 => rfl
  | 3 => rfl
  | 4 => rfl
  | 5 => rfl
  | 6 => rfl
  | 7 => rfl
  | 8 => rfl
  | 9 => rfl
  | 10 => rfl
  | 11 => rfl
  | 12 => rfl
  | 13 => rfl
  | 14 => rfl
  | 15 => rfl
  | 16 => rfl
  | 17 => rfl
  | 18 => rfl
  | 19 => rfl
  | 20 => rfl
  | 21 => rfl
  | sel + 22 =>
    rw [grw_ne (show sel + 22 ≠ 19 by omega)]
    funext i
    match i with
    | 0 => rfl
    | 1 => rfl
    | 2 => rfl
    | 3 => rfl
    | 4 => rfl
    | i + 5 => rfl
theorem fvL_g98 (N : gN) (f : Nat → Int32) : fvL (grw N 98 f) = grw (fvL N) 20 f := by
  funext sel
  match sel with
  | 0 => rfl
  | 1 => rfl
  | 2 => rfl
  | 3 => rfl
  | 4 => rfl
  | 5 => rfl
  | 6 => rfl
  | 7 => rfl
  | 8 => rfl
  | 9 => rfl
  | 10 => rfl
  | 11 => rfl
  | 12 => rfl
  | 13 => rfl
  | 14 => rfl
  | 15 => rfl
  | 16 => rfl
  | 17 => rfl
  | 18 => rfl
  | 19 => rfl
  | 20 => rfl
  | 21 => rfl
  | sel + 22 =>
    rw [grw_ne (show sel + 22 ≠ 20 by omega)]
    funext i
    match i with
    | 0 => rfl
    | 1 => rfl
    | 2 => rfl
    | 3 => rfl
    | 4 => rfl
    | i + 5 => rfl
theorem fvL_g99 (N : gN) (f : Nat → Int32) : fvL (grw N 99 f) = grw (fvL N) 21 f := by
  funext sel
  match sel with
  | 0 => rfl
  | 1 => rfl
  | 2 => rfl
  | 3 => rfl
  | 4 => rfl
  | 5 => rfl
  | 6 => rfl
  | 7 => rfl
  | 8 => rfl
  | 9 => rfl
  | 10 => rfl
  | 11 => rfl
  | 12 => rfl
  | 13 => rfl
  | 14 => rfl
  | 15 => rfl
  | 16 => rfl
  | 17 => rfl
  | 18 => rfl
  | 19 => rfl
  | 20 => rfl
  | 21 => rfl
  | sel + 22 =>
    rw [grw_ne (show sel + 22 ≠ 21 by omega)]
    funext i
    match i with
    | 0 => rfl
    | 1 => rfl
    | 2 => rfl
    | 3 => rfl
    | 4 => rfl
    | i + 5 => rfl
theorem fvL_g100 (N : gN) (f : Nat → Int32) : fvL (grw N 100 f) = grw (fvL N) 6 f := by
  funext sel
  match sel with
  | 0 => rfl
  | 1 => rfl
  | 2 => rfl
  | 3 => rfl
  | 4 => rfl
  | 5 => rfl
  | 6 => rfl
  | 7 => rfl
  | 8 => rfl
  | 9 => rfl
  | 10 => rfl
  | 11 => rfl
  | 12 => rfl
  | 13 => rfl
  | 14 => rfl
  | 15 => rfl
  | 16 => rfl
  | 17 => rfl
  | 18 => rfl
  | 19 => rfl
  | 20 => rfl
  | 21 => rfl
  | sel + 22 =>
    rw [grw_ne (show sel + 22 ≠ 6 by omega)]
    funext i
    match i with
    | 0 => rfl
    | 1 => rfl
    | 2 => rfl
    | 3 => rfl
    | 4 => rfl
    | i + 5 => rfl
theorem fvL_g101 (N : gN) (f : Nat → Int32) : fvL (grw N 101 f) = grw (fvL N) 7 f := by
  funext sel
  match sel with
  | 0 => rfl
  | 1 => rfl
  | 2 => rfl
  | 3 => rfl
  | 4 => rfl
  | 5 => rfl
  | 6 => rfl
  | 7 => rfl
  | 8 => rfl
  | 9 => rfl
  | 10 => rfl
  | 11 => rfl
  | 12 => rfl
  | 13 => rfl
  | 14 => rfl
  | 15 => rfl
  | 16 => rfl
  | 17 => rfl
  | 18 => rfl
  | 19 => rfl
  | 20 => rfl
  | 21 => rfl
  | sel + 22 =>
    rw [grw_ne (show sel + 22 ≠ 7 by omega)]
    funext i
    match i with
    | 0 => rfl
    | 1 => rfl
    | 2 => rfl
    | 3 => rfl
    | 4 => rfl
    | i + 5 => rfl
theorem fvL_g102 (N : gN) (f : Nat → Int32) : fvL (grw N 102 f) = grw (fvL N) 8 f := by
  funext sel
  match sel with
  | 0 => rfl
  | 1 => rfl
  | 2 => rfl
  | 3 => rfl
  | 4 => rfl
  | 5 => rfl
  | 6 => rfl
  | 7 => rfl
  | 8 => rfl
  | 9 => rfl
  | 10 => rfl
  | 11 => rfl
  | 12 => rfl
  | 13 => rfl
  | 14 => rfl
  | 15 => rfl
  | 16 => rfl
  | 17 => rfl
  | 18 => rfl
  | 19 => rfl
  | 20 => rfl
  | 21 => rfl
  | sel + 22 =>
    rw [grw_ne (show sel + 22 ≠ 8 by omega)]
    funext i
    match i with
    | 0 => rfl
    | 1 => rfl
    | 2 => rfl
    | 3 => rfl
    | 4 => rfl
    | i + 5 => rfl
theorem fvL_g103 (N : gN) (f : Nat → Int32) : fvL (grw N 103 f) = grw (fvL N) 5 f := by
  funext sel
  match sel with
  | 0 => rfl
  | 1 => rfl
  | 2 => rfl
  | 3 => rfl
  | 4 => rfl
  | 5 => rfl
  | 6 => rfl
  | 7 => rfl
  | 8 => rfl
  | 9 => rfl
  | 10 => rfl
  | 11 => rfl
  | 12 => rfl
  | 13 => rfl
  | 14 => rfl
  | 15 => rfl
  | 16 => rfl
  | 17 => rfl
  | 18 => rfl
  | 19 => rfl
  | 20 => rfl
  | 21 => rfl
  | sel + 22 =>
    rw [grw_ne (show sel + 22 ≠ 5 by omega)]
    funext i
    match i with
    | 0 => rfl
    | 1 => rfl
    | 2 => rfl
    | 3 => rfl
    | 4 => rfl
    | i + 5 => rfl
theorem fvL_gfar {N : gN} {p : Nat} {f : Nat → Int32} (hp : p < 81 ∨ 104 ≤ p) : fvL (grw N p f) = fvL N := by
  have e : ∀ q, 81 ≤ q → q < 104 → grw N p f q = N q := fun q h1 h2 => grw_ne (by omega)
  funext sel
  match sel with
  | 0 => exact e 82 (by decide) (by decide)
  | 1 => exact e 83 (by decide) (by decide)
  | 2 => exact e 84 (by decide) (by decide)
  | 3 => exact e 85 (by decide) (by decide)
  | 4 => exact e 86 (by decide) (by decide)
  | 5 => exact e 103 (by decide) (by decide)
  | 6 => exact e 100 (by decide) (by decide)
  | 7 => exact e 101 (by decide) (by decide)
  | 8 => exact e 102 (by decide) (by decide)
  | 9 => exact e 87 (by decide) (by decide)
  | 10 => exact e 88 (by decide) (by decide)
  | 11 => exact e 89 (by decide) (by decide)
  | 12 => exact e 90 (by decide) (by decide)
  | 13 => exact e 91 (by decide) (by decide)
  | 14 => exact e 92 (by decide) (by decide)
  | 15 => exact e 93 (by decide) (by decide)
  | 16 => exact e 94 (by decide) (by decide)
  | 17 => exact e 95 (by decide) (by decide)
  | 18 => exact e 96 (by decide) (by decide)
  | 19 => exact e 97 (by decide) (by decide)
  | 20 => exact e 98 (by decide) (by decide)
  | 21 => exact e 99 (by decide) (by decide)
  | sel + 22 =>
    funext i
    match i with
    | 0 => exact congrFun (e 81 (by decide) (by decide)) 0
    | 1 => exact congrFun (e 81 (by decide) (by decide)) 1
    | 2 => exact congrFun (e 81 (by decide) (by decide)) 2
    | 3 => exact congrFun (e 81 (by decide) (by decide)) 10
    | 4 => exact congrFun (e 81 (by decide) (by decide)) 15
    | i + 5 => rfl
theorem gblk_g (N : gN) (t j : Nat) (f : Nat → Int32) : (fun k => grw N (t + j) f (t + k)) = grw (fun k => N (t + k)) j f := by
  funext k
  by_cases h : k = j
  · subst h; rw [grw_eq, grw_eq]
  · rw [grw_ne (by omega), grw_ne h]
theorem FRel.cell {n c s g w0 v : Nat} {C V : gN} (H : FRel n C V) (hc : c < 36) (hs : s ≤ 9) (hg : g ≤ 999) (hw : w0 ≤ 999) (hv : v ≤ 999) : FRel (n + 1) (gup (grw (gup (gup (gup C 5 c (nI s)) 6 c (nI g)) 7 c (nI w0)) 10 (putO (C 10) c (plOf (C 9 c)) (nI v))) 8 c (nI v)) (grw (gup (gup (gup V 0 c (nI s)) 1 c (nI g)) 2 c (nI w0)) 4 (putO (V 4) c (plOf (V 3 c)) (nI v))) := by
  obtain ⟨w, h9, hr, le, we, sd, gs, wt, ol, wp, wc, ww, wo, ws, a1, a2, a3, a4, ⟨d1, d2, d3, d4, d5⟩, ⟨o1, o2, o3, o4, o5⟩, ⟨a7, a7b⟩, a8, a9, b1, b2, b3, b4, b5, b6, b7⟩ := H
  have hp := plOf_lt (a8 c hc)
  rw [d4, d5]
  refine ⟨w, h9, hr, le, we, fun k => if k = c then s else sd k, fun k => if k = c then g else gs k, fun k => if k = c then w0 else wt k, putN ol c (plOf (V 3 c)) v, wp, wc, ww, wo, ws, a1, a2, a3, a4, ⟨gup_pair (a := 5) (b := 0) d1, gup_pair (a := 6) (b := 1) d2, gup_pair (a := 7) (b := 2) d3, d4, rfl⟩, ⟨gup_fun (b := 0) o1, gup_fun (b := 1) o2, gup_fun (b := 2) o3, ?_, ?_⟩, ⟨fun k => ⟨?_, ?_⟩, ?_⟩, a8, a9, b1, b2, b3, b4, b5, b6, fun sel i h1 h2 => ?_⟩
  · show putO (V 4) c (plOf (V 3 c)) (nI v) = _
    rw [o4]
    exact putO_nI ol c _ v
  · show (fun q => if q = c then nI v else C 8 q) = _
    rw [o5]
    funext d
    show (if d = c then nI v else nI (osum ol d)) = nI (osum (putN ol c (plOf (V 3 c)) v) d)
    rw [osum_put hp]
    split <;> rfl
  · show (if k = c then s else sd k) ≤ 9
    split
    · exact hs
    · exact (a7 k).1
  · show (if k = c then g else gs k) ≤ 999
    split
    · exact hg
    · exact (a7 k).2
  · refine gPB.one (c0 := c) (fun d hd e => ?_) ?_ a7b
    · unfold gDry gPush
      rw [osum_put hp, if_neg e]
      show max ((if d = c then w0 else wt d) + (if d = c then g else gs d)) ((if d = c then w0 else wt d) + (if d = c then g else gs d) + osum ol d - 999) ≤ _
      rw [if_neg e, if_neg e]
      omega
    · unfold gDry gPush
      rw [osum_put hp, if_pos rfl]
      show max ((if c = c then w0 else wt c) + (if c = c then g else gs c)) ((if c = c then w0 else wt c) + (if c = c then g else gs c) + v - 999) ≤ _
      rw [if_pos rfl, if_pos rfl]
      omega
  · by_cases h4 : sel = 4
    · subst h4
      have h2 : 324 ≤ i := h2
      show putO (V 4) c (plOf (V 3 c)) (nI v) i = 0
      unfold putO gst_
      rw [if_neg (by omega), if_neg (by omega)]
      exact b7 4 i h1 h2
    · rw [grw_ne h4]
      exact gzb (gzb (gzb b7 (show c < 36 from hc)) (show c < 36 from hc)) (show c < 36 from hc) sel i h1 h2
theorem p_cell {n0 K : Nat} {m : gM} (x y1' y2' y3' y4' : Int32) (I : Inv n0 K m.1) : gBoth n0 K (f_OT_cell x y1' y2' y3' y4') (f_MO_cell x y1' y2' y3' y4') m := by
  obtain ⟨w, h9, n, hr, le, we, nl, np, ol, wp, wc, ww, wo, ws, ru, fr, nu, vo, F⟩ := I.fx
  have lots := F.lots_c
  obtain ⟨⟨zn, z1, z36, zw, zh, zhr, zle, zwe, znl, znp⟩, ⟨y0, y1, y2, yhr, yle, ywe, ynl, ynp⟩, ⟨x0, x1, xhr, xle, xwe, xnl, xnp⟩, ⟨r6, r7, r8, r10, r11, r13, r14, r15, r16, r17, r19, r20, r21, r22, r28, r29, r30, r31⟩, ⟨ecol, eoil, e9, elot⟩, ⟨fp, fc, fw, fo, fb, fo1, frow, fws⟩, g1, g2, gn⟩ := F
  have a1 := ot_hasCell (x := x) (n := n) (by omega) y2
  have b1 := mo_isCell (x := x) x0 x1 (by omega)
  rw [zn] at b1
  have a2 : f_OT_within y1' 9 m = _ := ot_within (x := y1') (n := 9) (by omega) m
  have a3 : f_OT_within y2' 999 m = _ := ot_within (x := y2') (n := 999) (by omega) m
  have a4 : f_OT_within y3' 999 m = _ := ot_within (x := y3') (n := 999) (by omega) m
  have a5 : f_OT_within y4' 999 m = _ := ot_within (x := y4') (n := 999) (by omega) m
  have b2 : ∀ m : gM, f_MO_in y1'.toInt64 (Int32.toInt64 0) (Int32.toInt64 9) m = _ := fun m => mo_in_n (x := y1') (n := 9) (by omega) m
  have b3 : ∀ m : gM, f_MO_in y2'.toInt64 (Int32.toInt64 0) (Int32.toInt64 999) m = _ := fun m => mo_in_n (x := y2') (n := 999) (by omega) m
  have b4 : ∀ m : gM, f_MO_in y3'.toInt64 (Int32.toInt64 0) (Int32.toInt64 999) m = _ := fun m => mo_in_n (x := y3') (n := 999) (by omega) m
  have b5 : ∀ m : gM, f_MO_in y4'.toInt64 (Int32.toInt64 0) (Int32.toInt64 999) m = _ := fun m => mo_in_n (x := y4') (n := 999) (by omega) m
  rcases gib_cases x n with hg | ⟨i, hi, rfl, hi2⟩
  · rw [hg] at a1 b1
    refine gBoth.same (-1) I ?_ ?_
    · unfold f_OT_cell; rw [a1]; rfl
    · unfold f_MO_cell; rw [b1]; rfl
  have hgi := gib_iff.mpr ⟨i, hi, rfl, hi2⟩
  rw [hgi] at a1 b1
  rcases gib_cases y1' 10 with hg | ⟨s, hs, rfl, hs2⟩
  · rw [hg] at a2
    refine gBoth.same (-1) I ?_ ?_
    · unfold f_OT_cell
      simp (disch := omega) only [gfd_eq, glet_eq, gbind_eq, nI_ltI, nI_1, gok_nI, grd_nI, nI_clamp, if_true, if_false, Nat.lt_irrefl, a1, a2, Bool.false_eq_true, i10]
    · unfold f_MO_cell
      simp (disch := omega) only [gfd_eq, glet_eq, gbind_eq, nI_ltI, nI_1, gok_nI, grd_nI, nI_clamp, if_true, if_false, Nat.lt_irrefl, b1, b2, hg, Bool.false_eq_true, i10]
  have hgs := gib_iff.mpr ⟨s, hs, rfl, hs2⟩
  rw [hgs] at a2
  rcases gib_cases y2' 1000 with hg | ⟨g, hgg, rfl, hg2⟩
  · rw [hg] at a3
    refine gBoth.same (-1) I ?_ ?_
    · unfold f_OT_cell
      simp (disch := omega) only [gfd_eq, glet_eq, gbind_eq, nI_ltI, nI_1, gok_nI, grd_nI, nI_clamp, if_true, if_false, Nat.lt_irrefl, a1, a2, a3, Bool.false_eq_true, i10]
    · unfold f_MO_cell
      simp (disch := omega) only [gfd_eq, glet_eq, gbind_eq, nI_ltI, nI_1, gok_nI, grd_nI, nI_clamp, if_true, if_false, Nat.lt_irrefl, b1, b2, hgs, b3, hg, Bool.false_eq_true, i10]
  have hgg' := gib_iff.mpr ⟨g, hgg, rfl, hg2⟩
  rw [hgg'] at a3
  rcases gib_cases y3' 1000 with hg | ⟨u, hu, rfl, hu2⟩
  · rw [hg] at a4
    refine gBoth.same (-1) I ?_ ?_
    · unfold f_OT_cell
      simp (disch := omega) only [gfd_eq, glet_eq, gbind_eq, nI_ltI, nI_1, gok_nI, grd_nI, nI_clamp, if_true, if_false, Nat.lt_irrefl, a1, a2, a3, a4, Bool.false_eq_true, i10]
    · unfold f_MO_cell
      simp (disch := omega) only [gfd_eq, glet_eq, gbind_eq, nI_ltI, nI_1, gok_nI, grd_nI, nI_clamp, if_true, if_false, Nat.lt_irrefl, b1, b2, hgs, b3, hgg', b4, hg, Bool.false_eq_true, i10]
  have hgu := gib_iff.mpr ⟨u, hu, rfl, hu2⟩
  rw [hgu] at a4
  rcases gib_cases y4' 1000 with hg | ⟨v, hv, rfl, hv2⟩
  · rw [hg] at a5
    refine gBoth.same (-1) I ?_ ?_
    · unfold f_OT_cell
      simp (disch := omega) only [gfd_eq, glet_eq, gbind_eq, nI_ltI, nI_1, gok_nI, grd_nI, nI_clamp, if_true, if_false, Nat.lt_irrefl, a1, a2, a3, a4, a5, Bool.false_eq_true, i10]
    · unfold f_MO_cell
      simp (disch := omega) only [gfd_eq, glet_eq, gbind_eq, nI_ltI, nI_1, gok_nI, grd_nI, nI_clamp, if_true, if_false, Nat.lt_irrefl, b1, b2, hgs, b3, hgg', b4, hgu, b5, hg, Bool.false_eq_true, i10]
  have hgv := gib_iff.mpr ⟨v, hv, rfl, hv2⟩
  rw [hgv] at a5
  let m1 : gM := (gup (grw (gup (gup (gup m.1 6 i (nI s)) 7 i (nI g)) 8 i (nI u)) 11 (putO (m.1 11) i (plOf (m.1 10 i)) (nI v))) 9 i (nI v), m.2)
  have c1 : f_Ground_tellOil 2 (nI i) (nI v) (gup (gup (gup m.1 6 i (nI s)) 7 i (nI g)) 8 i (nI u), m.2) = some m1 := cl_tellOil (m := (gup (gup (gup m.1 6 i (nI s)) 7 i (nI g)) 8 i (nI u), m.2)) (by omega) (lots i (by omega))
  have c2 : f_MO_putOil (nI i) (nI v) (gup (gup (gup m1.1 82 i (nI s)) 83 i (nI g)) 84 i (nI u), m1.2) = some (grw (gup (gup (gup m1.1 82 i (nI s)) 83 i (nI g)) 84 i (nI u)) 86 (putO (m.1 86) i (plOf (m.1 85 i)) (nI v)), m1.2) := mo_putOil (m := (gup (gup (gup m1.1 82 i (nI s)) 83 i (nI g)) 84 i (nI u), m1.2)) (by omega) (elot i (by omega))
  have b1' := mo_isCell (x := nI i) (m := m1) x0 x1 (by omega)
  rw [zn, hgi] at b1'
  refine ⟨1, m1, (grw (gup (gup (gup m1.1 82 i (nI s)) 83 i (nI g)) 84 i (nI u)) 86 (putO (m.1 86) i (plOf (m.1 85 i)) (nI v)), m1.2), ?_, ?_, ?_⟩
  · unfold f_OT_cell
    simp (disch := omega) only [gfd_eq, glet_eq, gbind_eq, nI_ltI, nI_1, gok_nI, grd_nI, nI_clamp, if_true, if_false, Nat.lt_irrefl, a1, a2, a3, a4, a5, gst_nI, c1, i10]
  · unfold f_MO_cell
    simp (disch := omega) only [gfd_eq, glet_eq, gbind_eq, nI_ltI, nI_1, gok_nI, grd_nI, nI_clamp, if_true, if_false, Nat.lt_irrefl, b1', b2, hgs, b3, hgg', b4, hgu, b5, hgv, gst_nI, c2, i10]
  · refine (I.mono (Nat.le_succ n0)).fld (fun q hq => ?_) rfl rfl rfl rfl rfl ?_
    · unfold gOut at hq
      show grw _ _ _ q = _
      rw [grw_ne (by omega), gup_ne (by omega), gup_ne (by omega), gup_ne (by omega)]
      show gup _ _ _ _ q = _
      rw [gup_ne (by omega), grw_ne (by omega), gup_ne (by omega), gup_ne (by omega), gup_ne (by omega)]
    · have L := I.1.cell (c := i) (s := s) (g := g) (w0 := u) (v := v) (by omega) (by omega) (by omega) (by omega) (by omega)
      show FRel _ _ (fvL (grw (gup (gup (gup m1.1 82 i (nI s)) 83 i (nI g)) 84 i (nI u)) 86 (putO (m.1 86) i (plOf (m.1 85 i)) (nI v))))
      rw [fvL_g86, fvL_r84, fvL_r83, fvL_r82]
      have e1 : fvL m1.1 = fvL m.1 := by
        show fvL (gup (grw (gup (gup (gup m.1 6 i (nI s)) 7 i (nI g)) 8 i (nI u)) 11 (putO (m.1 11) i (plOf (m.1 10 i)) (nI v))) 9 i (nI v)) = _
        rw [fvL_far (by decide), fvL_gfar (by decide), fvL_far (by decide), fvL_far (by decide), fvL_far (by decide)]
      rw [e1]
      refine FRel.blk (fun k hk => ?_) L
      show grw _ _ _ (1 + k) = _
      rw [grw_ne (by omega), gup_ne (by omega), gup_ne (by omega), gup_ne (by omega)]
      have g1 := congrFun (gblk (grw (gup (gup (gup m.1 (1 + 5) i (nI s)) (1 + 6) i (nI g)) (1 + 7) i (nI u)) (1 + 10) (putO (m.1 11) i (plOf (m.1 10 i)) (nI v))) 1 8 i (nI v)) k
      rw [gblk_g, gblk, gblk, gblk] at g1
      exact g1
