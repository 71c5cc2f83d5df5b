/-! ===== frames of the views (by program) ===== -/
theorem fvL_far {N : gN} {p i : Nat} {x : Int32} (hp : p < 81 ∨ 104 ≤ p) : fvL (gup N p i x) = fvL N := by
  funext sel
  match sel with
  | 0 => exact gup_ne (by omega)
  | 1 => exact gup_ne (by omega)
  | 2 => exact gup_ne (by omega)
  | 3 => exact gup_ne (by omega)
  | 4 => exact gup_ne (by omega)
  | 5 => exact gup_ne (by omega)
  | 6 => exact gup_ne (by omega)
  | 7 => exact gup_ne (by omega)
  | 8 => exact gup_ne (by omega)
  | 9 => exact gup_ne (by omega)
  | 10 => exact gup_ne (by omega)
  | 11 => exact gup_ne (by omega)
  | 12 => exact gup_ne (by omega)
  | 13 => exact gup_ne (by omega)
  | 14 => exact gup_ne (by omega)
  | 15 => exact gup_ne (by omega)
  | 16 => exact gup_ne (by omega)
  | 17 => exact gup_ne (by omega)
  | 18 => exact gup_ne (by omega)
  | 19 => exact gup_ne (by omega)
  | 20 => exact gup_ne (by omega)
  | 21 => exact gup_ne (by omega)
  | sel + 22 =>
    funext j
    match j with
    | 0 => exact gup_row (by omega)
    | 1 => exact gup_row (by omega)
    | 2 => exact gup_row (by omega)
    | 3 => exact gup_row (by omega)
    | 4 => exact gup_row (by omega)
    | j + 5 => rfl
theorem fvL_81 {N : gN} {i : Nat} {x : Int32} (hi : i ≠ 0 ∧ i ≠ 1 ∧ i ≠ 2 ∧ i ≠ 10 ∧ i ≠ 15) : fvL (gup N 81 i x) = fvL N := by
  funext sel
  match sel with
  | 0 => exact gup_ne (by decide)
  | 1 => exact gup_ne (by decide)
  | 2 => exact gup_ne (by decide)
  | 3 => exact gup_ne (by decide)
  | 4 => exact gup_ne (by decide)
  | 5 => exact gup_ne (by decide)
  | 6 => exact gup_ne (by decide)
  | 7 => exact gup_ne (by decide)
  | 8 => exact gup_ne (by decide)
  | 9 => exact gup_ne (by decide)
  | 10 => exact gup_ne (by decide)
  | 11 => exact gup_ne (by decide)
  | 12 => exact gup_ne (by decide)
  | 13 => exact gup_ne (by decide)
  | 14 => exact gup_ne (by decide)
  | 15 => exact gup_ne (by decide)
  | 16 => exact gup_ne (by decide)
  | 17 => exact gup_ne (by decide)
  | 18 => exact gup_ne (by decide)
  | 19 => exact gup_ne (by decide)
  | 20 => exact gup_ne (by decide)
  | 21 => exact gup_ne (by decide)
  | sel + 22 =>
    funext j
    match j with
    | 0 => exact gup_col (by omega)
    | 1 => exact gup_col (by omega)
    | 2 => exact gup_col (by omega)
    | 3 => exact gup_col (by omega)
    | 4 => exact gup_col (by omega)
    | j + 5 => rfl
theorem fvL_r82 (N : gN) (i : Nat) (x : Int32) : fvL (gup N 82 i x) = gup (fvL N) 0 i x := by
  funext sel j
  match sel with
  | 0 => rfl
  | 1 => rfl
  | 2 => rfl
  | 3 => rfl
  | 4 => rfl
  | 5 => rfl
  | 6 => rfl
  | 7 => rfl
  | 8 => rfl
  | 9 => rfl
  | 10 => rfl
  | 11 => rfl
  | 12 => rfl
  | 13 => rfl
  | 14 => rfl
  | 15 => rfl
  | 16 => rfl
  | 17 => rfl
  | 18 => rfl
  | 19 => rfl
  | 20 => rfl
  | 21 => rfl
  | sel + 22 =>
    rw [gup_row (by omega)]
    match j with
    | 0 => rfl
    | 1 => rfl
    | 2 => rfl
    | 3 => rfl
    | 4 => rfl
    | j + 5 => rfl
theorem fvL_r83 (N : gN) (i : Nat) (x : Int32) : fvL (gup N 83 i x) = gup (fvL N) 1 i x := by
  funext sel j
  match sel with
  | 0 => rfl
  | 1 => rfl
  | 2 => rfl
  | 3 => rfl
  | 4 => rfl
  | 5 => rfl
  | 6 => rfl
  | 7 => rfl
  | 8 => rfl
  | 9 => rfl
  | 10 => rfl
  | 11 => rfl
  | 12 => rfl
  | 13 => rfl
  | 14 => rfl
  | 15 => rfl
  | 16 => rfl
  | 17 => rfl
  | 18 => rfl
  | 19 => rfl
  | 20 => rfl
  | 21 => rfl
  | sel + 22 =>
    rw [gup_row (by omega)]
    match j with
    | 0 => rfl
    | 1 => rfl
    | 2 => rfl
    | 3 => rfl
    | 4 => rfl
    | j + 5 => rfl
theorem fvL_r84 (N : gN) (i : Nat) (x : Int32) : fvL (gup N 84 i x) = gup (fvL N) 2 i x := by
  funext sel j
  match sel with
  | 0 => rfl
  | 1 => rfl
  | 2 => rfl
  | 3 => rfl
  | 4 => rfl
  | 5 => rfl
  | 6 => rfl
  | 7 => rfl
  | 8 => rfl
  | 9 => rfl
  | 10 => rfl
  | 11 => rfl
  | 12 => rfl
  | 13 => rfl
  | 14 => rfl
  | 15 => rfl
  | 16 => rfl
  | 17 => rfl
  | 18 => rfl
  | 19 => rfl
  | 20 => rfl
  | 21 => rfl
  | sel + 22 =>
    rw [gup_row (by omega)]
    match j with
    | 0 => rfl
    | 1 => rfl
    | 2 => rfl
    | 3 => rfl
    | 4 => rfl
    | j + 5 => rfl
theorem fvL_r85 (N : gN) (i : Nat) (x : Int32) : fvL (gup N 85 i x) = gup (fvL N) 3 i x := by
  funext sel j
  match sel with
  | 0 => rfl
  | 1 => rfl
  | 2 => rfl
  | 3 => rfl
  | 4 => rfl
  | 5 => rfl
  | 6 => rfl
  | 7 => rfl
  | 8 => rfl
  | 9 => rfl
  | 10 => rfl
  | 11 => rfl
  | 12 => rfl
  | 13 => rfl
  | 14 => rfl
  | 15 => rfl
  | 16 => rfl
  | 17 => rfl
  | 18 => rfl
  | 19 => rfl
  | 20 => rfl
  | 21 => rfl
  | sel + 22 =>
    rw [gup_row (by omega)]
    match j with
    | 0 => rfl
    | 1 => rfl
    | 2 => rfl
    | 3 => rfl
    | 4 => rfl
    | j + 5 => rfl
theorem fvL_r86 (N : gN) (i : Nat) (x : Int32) : fvL (gup N 86 i x) = gup (fvL N) 4 i x := by
  funext sel j
  match sel with
  | 0 => rfl
  | 1 => rfl
  | 2 => rfl
  | 3 => rfl
  | 4 => rfl
  | 5 => rfl
  | 6 => rfl
  | 7 => rfl
  | 8 => rfl
  | 9 => rfl
  | 10 => rfl
  | 11 => rfl
  | 12 => rfl
  | 13 => rfl
  | 14 => rfl
  | 15 => rfl
  | 16 => rfl
  | 17 => rfl
  | 18 => rfl
  | 19 => rfl
  | 20 => rfl
  | 21 => rfl
  | sel + 22 =>
    rw [gup_row (by omega)]
    match j with
    | 0 => rfl
    | 1 => rfl
    | 2 => rfl
    | 3 => rfl
    | 4 => rfl
    | j + 5 => rfl
theorem fvL_r103 (N : gN) (i : Nat) (x : Int32) : fvL (gup N 103 i x) = gup (fvL N) 5 i x := by
  funext sel j
  match sel with
  | 0 => rfl
  | 1 => rfl
  | 2 => rfl
  | 3 => rfl
  | 4 => rfl
  | 5 => rfl
  | 6 => rfl
  | 7 => rfl
  | 8 => rfl
  | 9 => rfl
  | 10 => rfl
  | 11 => rfl
  | 12 => rfl
  | 13 => rfl
  | 14 => rfl
  | 15 => rfl
  | 16 => rfl
  | 17 => rfl
  | 18 => rfl
  | 19 => rfl
  | 20 => rfl
  | 21 => rfl
  | sel + 22 =>
    rw [gup_row (by omega)]
    match j with
    | 0 => rfl
    | 1 => rfl
    | 2 => rfl
    | 3 => rfl
    | 4 => rfl
    | j + 5 => rfl
theorem fvL_r100 (N : gN) (i : Nat) (x : Int32) : fvL (gup N 100 i x) = gup (fvL N) 6 i x := by
  funext sel j
  match sel with
  | 0 => rfl
  | 1 => rfl
  | 2 => rfl
  | 3 => rfl
  | 4 => rfl
  | 5 => rfl
  | 6 => rfl
  | 7 => rfl
  | 8 => rfl
  | 9 => rfl
  | 10 => rfl
  | 11 => rfl
  | 12 => rfl
  | 13 => rfl
  | 14 => rfl
  | 15 => rfl
  | 16 => rfl
  | 17 => rfl
  | 18 => rfl
  | 19 => rfl
  | 20 => rfl
  | 21 => rfl
  | sel + 22 =>
    rw [gup_row (by omega)]
    match j with
    | 0 => rfl
    | 1 => rfl
    | 2 => rfl
    | 3 => rfl
    | 4 => rfl
    | j + 5 => rfl
theorem fvL_r101 (N : gN) (i : Nat) (x : Int32) : fvL (gup N 101 i x) = gup (fvL N) 7 i x := by
  funext sel j
  match sel with
  | 0 => rfl
  | 1 => rfl
  | 2 => rfl
  | 3 => rfl
  | 4 => rfl
  | 5 => rfl
  | 6 => rfl
  | 7 => rfl
  | 8 => rfl
  | 9 => rfl
  | 10 => rfl
  | 11 => rfl
  | 12 => rfl
  | 13 => rfl
  | 14 => rfl
  | 15 => rfl
  | 16 => rfl
  | 17 => rfl
  | 18 => rfl
  | 19 => rfl
  | 20 => rfl
  | 21 => rfl
  | sel + 22 =>
    rw [gup_row (by omega)]
    match j with
    | 0 => rfl
    | 1 => rfl
    | 2 => rfl
    | 3 => rfl
    | 4 => rfl
    | j + 5 => rfl
theorem fvL_r102 (N : gN) (i : Nat) (x : Int32) : fvL (gup N 102 i x) = gup (fvL N) 8 i x := by
  funext sel j
  match sel with
  | 0 => rfl
  | 1 => rfl
  | 2 => rfl
  | 3 => rfl
  | 4 => rfl
  | 5 => rfl
  | 6 => rfl
  | 7 => rfl
  | 8 => rfl
  | 9 => rfl
  | 10 => rfl
  | 11 => rfl
  | 12 => rfl
  | 13 => rfl
  | 14 => rfl
  | 15 => rfl
  | 16 => rfl
  | 17 => rfl
  | 18 => rfl
  | 19 => rfl
  | 20 => rfl
  | 21 => rfl
  | sel + 22 =>
    rw [gup_row (by omega)]
    match j with
    | 0 => rfl
    | 1 => rfl
    | 2 => rfl
    | 3 => rfl
    | 4 => rfl
    | j + 5 => rfl
theorem fvL_r87 (N : gN) (i : Nat) (x : Int32) : fvL (gup N 87 i x) = gup (fvL N) 9 i x := by
  funext sel j
  match sel with
  | 0 => rfl
  | 1 => rfl
  | 2 => rfl
  | 3 => rfl
  | 4 => rfl
  | 5 => rfl
  | 6 => rfl
  | 7 => rfl
  | 8 => rfl
  | 9 => rfl
  | 10 => rfl
  | 11 => rfl
  | 12 => rfl
  | 13 => rfl
  | 14 => rfl
  | 15 => rfl
  | 16 => rfl
  | 17 => rfl
  | 18 => rfl
  | 19 => rfl
  | 20 => rfl
  | 21 => rfl
  | sel + 22 =>
    rw [gup_row (by omega)]
    match j with
    | 0 => rfl
    | 1 => rfl
    | 2 => rfl
    | 3 => rfl
    | 4 => rfl
    | j + 5 => rfl
theorem fvL_r88 (N : gN) (i : Nat) (x : Int32) : fvL (gup N 88 i x) = gup (fvL N) 10 i x := by
  funext sel j
  match sel with
  | 0 => rfl
  | 1 => rfl
  | 2 => rfl
  | 3 => rfl
  | 4 => rfl
  | 5 => rfl
  | 6 => rfl
  | 7 => rfl
  | 8 => rfl
  | 9 => rfl
  | 10 => rfl
  | 11 => rfl
  | 12 => rfl
  | 13 => rfl
  | 14 => rfl
  | 15 => rfl
  | 16 => rfl
  | 17 => rfl
  | 18 => rfl
  | 19 => rfl
  | 20 => rfl
  | 21 => rfl
  | sel + 22 =>
    rw [gup_row (by omega)]
    match j with
    | 0 => rfl
    | 1 => rfl
    | 2 => rfl
    | 3 => rfl
    | 4 => rfl
    | j + 5 => rfl
theorem fvL_r89 (N : gN) (i : Nat) (x : Int32) : fvL (gup N 89 i x) = gup (fvL N) 11 i x := by
  funext sel j
  match sel with
  | 0 => rfl
  | 1 => rfl
  | 2 => rfl
  | 3 => rfl
  | 4 => rfl
  | 5 => rfl
  | 6 => rfl
  | 7 => rfl
  | 8 => rfl
  | 9 => rfl
  | 10 => rfl
  | 11 => rfl
  | 12 => rfl
  | 13 => rfl
  | 14 => rfl
  | 15 => rfl
  | 16 => rfl
  | 17 => rfl
  | 18 => rfl
  | 19 => rfl
  | 20 => rfl
  | 21 => rfl
  | sel + 22 =>
    rw [gup_row (by omega)]
    match j with
    | 0 => rfl
    | 1 => rfl
    | 2 => rfl
    | 3 => rfl
    | 4 => rfl
    | j + 5 => rfl
theorem fvL_r90 (N : gN) (i : Nat) (x : Int32) : fvL (gup N 90 i x) = gup (fvL N) 12 i x := by
  funext sel j
  match sel with
  | 0 => rfl
  | 1 => rfl
  | 2 => rfl
  | 3 => rfl
  | 4 => rfl
  | 5 => rfl
  | 6 => rfl
  | 7 => rfl
  | 8 => rfl
  | 9 => rfl
  | 10 => rfl
  | 11 => rfl
  | 12 => rfl
  | 13 => rfl
  | 14 => rfl
  | 15 => rfl
  | 16 => rfl
  | 17 => rfl
  | 18 => rfl
  | 19 => rfl
  | 20 => rfl
  | 21 => rfl
  | sel + 22 =>
    rw [gup_row (by omega)]
    match j with
    | 0 => rfl
    | 1 => rfl
    | 2 => rfl
    | 3 => rfl
    | 4 => rfl
    | j + 5 => rfl
theorem fvL_r91 (N : gN) (i : Nat) (x : Int32) : fvL (gup N 91 i x) = gup (fvL N) 13 i x := by
  funext sel j
  match sel with
  | 0 => rfl
  | 1 => rfl
  | 2 => rfl
  | 3 => rfl
  | 4 => rfl
  | 5 => rfl
  | 6 => rfl
  | 7 => rfl
  | 8 => rfl
  | 9 => rfl
  | 10 => rfl
  | 11 => rfl
  | 12 => rfl
  | 13 => rfl
  | 14 => rfl
  | 15 => rfl
  | 16 => rfl
  | 17 => rfl
  | 18 => rfl
  | 19 => rfl
  | 20 => rfl
  | 21 => rfl
  | sel + 22 =>
    rw [gup_row (by omega)]
    match j with
    | 0 => rfl
    | 1 => rfl
    | 2 => rfl
    | 3 => rfl
    | 4 => rfl
    | j + 5 => rfl
theorem fvL_r92 (N : gN) (i : Nat) (x : Int32) : fvL (gup N 92 i x) = gup (fvL N) 14 i x := by
  funext sel j
  match sel with
  | 0 => rfl
  | 1 => rfl
  | 2 => rfl
  | 3 => rfl
  | 4 => rfl
  | 5 => rfl
  | 6 => rfl
  | 7 => rfl
  | 8 => rfl
  | 9 => rfl
  | 10 => rfl
  | 11 => rfl
  | 12 => rfl
  | 13 => rfl
  | 14 => rfl
  | 15 => rfl
  | 16 => rfl
  | 17 => rfl
  | 18 => rfl
  | 19 => rfl
  | 20 => rfl
  | 21 => rfl
  | sel + 22 =>
    rw [gup_row (by omega)]
    match j with
    | 0 => rfl
    | 1 => rfl
    | 2 => rfl
    | 3 => rfl
    | 4 => rfl
    | j + 5 => rfl
theorem fvL_r93 (N : gN) (i : Nat) (x : Int32) : fvL (gup N 93 i x) = gup (fvL N) 15 i x := by
  funext sel j
  match sel with
  | 0 => rfl
  | 1 => rfl
  | 2 => rfl
  | 3 => rfl
  | 4 => rfl
  | 5 => rfl
  | 6 => rfl
  | 7 => rfl
  | 8 => rfl
  | 9 => rfl
  | 10 => rfl
  | 11 => rfl
  | 12 => rfl
  | 13 => rfl
  | 14 => rfl
  | 15 => rfl
  | 16 => rfl
  | 17 => rfl
  | 18 => rfl
  | 19 => rfl
  | 20 => rfl
  | 21 => rfl
  | sel + 22 =>
    rw [gup_row (by omega)]
    match j with
    | 0 => rfl
    | 1 => rfl
    | 2 => rfl
    | 3 => rfl
    | 4 => rfl
    | j + 5 => rfl
theorem fvL_r94 (N : gN) (i : Nat) (x : Int32) : fvL (gup N 94 i x) = gup (fvL N) 16 i x := by
  funext sel j
  match sel with
  | 0 => rfl
  | 1 => rfl
  | 2 => rfl
  | 3 => rfl
  | 4 => rfl
  | 5 => rfl
  | 6 => rfl
  | 7 => rfl
  | 8 => rfl
  | 9 => rfl
  | 10 => rfl
  | 11 => rfl
  | 12 => rfl
  | 13 => rfl
  | 14 => rfl
  | 15 => rfl
  | 16 => rfl
  | 17 => rfl
  | 18 => rfl
  | 19 => rfl
  | 20 => rfl
  | 21 => rfl
  | sel + 22 =>
    rw [gup_row (by omega)]
    match j with
    | 0 => rfl
    | 1 => rfl
    | 2 => rfl
    | 3 => rfl
    | 4 => rfl
    | j + 5 => rfl
theorem fvL_r95 (N : gN) (i : Nat) (x : Int32) : fvL (gup N 95 i x) = gup (fvL N) 17 i x := by
  funext sel j
  match sel with
  | 0 => rfl
  | 1 => rfl
  | 2 => rfl
  | 3 => rfl
  | 4 => rfl
  | 5 => rfl
  | 6 => rfl
  | 7 => rfl
  | 8 => rfl
  | 9 => rfl
  | 10 => rfl
  | 11 => rfl
  | 12 => rfl
  | 13 => rfl
  | 14 => rfl
  | 15 => rfl
  | 16 => rfl
  | 17 => rfl
  | 18 => rfl
  | 19 => rfl
  | 20 => rfl
  | 21 => rfl
  | sel + 22 =>
    rw [gup_row (by omega)]
    match j with
    | 0 => rfl
    | 1 => rfl
    | 2 => rfl
    | 3 => rfl
    | 4 => rfl
    | j + 5 => rfl
theorem fvL_r96 (N : gN) (i : Nat) (x : Int32) : fvL (gup N 96 i x) = gup (fvL N) 18 i x := by
  funext sel j
  match sel with
  | 0 => rfl
  | 1 => rfl
  | 2 => rfl
  | 3 => rfl
  | 4 => rfl
  | 5 => rfl
  | 6 => rfl
  | 7 => rfl
  | 8 => rfl
  | 9 => rfl
  | 10 => rfl
  | 11 => rfl
  | 12 => rfl
  | 13 => rfl
  | 14 => rfl
  | 15 => rfl
  | 16 => rfl
  | 17 => rfl
  | 18 => rfl
  | 19 => rfl
  | 20 => rfl
  | 21 => rfl
  | sel + 22 =>
    rw [gup_row (by omega)]
    match j with
    | 0 => rfl
    | 1 => rfl
    | 2 => rfl
    | 3 => rfl
    | 4 => rfl
    | j + 5 => rfl
theorem fvL_r97 (N : gN) (i : Nat) (x : Int32) : fvL (gup N 97 i x) = gup (fvL N) 19 i x := by
  funext sel j
  match sel with
  | 0 => rfl
  | 1 => rfl
  | 2 => rfl
  | 3 => rfl
  | 4 => rfl
  | 5 => rfl
  | 6 => rfl
  | 7 => rfl
  | 8 => rfl
  | 9 => rfl
  | 10 => rfl
  | 11 => rfl
  | 12 => rfl
  | 13 => rfl
  | 14 => rfl
  | 15 => rfl
  | 16 => rfl
  | 17 => rfl
  | 18 => rfl
  | 19 => rfl
  | 20 => rfl
  | 21 => rfl
  | sel + 22 =>
    rw [gup_row (by omega)]
    match j with
    | 0 => rfl
    | 1 => rfl
    | 2 => rfl
    | 3 => rfl
    | 4 => rfl
    | j + 5 => rfl
theorem fvL_r98 (N : gN) (i : Nat) (x : Int32) : fvL (gup N 98 i x) = gup (fvL N) 20 i x := by
  funext sel j
  match sel with
  | 0 => rfl
  | 1 => rfl
  | 2 => rfl
  | 3 => rfl
  | 4 => rfl
  | 5 => rfl
  | 6 => rfl
  | 7 => rfl
  | 8 => rfl
  | 9 => rfl
  | 10 => rfl
  | 11 => rfl
  | 12 => rfl
  | 13 => rfl
  | 14 => rfl
  | 15 => rfl
  | 16 => rfl
  | 17 => rfl
  | 18 => rfl
  | 19 => rfl
  | 20 => rfl
  | 21 => rfl
  | sel + 22 =>
    rw [gup_row (by omega)]
    match j with
    | 0 => rfl
    | 1 => rfl
    | 2 => rfl
    | 3 => rfl
    | 4 => rfl
    | j + 5 => rfl
theorem fvL_r99 (N : gN) (i : Nat) (x : Int32) : fvL (gup N 99 i x) = gup (fvL N) 21 i x := by
  funext sel j
  match sel with
  | 0 => rfl
  | 1 => rfl
  | 2 => rfl
  | 3 => rfl
  | 4 => rfl
  | 5 => rfl
  | 6 => rfl
  | 7 => rfl
  | 8 => rfl
  | 9 => rfl
  | 10 => rfl
  | 11 => rfl
  | 12 => rfl
  | 13 => rfl
  | 14 => rfl
  | 15 => rfl
  | 16 => rfl
  | 17 => rfl
  | 18 => rfl
  | 19 => rfl
  | 20 => rfl
  | 21 => rfl
  | sel + 22 =>
    rw [gup_row (by omega)]
    match j with
    | 0 => rfl
    | 1 => rfl
    | 2 => rfl
    | 3 => rfl
    | 4 => rfl
    | j + 5 => rfl
theorem fvL_s0 (N : gN) (x : Int32) (sel j : Nat) : fvL (gup N 81 0 x) sel j = if 22 ≤ sel ∧ j = 0 then x else fvL N sel j := by
  match sel with
  | 0 => rfl
  | 1 => rfl
  | 2 => rfl
  | 3 => rfl
  | 4 => rfl
  | 5 => rfl
  | 6 => rfl
  | 7 => rfl
  | 8 => rfl
  | 9 => rfl
  | 10 => rfl
  | 11 => rfl
  | 12 => rfl
  | 13 => rfl
  | 14 => rfl
  | 15 => rfl
  | 16 => rfl
  | 17 => rfl
  | 18 => rfl
  | 19 => rfl
  | 20 => rfl
  | 21 => rfl
  | sel + 22 =>
    match j with
    | 0 => simp [fvL, gup_all]
    | 1 => simp [fvL, gup_all]
    | 2 => simp [fvL, gup_all]
    | 3 => simp [fvL, gup_all]
    | 4 => simp [fvL, gup_all]
    | j + 5 => simp [fvL]
theorem fvL_s1 (N : gN) (x : Int32) (sel j : Nat) : fvL (gup N 81 1 x) sel j = if 22 ≤ sel ∧ j = 1 then x else fvL N sel j := by
  match sel with
  | 0 => rfl
  | 1 => rfl
  | 2 => rfl
  | 3 => rfl
  | 4 => rfl
  | 5 => rfl
  | 6 => rfl
  | 7 => rfl
  | 8 => rfl
  | 9 => rfl
  | 10 => rfl
  | 11 => rfl
  | 12 => rfl
  | 13 => rfl
  | 14 => rfl
  | 15 => rfl
  | 16 => rfl
  | 17 => rfl
  | 18 => rfl
  | 19 => rfl
  | 20 => rfl
  | 21 => rfl
  | sel + 22 =>
    match j with
    | 0 => simp [fvL, gup_all]
    | 1 => simp [fvL, gup_all]
    | 2 => simp [fvL, gup_all]
    | 3 => simp [fvL, gup_all]
    | 4 => simp [fvL, gup_all]
    | j + 5 => simp [fvL]
theorem fvL_s2 (N : gN) (x : Int32) (sel j : Nat) : fvL (gup N 81 2 x) sel j = if 22 ≤ sel ∧ j = 2 then x else fvL N sel j := by
  match sel with
  | 0 => rfl
  | 1 => rfl
  | 2 => rfl
  | 3 => rfl
  | 4 => rfl
  | 5 => rfl
  | 6 => rfl
  | 7 => rfl
  | 8 => rfl
  | 9 => rfl
  | 10 => rfl
  | 11 => rfl
  | 12 => rfl
  | 13 => rfl
  | 14 => rfl
  | 15 => rfl
  | 16 => rfl
  | 17 => rfl
  | 18 => rfl
  | 19 => rfl
  | 20 => rfl
  | 21 => rfl
  | sel + 22 =>
    match j with
    | 0 => simp [fvL, gup_all]
    | 1 => simp [fvL, gup_all]
    | 2 => simp [fvL, gup_all]
    | 3 => simp [fvL, gup_all]
    | 4 => simp [fvL, gup_all]
    | j + 5 => simp [fvL]
theorem fvL_s10 (N : gN) (x : Int32) (sel j : Nat) : fvL (gup N 81 10 x) sel j = if 22 ≤ sel ∧ j = 3 then x else fvL N sel j := by
  match sel with
  | 0 => rfl
  | 1 => rfl
  | 2 => rfl
  | 3 => rfl
  | 4 => rfl
  | 5 => rfl
  | 6 => rfl
  | 7 => rfl
  | 8 => rfl
  | 9 => rfl
  | 10 => rfl
  | 11 => rfl
  | 12 => rfl
  | 13 => rfl
  | 14 => rfl
  | 15 => rfl
  | 16 => rfl
  | 17 => rfl
  | 18 => rfl
  | 19 => rfl
  | 20 => rfl
  | 21 => rfl
  | sel + 22 =>
    match j with
    | 0 => simp [fvL, gup_all]
    | 1 => simp [fvL, gup_all]
    | 2 => simp [fvL, gup_all]
    | 3 => simp [fvL, gup_all]
    | 4 => simp [fvL, gup_all]
    | j + 5 => simp [fvL]
theorem fvL_s15 (N : gN) (x : Int32) (sel j : Nat) : fvL (gup N 81 15 x) sel j = if 22 ≤ sel ∧ j = 4 then x else fvL N sel j := by
  match sel with
  | 0 => rfl
  | 1 => rfl
  | 2 => rfl
  | 3 => rfl
  | 4 => rfl
  | 5 => rfl
  | 6 => rfl
  | 7 => rfl
  | 8 => rfl
  | 9 => rfl
  | 10 => rfl
  | 11 => rfl
  | 12 => rfl
  | 13 => rfl
  | 14 => rfl
  | 15 => rfl
  | 16 => rfl
  | 17 => rfl
  | 18 => rfl
  | 19 => rfl
  | 20 => rfl
  | 21 => rfl
  | sel + 22 =>
    match j with
    | 0 => simp [fvL, gup_all]
    | 1 => simp [fvL, gup_all]
    | 2 => simp [fvL, gup_all]
    | 3 => simp [fvL, gup_all]
    | 4 => simp [fvL, gup_all]
    | j + 5 => simp [fvL]
/-- a row of a Town's block -/
theorem gblk (N : gN) (t j i : Nat) (x : Int32) : (fun k => gup N (t + j) i x (t + k)) = gup (fun k => N (t + k)) j i x := by
  funext k q
  rw [gup_all, gup_all]
  by_cases h : k = j
  · subst h; simp
  · have : t + k ≠ t + j := by omega
    simp [h, this]
theorem gblk_far {N : gN} {t p i : Nat} {x : Int32} (h : p < t) : (fun k => gup N p i x (t + k)) = fun k => N (t + k) := by
  funext k
  exact gup_ne (by omega)
theorem gblk_up {N : gN} {t p i : Nat} {x : Int32} (C : gN) (h : t + 31 ≤ p) (k : Nat) (hk : k < 31) : gup N p i x (t + k) = N (t + k) := gup_ne (by omega)
/-- FRel looks at the first 31 rows of the block alone -/
theorem FRel.blk {n : Nat} {C C' V : gN} (h : ∀ j, j < 31 → C' j = C j) (H : FRel n C V) : FRel n C' V := by
  obtain ⟨w, h9, hr, le, we, sd, gs, wt, ol, wp, wc, ww, wo, ws, a1, a2, a3, a4, a5, a6, a7, a8, a9, b1, b2, b3, b4, b5, b6, b7⟩ := H
  refine ⟨w, h9, hr, le, we, sd, gs, wt, ol, wp, wc, ww, wo, ws, a1, a2, ?_, ?_, ?_, ?_, a7, a8, ?_, ?_, b2, b3, ?_, ?_, ?_, b7⟩
  · rw [h 2 (by decide), h 0 (by decide), h 11 (by decide), h 17 (by decide)]; exact a3
  · rw [h 3 (by decide), h 4 (by decide)]; exact a4
  · rw [h 5 (by decide), h 6 (by decide), h 7 (by decide), h 9 (by decide), h 10 (by decide)]; exact a5
  · rw [h 8 (by decide)]; exact a6
  · rw [h 12 (by decide), h 13 (by decide), h 14 (by decide), h 15 (by decide), h 16 (by decide)]; exact a9
  · rw [h 18 (by decide), h 19 (by decide), h 20 (by decide), h 21 (by decide)]; exact b1
  · rw [h 22 (by decide), h 23 (by decide), h 24 (by decide), h 25 (by decide)]; exact b4
  · rw [h 22 (by decide), h 23 (by decide), h 24 (by decide), h 25 (by decide)]; exact b5
  · rw [h 27 (by decide), h 28 (by decide), h 29 (by decide), h 30 (by decide)]; exact b6
/-- the kept fields stand while rows 123 and from 128 on stand -/
theorem GKept.frame {n K : Nat} {N N' : gN} (H : GKept n K N) (h0 : N' 0 2 = N 0 2) (h1 : N' 81 60 = N 81 60) (h2 : N' 123 = N 123) (h3 : ∀ p, 128 ≤ p → N' p = N p) : GKept n K N' := by
  have e : ∀ k, fvP N' k = fvP N k := fun k => by unfold fvP; rw [h2]
  refine ⟨H.1, h0.trans H.2.1, h1.trans H.2.2.1, fun z => ?_, fun z => ?_, fun z => ?_⟩
  · rw [e]; exact FRel.blk (fun j _ => h3 _ (by omega)) (H.2.2.2.1 z)
  · rw [e]; exact FRel.blk (fun j _ => h3 _ (by omega)) (H.2.2.2.2.1 z)
  · rw [e]; exact FRel.blk (fun j _ => h3 _ (by omega)) (H.2.2.2.2.2 z)
