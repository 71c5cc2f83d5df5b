/-! ===== what was measured moves: as numbers ===== -/
def mvO (ol fo : Nat → Nat) : Nat → Nat → Nat
  | 0 => ol
  | t + 1 => tkO (mvO ol fo t) (t / 4) (fo t)
def mvA (ol fo dd : Nat → Nat) : Nat → Nat → Nat
  | 0 => fun _ => 0
  | t + 1 => fun q => if 9 * dd t ≤ q ∧ q < 9 * dd t + 9 then mvA ol fo dd t q + tk (mvO ol fo t) (t / 4) (fo t) (q - 9 * dd t) else mvA ol fo dd t q
def rvW (wt fw : Nat → Nat) : Nat → Nat → Nat
  | 0 => wt
  | t + 1 => fun q => if q = t / 4 then rvW wt fw t q - fw t else rvW wt fw t q
def rvI (fw dd : Nat → Nat) : Nat → Nat → Nat
  | 0 => fun _ => 0
  | t + 1 => fun q => if q = dd t then rvI fw dd t q + fw t else rvI fw dd t q
def mvW (wt fw dd : Nat → Nat) : Nat → Nat → Nat
  | 0 => wt
  | t + 1 => fun q => if q = dd t then (if q = t / 4 then mvW wt fw dd t q - fw t else mvW wt fw dd t q) + fw t else if q = t / 4 then mvW wt fw dd t q - fw t else mvW wt fw dd t q
/-- what has left cell c before t -/
def lftN (f : Nat → Nat) (c t : Nat) : Nat := gsum (fun s => if 4 * c + s < t then f (4 * c + s) else 0) 4
theorem lftN_s (f : Nat → Nat) (c t : Nat) : lftN f c (t + 1) = if c = t / 4 then lftN f c t + f t else lftN f c t := by
  unfold lftN
  show 0 + (if 4 * c + 0 < t + 1 then f (4 * c + 0) else 0) + (if 4 * c + 1 < t + 1 then f (4 * c + 1) else 0) + (if 4 * c + 2 < t + 1 then f (4 * c + 2) else 0) + (if 4 * c + 3 < t + 1 then f (4 * c + 3) else 0) = if c = t / 4 then 0 + (if 4 * c + 0 < t then f (4 * c + 0) else 0) + (if 4 * c + 1 < t then f (4 * c + 1) else 0) + (if 4 * c + 2 < t then f (4 * c + 2) else 0) + (if 4 * c + 3 < t then f (4 * c + 3) else 0) + f t else 0 + (if 4 * c + 0 < t then f (4 * c + 0) else 0) + (if 4 * c + 1 < t then f (4 * c + 1) else 0) + (if 4 * c + 2 < t then f (4 * c + 2) else 0) + (if 4 * c + 3 < t then f (4 * c + 3) else 0)
  by_cases e : c = t / 4
  · rw [if_pos e]
    rcases (show t = 4 * c + 0 ∨ t = 4 * c + 1 ∨ t = 4 * c + 2 ∨ t = 4 * c + 3 by omega) with z | z | z | z
    · rw [z]
      rw [if_pos (by omega), if_neg (by omega), if_neg (by omega), if_neg (by omega), if_neg (by omega), if_neg (by omega), if_neg (by omega), if_neg (by omega)]
      omega
    · rw [z]
      rw [if_pos (by omega), if_pos (by omega), if_neg (by omega), if_neg (by omega), if_pos (by omega), if_neg (by omega), if_neg (by omega), if_neg (by omega)]
      omega
    · rw [z]
      rw [if_pos (by omega), if_pos (by omega), if_pos (by omega), if_neg (by omega), if_pos (by omega), if_pos (by omega), if_neg (by omega), if_neg (by omega)]
      omega
    · rw [z]
      rw [if_pos (by omega), if_pos (by omega), if_pos (by omega), if_pos (by omega), if_pos (by omega), if_pos (by omega), if_pos (by omega), if_neg (by omega)]
      omega
  · rw [if_neg e]
    rcases (show t < 4 * c ∨ 4 * c + 4 ≤ t by omega) with z | z
    · rw [if_neg (by omega), if_neg (by omega), if_neg (by omega), if_neg (by omega), if_neg (by omega), if_neg (by omega), if_neg (by omega), if_neg (by omega)]
    · rw [if_pos (by omega), if_pos (by omega), if_pos (by omega), if_pos (by omega), if_pos (by omega), if_pos (by omega), if_pos (by omega), if_pos (by omega)]
theorem lftN_le (f : Nat → Nat) (c t : Nat) : lftN f c t ≤ gsum (fun s => f (4 * c + s)) 4 := gsum_le (fun s _ => by
  show (if 4 * c + s < t then f (4 * c + s) else 0) ≤ f (4 * c + s)
  split <;> omega)
theorem lftN_end (f : Nat → Nat) {c t : Nat} (h : 4 * c + 4 ≤ t) : lftN f c t = gsum (fun s => f (4 * c + s)) 4 := gsum_congr (fun s hs => if_pos (by omega))
section MV
variable {ol wt fo fw dd : Nat → Nat}
theorem mvO_sum (hf : ∀ c, gsum (fun s => fo (4 * c + s)) 4 ≤ osum ol c) : ∀ t c, osum (mvO ol fo t) c + lftN fo c t = osum ol c
  | 0, c => by
    have : lftN fo c 0 = 0 := by
      unfold lftN
      exact gsum_congr (g := fun _ => 0) (fun s _ => if_neg (by omega))
    rw [this]
    rfl
  | t + 1, c => by
    have ih := mvO_sum hf t
    have hle : fo t ≤ osum (mvO ol fo t) (t / 4) := by
      have h1 := ih (t / 4)
      have h2 := lftN_s fo (t / 4) t
      rw [if_pos rfl] at h2
      have h3 := lftN_le fo (t / 4) (t + 1)
      have h4 := hf (t / 4)
      omega
    show osum (tkO (mvO ol fo t) (t / 4) (fo t)) c + _ = _
    rw [tkO_sum hle, lftN_s]
    by_cases e : c = t / 4
    · rw [if_pos e, if_pos e]
      have := ih c
      rw [e] at this ⊢
      omega
    · rw [if_neg e, if_neg e]
      exact ih c
theorem mvO_ok (hf : ∀ c, gsum (fun s => fo (4 * c + s)) 4 ≤ osum ol c) (t : Nat) : fo t ≤ osum (mvO ol fo t) (t / 4) := by
  have h1 := mvO_sum hf t (t / 4)
  have h2 := lftN_s fo (t / 4) t
  rw [if_pos rfl] at h2
  have h3 := lftN_le fo (t / 4) (t + 1)
  have h4 := hf (t / 4)
  omega
theorem rvW_sum (hf : ∀ c, gsum (fun s => fw (4 * c + s)) 4 ≤ wt c) : ∀ t c, rvW wt fw t c + lftN fw c t = wt c
  | 0, c => by
    have : lftN fw c 0 = 0 := by
      unfold lftN
      exact gsum_congr (g := fun _ => 0) (fun s _ => if_neg (by omega))
    rw [this]
    rfl
  | t + 1, c => by
    have ih := rvW_sum hf t c
    show (if c = t / 4 then rvW wt fw t c - fw t else rvW wt fw t c) + _ = _
    have h2 := lftN_s fw c t
    have h3 := lftN_le fw c (t + 1)
    have h4 := hf c
    rw [h2] at h3 ⊢
    by_cases e : c = t / 4
    · rw [if_pos e] at h3 ⊢
      rw [if_pos e]
      omega
    · rw [if_neg e, if_neg e]
      exact ih
theorem rvW_ok (hf : ∀ c, gsum (fun s => fw (4 * c + s)) 4 ≤ wt c) (t : Nat) : fw t ≤ rvW wt fw t (t / 4) := by
  have h1 := rvW_sum hf t (t / 4)
  have h2 := lftN_s fw (t / 4) t
  rw [if_pos rfl] at h2
  have h3 := lftN_le fw (t / 4) (t + 1)
  have h4 := hf (t / 4)
  omega
theorem mvW_eq (hf : ∀ c, gsum (fun s => fw (4 * c + s)) 4 ≤ wt c) : ∀ t c, mvW wt fw dd t c = rvW wt fw t c + rvI fw dd t c
  | 0, c => rfl
  | t + 1, c => by
    have ih := mvW_eq hf t c
    have ok := rvW_ok hf t
    show (if c = dd t then (if c = t / 4 then mvW wt fw dd t c - fw t else mvW wt fw dd t c) + fw t else if c = t / 4 then mvW wt fw dd t c - fw t else mvW wt fw dd t c) = (if c = t / 4 then rvW wt fw t c - fw t else rvW wt fw t c) + if c = dd t then rvI fw dd t c + fw t else rvI fw dd t c
    rw [ih]
    by_cases e1 : c = t / 4
    · rw [← e1] at ok
      rw [if_pos e1, if_pos e1]
      by_cases e2 : c = dd t
      · rw [if_pos e2, if_pos e2]; omega
      · rw [if_neg e2, if_neg e2]; omega
    · rw [if_neg e1, if_neg e1]
      by_cases e2 : c = dd t
      · rw [if_pos e2, if_pos e2]; omega
      · rw [if_neg e2, if_neg e2]
theorem mvW_ok (hf : ∀ c, gsum (fun s => fw (4 * c + s)) 4 ≤ wt c) (t : Nat) : fw t ≤ mvW wt fw dd t (t / 4) := by
  rw [mvW_eq hf]
  have := rvW_ok hf t
  omega
theorem rvI_sum : ∀ t c, rvI fw dd t c = gsum (fun u => if c = dd u then fw u else 0) t
  | 0, c => rfl
  | t + 1, c => by
    have ih := rvI_sum t c
    show (if c = dd t then rvI fw dd t c + fw t else rvI fw dd t c) = gsum (fun u => if c = dd u then fw u else 0) t + (if c = dd t then fw t else 0)
    rw [ih]
    split <;> omega
theorem mvA_sum (hf : ∀ c, gsum (fun s => fo (4 * c + s)) 4 ≤ osum ol c) : ∀ t c, osum (mvA ol fo dd t) c = gsum (fun u => if c = dd u then fo u else 0) t
  | 0, c => by
    rw [osum_eq]
    exact gsum_congr (n := 9) (g := fun _ => 0) (fun _ _ => rfl)
  | t + 1, c => by
    have ih := mvA_sum hf t c
    have ok := mvO_ok hf t
    show osum (fun q => if 9 * dd t ≤ q ∧ q < 9 * dd t + 9 then mvA ol fo dd t q + tk (mvO ol fo t) (t / 4) (fo t) (q - 9 * dd t) else mvA ol fo dd t q) c = gsum (fun u => if c = dd u then fo u else 0) t + (if c = dd t then fo t else 0)
    rw [← ih, osum_eq, osum_eq]
    by_cases e : c = dd t
    · rw [if_pos e, ← tk_sum ok, ← gsum_add]
      refine gsum_congr (fun l hl => ?_)
      show (if 9 * dd t ≤ 9 * c + l ∧ 9 * c + l < 9 * dd t + 9 then _ else _) = _
      rw [if_pos (by omega), show 9 * c + l - 9 * dd t = l by omega]
      rw [tk_sum ok]
    · rw [if_neg e, Nat.add_zero]
      refine gsum_congr (fun l hl => ?_)
      show (if 9 * dd t ≤ 9 * c + l ∧ 9 * c + l < 9 * dd t + 9 then _ else _) = _
      rw [if_neg (by omega)]
theorem mvO_le : ∀ t q, mvO ol fo t q ≤ ol q
  | 0, q => Nat.le_refl _
  | t + 1, q => Nat.le_trans (tkO_le q) (mvO_le t q)
theorem mv_none {t : Nat} (ho : fo t = 0) (hw : fw t = 0) : mvO ol fo (t + 1) = mvO ol fo t ∧ mvA ol fo dd (t + 1) = mvA ol fo dd t ∧ mvW wt fw dd (t + 1) = mvW wt fw dd t ∧ rvW wt fw (t + 1) = rvW wt fw t ∧ rvI fw dd (t + 1) = rvI fw dd t := by
  refine ⟨?_, ?_, ?_, ?_, ?_⟩
  · show tkO (mvO ol fo t) (t / 4) (fo t) = _
    rw [ho, tkO_zero]
  · funext q
    show (if 9 * dd t ≤ q ∧ q < 9 * dd t + 9 then mvA ol fo dd t q + tk (mvO ol fo t) (t / 4) (fo t) (q - 9 * dd t) else mvA ol fo dd t q) = _
    rw [ho, tk_zero]
    split <;> rfl
  · funext q
    show (if q = dd t then (if q = t / 4 then mvW wt fw dd t q - fw t else mvW wt fw dd t q) + fw t else if q = t / 4 then mvW wt fw dd t q - fw t else mvW wt fw dd t q) = _
    rw [hw]
    split <;> split <;> omega
  · funext q
    show (if q = t / 4 then rvW wt fw t q - fw t else rvW wt fw t q) = _
    rw [hw]
    split <;> omega
  · funext q
    show (if q = dd t then rvI fw dd t q + fw t else rvI fw dd t q) = _
    rw [hw]
    split <;> omega
end MV
