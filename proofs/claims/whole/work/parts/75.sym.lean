/-! ===== neighbours of neighbours; sums over flows ===== -/
def opS (s : Nat) : Nat := if s = 0 then 1 else if s = 1 then 0 else if s = 2 then 3 else 2
theorem mod_up {c w : Nat} (hw : 0 < w) : (c + 1) % w = if c % w + 1 = w then 0 else c % w + 1 := by
  have hm := Nat.mod_lt c hw
  by_cases e : c % w + 1 = w
  · rw [if_pos e]
    have : c + 1 = w * (c / w + 1) := by
      have := Nat.div_add_mod c w
      rw [Nat.mul_add, Nat.mul_one]
      omega
    rw [this, Nat.mul_mod_right]
  · rw [if_neg e]
    have : c + 1 = w * (c / w) + (c % w + 1) := by
      have := Nat.div_add_mod c w
      omega
    rw [this, Nat.mul_add_mod, Nat.mod_eq_of_lt (by omega)]
theorem nbr_sym {w h c c' s : Nat} (hw : 1 ≤ w) (hc : c < w * h) (hc' : c' < w * h) (hs : s < 4) (h36 : w * h ≤ 36) : nbr w h c' s = c ↔ nbr w h c (opS s) = c' := by
  have n1 : c ≠ 100 := by omega
  have n2 : c' ≠ 100 := by omega
  have vert : ∀ a, a + w < w * h → a / w + 1 < h := by
    intro a ha
    rcases Nat.lt_or_ge (a / w + 1) h with q | q
    · exact q
    · exfalso
      have h1 : w * h ≤ w * (a / w + 1) := Nat.mul_le_mul_left w q
      rw [Nat.mul_add, Nat.mul_one] at h1
      have := Nat.div_add_mod a w
      omega
  have vdiv : ∀ a, 0 < (a + w) / w := by
    intro a
    rw [Nat.add_div_right a (by omega)]
    exact Nat.succ_pos _
  have dv : ∀ a, 0 < a / w → w ≤ a := by
    intro a ha
    rcases Nat.lt_or_ge a w with q | q
    · rw [Nat.div_eq_of_lt q] at ha; omega
    · exact q
  have md : ∀ a, 0 < (a + 1) % w ↔ a % w + 1 < w := by
    intro a
    have hm := Nat.mod_lt a (show 0 < w by omega)
    rw [mod_up (by omega)]
    by_cases e : a % w + 1 = w
    · rw [if_pos e]; omega
    · rw [if_neg e]; omega
  unfold nbr opS
  rcases (show s = 0 ∨ s = 1 ∨ s = 2 ∨ s = 3 by omega) with e | e | e | e
  · subst e
    simp only [if_true, show ¬ (1 = 0) by decide, if_false]
    by_cases z : c' = c + 1
    · subst z
      have m := md c
      by_cases y : c % w + 1 < w
      · rw [if_pos (m.mpr y), if_pos y]; omega
      · rw [if_neg (fun q => y (m.mp q)), if_neg y]; omega
    · constructor
      · intro q
        by_cases y : 0 < c' % w
        · rw [if_pos y] at q
          have := Nat.mod_le c' w
          omega
        · rw [if_neg y] at q; omega
      · intro q
        by_cases y : c % w + 1 < w
        · rw [if_pos y] at q; omega
        · rw [if_neg y] at q; omega
  · subst e
    simp only [if_true, show ¬ (1 = 0) by decide, if_false]
    by_cases z : c = c' + 1
    · subst z
      have m := md c'
      by_cases y : c' % w + 1 < w
      · rw [if_pos (m.mpr y), if_pos y]; omega
      · rw [if_neg (fun q => y (m.mp q)), if_neg y]; omega
    · constructor
      · intro q
        by_cases y : c' % w + 1 < w
        · rw [if_pos y] at q; omega
        · rw [if_neg y] at q; omega
      · intro q
        by_cases y : 0 < c % w
        · rw [if_pos y] at q
          have := Nat.mod_le c w
          omega
        · rw [if_neg y] at q; omega
  · subst e
    simp only [if_true, show ¬ (2 = 0) by decide, show ¬ (2 = 1) by decide, show ¬ (3 = 0) by decide, show ¬ (3 = 1) by decide, show ¬ (3 = 2) by decide, if_false]
    by_cases z : c' = c + w
    · subst z
      rw [if_pos (vdiv c), if_pos (vert c hc')]; omega
    · constructor
      · intro q
        by_cases y : 0 < c' / w
        · rw [if_pos y] at q
          have := dv c' y
          omega
        · rw [if_neg y] at q; omega
      · intro q
        by_cases y : c / w + 1 < h
        · rw [if_pos y] at q; omega
        · rw [if_neg y] at q; omega
  · subst e
    simp only [if_true, show ¬ (2 = 0) by decide, show ¬ (2 = 1) by decide, show ¬ (3 = 0) by decide, show ¬ (3 = 1) by decide, show ¬ (3 = 2) by decide, if_false]
    by_cases z : c = c' + w
    · subst z
      rw [if_pos (vdiv c'), if_pos (vert c' hc)]; omega
    · constructor
      · intro q
        by_cases y : c' / w + 1 < h
        · rw [if_pos y] at q; omega
        · rw [if_neg y] at q; omega
      · intro q
        by_cases y : 0 < c / w
        · rw [if_pos y] at q
          have := dv c y
          omega
        · rw [if_neg y] at q; omega
theorem opS_op {s : Nat} (hs : s < 4) : opS (opS s) = s ∧ opS s < 4 := by
  rcases (show s = 0 ∨ s = 1 ∨ s = 2 ∨ s = 3 by omega) with e | e | e | e <;> subst e <;> decide
/-- sums of whole numbers, also below zero -/
def isum (f : Nat → Int) : Nat → Int
  | 0 => 0
  | n + 1 => isum f n + f n
theorem isum_le {f g : Nat → Int} : ∀ {n : Nat}, (∀ i, i < n → f i ≤ g i) → isum f n ≤ isum g n
  | 0, _ => Int.le_refl _
  | n + 1, h => by
    have h1 := isum_le (f := f) (g := g) (n := n) (fun i hi => h i (by omega))
    have h2 := h n (by omega)
    show isum f n + f n ≤ isum g n + g n
    omega
theorem isum_congr {f g : Nat → Int} {n : Nat} (h : ∀ i, i < n → f i = g i) : isum f n = isum g n :=
  Int.le_antisymm (isum_le fun i hi => by rw [h i hi]; exact Int.le_refl _) (isum_le fun i hi => by rw [h i hi]; exact Int.le_refl _)
theorem isum_add (f g : Nat → Int) : ∀ n, isum (fun i => f i + g i) n = isum f n + isum g n
  | 0 => rfl
  | n + 1 => by
    have := isum_add f g n
    show isum (fun i => f i + g i) n + (f n + g n) = isum f n + f n + (isum g n + g n)
    omega
theorem isum_const (x : Int) : ∀ n : Nat, isum (fun _ => x) n = (n : Int) * x
  | 0 => by simp [isum]
  | n + 1 => by
    have := isum_const x n
    show isum (fun _ => x) n + x = _
    rw [this, Int.natCast_succ, Int.add_mul, Int.one_mul]
theorem isum_cast (f : Nat → Nat) : ∀ n, ((gsum f n : Nat) : Int) = isum (fun i => (f i : Int)) n
  | 0 => rfl
  | n + 1 => by
    have := isum_cast f n
    show ((gsum f n + f n : Nat) : Int) = isum (fun i => (f i : Int)) n + (f n : Int)
    omega
theorem isum_at (G : Nat → Int) (c0 : Nat) : ∀ n, isum (fun c => if c = c0 then G c else 0) n = if c0 < n then G c0 else 0
  | 0 => by rw [if_neg (by omega)]; rfl
  | n + 1 => by
    have ih := isum_at G c0 n
    show isum (fun c => if c = c0 then G c else 0) n + (if n = c0 then G n else 0) = _
    rw [ih]
    by_cases e : n = c0
    · rw [if_pos e, if_neg (by omega), if_pos (by omega), e]; omega
    · rw [if_neg e]
      by_cases e2 : c0 < n
      · rw [if_pos e2, if_pos (by omega)]; omega
      · rw [if_neg e2, if_neg (by omega)]; omega
/-- double sums may be taken in the other order -/
theorem isum_swap (G : Nat → Nat → Int) (n : Nat) : ∀ k, isum (fun c => isum (fun d => G c d) n) k = isum (fun d => isum (fun c => G c d) k) n
  | 0 => by
    show (0 : Int) = _
    have e : isum (fun d => isum (fun c => G c d) 0) n = isum (fun _ => 0) n := isum_congr (fun i _ => rfl)
    rw [e, isum_const, Int.mul_zero]
  | k + 1 => by
    have ih := isum_swap G n k
    show isum (fun c => isum (fun d => G c d) n) k + isum (fun d => G k d) n = _
    rw [ih, ← isum_add]
    rfl
/-- a sum over what flows by side s, told from the other end -/
theorem isum_turn {w h s : Nat} (G : Nat → Int) (hw : 1 ≤ w) (h36 : w * h ≤ 36) (hs : s < 4) (h0 : ∀ c, c < w * h → nbr w h c s = 100 → G c = 0) : isum G (w * h) = isum (fun d => if nbr w h d (opS s) = 100 then 0 else G (nbr w h d (opS s))) (w * h) := by
  have e1 : isum G (w * h) = isum (fun c => isum (fun d => if d = nbr w h c s then G c else 0) (w * h)) (w * h) := by
    refine isum_congr (fun c hc => ?_)
    rw [isum_at (fun _ => G c)]
    rcases nbr_lt hw hc s with e | e
    · rw [if_neg (by omega), h0 c hc e]
    · rw [if_pos e]
  rw [e1, isum_swap]
  refine isum_congr (fun d hd => ?_)
  have e2 : isum (fun c => if d = nbr w h c s then G c else 0) (w * h) = isum (fun c => if c = nbr w h d (opS s) then G c else 0) (w * h) := by
    refine isum_congr (fun c hc => ?_)
    have sy := nbr_sym (w := w) (h := h) (c := d) (c' := c) (s := s) hw hd hc hs h36
    by_cases z : d = nbr w h c s
    · rw [if_pos z, if_pos (sy.mp z.symm).symm]
    · rw [if_neg z, if_neg (fun y => z (sy.mpr y.symm).symm)]
  rw [e2, isum_at]
  rcases nbr_lt hw hd (opS s) with e | e
  · rw [if_neg (by omega), if_pos e]
  · rw [if_pos e, if_neg (by omega)]
theorem gsum_four (g : Nat → Nat) : ∀ n, gsum g (4 * n) = gsum (fun c => gsum (fun s => g (4 * c + s)) 4) n
  | 0 => rfl
  | n + 1 => by
    have ih := gsum_four g n
    show gsum g (4 * n + 4) = gsum (fun c => gsum (fun s => g (4 * c + s)) 4) n + gsum (fun s => g (4 * n + s)) 4
    show gsum g (4 * n) + g (4 * n) + g (4 * n + 1) + g (4 * n + 2) + g (4 * n + 3) = gsum (fun c => gsum (fun s => g (4 * c + s)) 4) n + (0 + g (4 * n) + g (4 * n + 1) + g (4 * n + 2) + g (4 * n + 3))
    omega
/-- what comes into a cell, by its sides -/
def inS (w h : Nat) (F : Nat → Nat → Nat) (d s : Nat) : Nat := if nbr w h d s = 100 then 0 else F (nbr w h d s) (opS s)
theorem gsum_at (G : Nat → Nat) (c0 : Nat) : ∀ n, gsum (fun c => if c = c0 then G c else 0) n = if c0 < n then G c0 else 0
  | 0 => by rw [if_neg (by omega)]; rfl
  | n + 1 => by
    have ih := gsum_at G c0 n
    show gsum (fun c => if c = c0 then G c else 0) n + (if n = c0 then G n else 0) = _
    rw [ih]
    by_cases e : n = c0
    · rw [if_pos e, if_neg (by omega), if_pos (by omega), e] <;> omega
    · rw [if_neg e]
      by_cases e2 : c0 < n
      · rw [if_pos e2, if_pos (by omega)] <;> omega
      · rw [if_neg e2, if_neg (by omega)] <;> omega
theorem in_sum {w h d : Nat} (F : Nat → Nat → Nat) (hw : 1 ≤ w) (h36 : w * h ≤ 36) (hd : d < w * h) : gsum (fun u => if d = nbr w h (u / 4) (u % 4) then F (u / 4) (u % 4) else 0) (4 * (w * h)) = gsum (inS w h F d) 4 := by
  have one : ∀ s, s < 4 → gsum (fun c => if d = nbr w h c s then F c s else 0) (w * h) = inS w h F d (opS s) := by
    intro s hs
    have e2 : gsum (fun c => if d = nbr w h c s then F c s else 0) (w * h) = gsum (fun c => if c = nbr w h d (opS s) then F c s else 0) (w * h) := by
      refine gsum_congr (fun c hc => ?_)
      have sy := nbr_sym (w := w) (h := h) (c := d) (c' := c) (s := s) hw hd hc hs h36
      by_cases z : d = nbr w h c s
      · rw [if_pos z, if_pos (sy.mp z.symm).symm]
      · rw [if_neg z, if_neg (fun y => z (sy.mpr y.symm).symm)]
    rw [e2, gsum_at (fun c => F c s)]
    unfold inS
    rw [(opS_op hs).1]
    rcases nbr_lt hw hd (opS s) with e | e
    · rw [if_neg (by omega), if_pos e]
    · rw [if_pos e, if_neg (by omega)]
  rw [gsum_four]
  have e3 : gsum (fun c => gsum (fun s => if d = nbr w h ((4 * c + s) / 4) ((4 * c + s) % 4) then F ((4 * c + s) / 4) ((4 * c + s) % 4) else 0) 4) (w * h) = gsum (fun c => ((if d = nbr w h c 0 then F c 0 else 0) + (if d = nbr w h c 1 then F c 1 else 0)) + ((if d = nbr w h c 2 then F c 2 else 0) + (if d = nbr w h c 3 then F c 3 else 0))) (w * h) := by
    refine gsum_congr (fun c hc => ?_)
    have e4 : gsum (fun s => if d = nbr w h ((4 * c + s) / 4) ((4 * c + s) % 4) then F ((4 * c + s) / 4) ((4 * c + s) % 4) else 0) 4 = gsum (fun s => if d = nbr w h c s then F c s else 0) 4 := gsum_congr (fun s hs => by rw [show (4 * c + s) / 4 = c by omega, show (4 * c + s) % 4 = s by omega])
    rw [e4]
    show 0 + (if d = nbr w h c 0 then F c 0 else 0) + (if d = nbr w h c 1 then F c 1 else 0) + (if d = nbr w h c 2 then F c 2 else 0) + (if d = nbr w h c 3 then F c 3 else 0) = ((if d = nbr w h c 0 then F c 0 else 0) + (if d = nbr w h c 1 then F c 1 else 0)) + ((if d = nbr w h c 2 then F c 2 else 0) + (if d = nbr w h c 3 then F c 3 else 0))
    omega
  rw [e3, gsum_add, gsum_add, gsum_add, one 0 (by omega), one 1 (by omega), one 2 (by omega), one 3 (by omega)]
  show inS w h F d 1 + inS w h F d 0 + (inS w h F d 3 + inS w h F d 2) = 0 + inS w h F d 0 + inS w h F d 1 + inS w h F d 2 + inS w h F d 3
  omega
