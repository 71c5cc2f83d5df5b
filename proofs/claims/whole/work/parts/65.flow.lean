/-! ===== flows of an hour, as numbers ===== -/
/-- the cell beside, or 100 -/
def nbr (w h c s : Nat) : Nat := if s = 0 then (if 0 < c % w then c - 1 else 100) else if s = 1 then (if c % w + 1 < w then c + 1 else 100) else if s = 2 then (if 0 < c / w then c - w else 100) else (if c / w + 1 < h then c + w else 100)
theorem nbr_lt {w h c : Nat} (hw : 1 ≤ w) (hc : c < w * h) (s : Nat) : nbr w h c s = 100 ∨ nbr w h c s < w * h := by
  unfold nbr
  have hm := Nat.mod_lt c (show 0 < w by omega)
  have hdm := Nat.div_add_mod c w
  by_cases s0 : s = 0
  · rw [if_pos s0]
    by_cases z : 0 < c % w
    · rw [if_pos z]; right; omega
    · rw [if_neg z]; left; rfl
  · rw [if_neg s0]
    by_cases s1 : s = 1
    · rw [if_pos s1]
      by_cases z : c % w + 1 < w
      · rw [if_pos z]; right
        have h1 : c / w < h := by
          rcases Nat.lt_or_ge (c / w) h with q | q
          · exact q
          · have := Nat.mul_le_mul_left w q; omega
        have h2 : w * (c / w) + w ≤ w * h := by
          have := Nat.mul_le_mul_left w (show c / w + 1 ≤ h by omega)
          rw [Nat.mul_add, Nat.mul_one] at this
          exact this
        omega
      · rw [if_neg z]; left; rfl
    · rw [if_neg s1]
      by_cases s2 : s = 2
      · rw [if_pos s2]
        by_cases z : 0 < c / w
        · rw [if_pos z]; right; omega
        · rw [if_neg z]; left; rfl
      · rw [if_neg s2]
        by_cases z : c / w + 1 < h
        · rw [if_pos z]; right
          have h2 : w * (c / w) + w + w ≤ w * h := by
            have := Nat.mul_le_mul_left w (show c / w + 1 + 1 ≤ h by omega)
            rw [Nat.mul_add, Nat.mul_add, Nat.mul_one] at this
            exact this
          omega
        · rw [if_neg z]; left; rfl
section FL
variable (w h : Nat) (sd ps os ws : Nat → Nat)
def wnt (c s : Nat) : Nat := if nbr w h c s = 100 then 0 else (ps c - ps (nbr w h c s)) * min (sd c) (sd (nbr w h c s)) / 40
def wsm (c : Nat) : Nat := gsum (wnt w h sd ps c) 4
def gos (c s : Nat) : Nat := if os c + ws c < wsm w h sd ps c then wnt w h sd ps c s * (os c + ws c) / wsm w h sd ps c else wnt w h sd ps c s
def flo (c s : Nat) : Nat := gos w h sd ps os ws c s * os c / (os c + ws c)
def flw (c s : Nat) : Nat := gos w h sd ps os ws c s * ws c / (os c + ws c)
/-- whether there is a flow; how many came before -/
def acb (t : Nat) : Bool := decide (0 < os (t / 4) + ws (t / 4)) && decide (0 < wnt w h sd ps (t / 4) (t % 4))
def cnt (b : Nat → Bool) : Nat → Nat
  | 0 => 0
  | t + 1 => if b t = true then cnt b t + 1 else cnt b t
def aR (b : Nat → Bool) (v f : Nat → Int32) : Nat → Nat → Int32
  | 0 => f
  | t + 1 => if b t = true then (fun q => if q = cnt b t then v t else aR b v f t q) else aR b v f t
theorem cnt_le (b : Nat → Bool) : ∀ t, cnt b t ≤ t
  | 0 => Nat.le_refl _
  | t + 1 => by
    have := cnt_le b t
    show (if b t = true then cnt b t + 1 else cnt b t) ≤ t + 1
    split <;> omega
theorem cnt_mono (b : Nat → Bool) {t : Nat} : ∀ k, cnt b t ≤ cnt b (t + k)
  | 0 => Nat.le_refl _
  | k + 1 => by
    have := cnt_mono b (t := t) k
    show cnt b t ≤ (if b (t + k) = true then cnt b (t + k) + 1 else cnt b (t + k))
    split <;> omega
theorem aR_at (b : Nat → Bool) (v f : Nat → Int32) {t : Nat} (h : b t = true) : ∀ k, aR b v f (t + 1 + k) (cnt b t) = v t
  | 0 => by
    show (if b t = true then (fun q => if q = cnt b t then v t else aR b v f t q) else aR b v f t) (cnt b t) = v t
    rw [if_pos h]
    exact if_pos rfl
  | k + 1 => by
    show (if b (t + 1 + k) = true then (fun q => if q = cnt b (t + 1 + k) then v (t + 1 + k) else aR b v f (t + 1 + k) q) else aR b v f (t + 1 + k)) (cnt b t) = v t
    by_cases e : b (t + 1 + k) = true
    · rw [if_pos e]
      have h1 := cnt_mono b (t := t + 1) k
      have h2 : cnt b (t + 1) = cnt b t + 1 := if_pos h
      show (if cnt b t = cnt b (t + 1 + k) then v (t + 1 + k) else aR b v f (t + 1 + k) (cnt b t)) = v t
      rw [if_neg (by omega)]
      exact aR_at b v f h k
    · rw [if_neg e]
      exact aR_at b v f h k
theorem gos_le (c s : Nat) : gos w h sd ps os ws c s ≤ wnt w h sd ps c s := by
  unfold gos
  by_cases e : os c + ws c < wsm w h sd ps c
  · rw [if_pos e]
    refine Nat.div_le_of_le_mul ?_
    rw [Nat.mul_comm]
    exact Nat.mul_le_mul_right _ (by omega)
  · rw [if_neg e]; exact Nat.le_refl _
theorem sum_div_le {f : Nat → Nat} {x B : Nat} : ∀ {n : Nat}, 0 < B → gsum f n ≤ B → gsum (fun i => f i * x / B) n ≤ x := by
  intro n hB hs
  have h1 : gsum (fun i => B * (f i * x / B)) n ≤ gsum (fun i => x * f i) n := gsum_le (fun i _ => by
    show B * (f i * x / B) ≤ x * f i
    rw [Nat.mul_comm x]
    exact Nat.mul_div_le _ _)
  rw [gsum_mul, gsum_mul] at h1
  have h2 : B * gsum (fun i => f i * x / B) n ≤ B * x := Nat.le_trans h1 (by rw [Nat.mul_comm B x]; exact Nat.mul_le_mul_left _ hs)
  exact Nat.le_of_mul_le_mul_left h2 hB
theorem gos_sum (c : Nat) : gsum (gos w h sd ps os ws c) 4 ≤ os c + ws c := by
  unfold gos
  by_cases e : os c + ws c < wsm w h sd ps c
  · have : gsum (fun s => wnt w h sd ps c s * (os c + ws c) / wsm w h sd ps c) 4 ≤ os c + ws c := sum_div_le (by omega) (Nat.le_refl _)
    refine Nat.le_trans (Nat.le_of_eq (gsum_congr fun s _ => ?_)) this
    rw [if_pos e]
  · refine Nat.le_trans (Nat.le_of_eq (gsum_congr (g := wnt w h sd ps c) fun s _ => ?_)) (show wsm w h sd ps c ≤ _ by omega)
    rw [if_neg e]
theorem flo_sum (c : Nat) : gsum (flo w h sd ps os ws c) 4 ≤ os c := by
  rcases Nat.eq_zero_or_pos (os c + ws c) with e | e
  · have : gsum (flo w h sd ps os ws c) 4 ≤ gsum (fun _ => 0) 4 := gsum_le (fun s _ => by unfold flo; rw [e, Nat.div_zero]; exact Nat.le_refl 0)
    exact Nat.le_trans this (Nat.zero_le _)
  · exact sum_div_le e (gos_sum w h sd ps os ws c)
theorem flw_sum (c : Nat) : gsum (flw w h sd ps os ws c) 4 ≤ ws c := by
  rcases Nat.eq_zero_or_pos (os c + ws c) with e | e
  · have : gsum (flw w h sd ps os ws c) 4 ≤ gsum (fun _ => 0) 4 := gsum_le (fun s _ => by unfold flw; rw [e, Nat.div_zero]; exact Nat.le_refl 0)
    exact Nat.le_trans this (Nat.zero_le _)
  · exact sum_div_le e (gos_sum w h sd ps os ws c)
theorem fl_le (c s : Nat) : flo w h sd ps os ws c s + flw w h sd ps os ws c s ≤ gos w h sd ps os ws c s := by
  rcases Nat.eq_zero_or_pos (os c + ws c) with e | e
  · unfold flo flw; rw [e, Nat.div_zero, Nat.div_zero]; omega
  · have h1 : (os c + ws c) * flo w h sd ps os ws c s ≤ gos w h sd ps os ws c s * os c := Nat.mul_div_le _ _
    have h2 : (os c + ws c) * flw w h sd ps os ws c s ≤ gos w h sd ps os ws c s * ws c := Nat.mul_div_le _ _
    have h3 : (os c + ws c) * (flo w h sd ps os ws c s + flw w h sd ps os ws c s) ≤ (os c + ws c) * gos w h sd ps os ws c s := by
      rw [Nat.mul_add, Nat.mul_comm (os c + ws c) (gos w h sd ps os ws c s), Nat.mul_add]
      omega
    exact Nat.le_of_mul_le_mul_left h3 e
/-- no flow where none is -/
theorem fl_none {t : Nat} (hb : acb w h sd ps os ws t = false) : flo w h sd ps os ws (t / 4) (t % 4) = 0 ∧ flw w h sd ps os ws (t / 4) (t % 4) = 0 := by
  unfold acb at hb
  rcases Nat.eq_zero_or_pos (os (t / 4) + ws (t / 4)) with e | e
  · unfold flo flw; rw [e, Nat.div_zero, Nat.div_zero]; exact ⟨rfl, rfl⟩
  · have hw : wnt w h sd ps (t / 4) (t % 4) = 0 := by
      rcases Nat.eq_zero_or_pos (wnt w h sd ps (t / 4) (t % 4)) with z | z
      · exact z
      · rw [decide_eq_true e, decide_eq_true z] at hb; cases hb
    have := gos_le w h sd ps os ws (t / 4) (t % 4)
    have := fl_le w h sd ps os ws (t / 4) (t % 4)
    omega
theorem wnt_bd {B : Nat} (hs : ∀ c, sd c ≤ 9) (c s : Nat) (hp : ps c ≤ B) : 40 * wnt w h sd ps c s ≤ 9 * B := by
  unfold wnt
  by_cases e : nbr w h c s = 100
  · rw [if_pos e]; omega
  · rw [if_neg e]
    have h1 : (ps c - ps (nbr w h c s)) * min (sd c) (sd (nbr w h c s)) ≤ B * 9 := Nat.mul_le_mul (by omega) (Nat.le_trans (Nat.min_le_left _ _) (hs c))
    have h2 := Nat.mul_div_le ((ps c - ps (nbr w h c s)) * min (sd c) (sd (nbr w h c s))) 40
    omega
end FL
