/-! ===== push keeps its bound over an hour ===== -/
theorem gDry_eq (gs wt ol : Nat → Nat) (c : Nat) : gDry gs wt ol c = enX (osum ol) wt gs c := by
  unfold gDry gPush enX
  omega
section BD
variable {w h : Nat} {sd gs wt ol : Nat → Nat}
theorem flO_sum {c : Nat} (hw : 1 ≤ w) (h36 : w * h ≤ 36) (hc : c < w * h) : osum (flO w h sd gs wt ol) c + gsum (flo w h sd (fun c => osum ol c + wt c + gs c) (osum ol) wt c) 4 = osum ol c + gsum (inS w h (flo w h sd (fun c => osum ol c + wt c + gs c) (osum ol) wt) c) 4 := by
  have e1 : osum (flO w h sd gs wt ol) c = osum (mvO ol (foF w h sd gs wt (osum ol)) (4 * (w * h))) c + osum (mvA ol (foF w h sd gs wt (osum ol)) (ddF w h) (4 * (w * h))) c := osum_add _ _ c
  have e2 := mvO_sum (foF_sum w h sd gs wt (osum ol)) (4 * (w * h)) c
  rw [lftN_end _ (by omega)] at e2
  have e3 := mvA_sum (dd := ddF w h) (foF_sum w h sd gs wt (osum ol)) (4 * (w * h)) c
  have e4 := in_sum (flo w h sd (fun c => osum ol c + wt c + gs c) (osum ol) wt) hw h36 hc
  have e5 : gsum (fun s => foF w h sd gs wt (osum ol) (4 * c + s)) 4 = gsum (flo w h sd (fun c => osum ol c + wt c + gs c) (osum ol) wt c) 4 := gsum_congr (fun s hs => by unfold foF; rw [show (4 * c + s) / 4 = c by omega, show (4 * c + s) % 4 = s by omega])
  have e6 : osum (mvA ol (foF w h sd gs wt (osum ol)) (ddF w h) (4 * (w * h))) c = gsum (inS w h (flo w h sd (fun c => osum ol c + wt c + gs c) (osum ol) wt) c) 4 := e3.trans e4
  omega
theorem flW_sum {c : Nat} (hw : 1 ≤ w) (h36 : w * h ≤ 36) (hc : c < w * h) : flW w h sd gs wt (osum ol) c + gsum (flw w h sd (fun c => osum ol c + wt c + gs c) (osum ol) wt c) 4 = wt c + gsum (inS w h (flw w h sd (fun c => osum ol c + wt c + gs c) (osum ol) wt) c) 4 := by
  have e1 : flW w h sd gs wt (osum ol) c = _ := mvW_eq (dd := ddF w h) (fwF_sum w h sd gs wt (osum ol)) (4 * (w * h)) c
  have e2 := rvW_sum (fwF_sum w h sd gs wt (osum ol)) (4 * (w * h)) c
  rw [lftN_end _ (by omega)] at e2
  have e3 := rvI_sum (fw := fwF w h sd gs wt (osum ol)) (dd := ddF w h) (4 * (w * h)) c
  have e4 := in_sum (flw w h sd (fun c => osum ol c + wt c + gs c) (osum ol) wt) hw h36 hc
  have e5 : gsum (fun s => fwF w h sd gs wt (osum ol) (4 * c + s)) 4 = gsum (flw w h sd (fun c => osum ol c + wt c + gs c) (osum ol) wt c) 4 := gsum_congr (fun s hs => by unfold fwF; rw [show (4 * c + s) / 4 = c by omega, show (4 * c + s) % 4 = s by omega])
  have e6 : rvI (fwF w h sd gs wt (osum ol)) (ddF w h) (4 * (w * h)) c = gsum (inS w h (flw w h sd (fun c => osum ol c + wt c + gs c) (osum ol) wt) c) 4 := e3.trans e4
  omega
theorem fl_far {c : Nat} (hw : 1 ≤ w) (hc : w * h ≤ c) : osum (flO w h sd gs wt ol) c = osum ol c ∧ flW w h sd gs wt (osum ol) c = wt c := by
  have far := fF_far w h sd gs wt (osum ol) hw
  have z : ∀ f : Nat → Nat, lftN f c (4 * (w * h)) = 0 := fun f => gsum_congr (n := 4) (g := fun _ => 0) (fun s _ => if_neg (by omega))
  constructor
  · have e1 : osum (flO w h sd gs wt ol) c = osum (mvO ol (foF w h sd gs wt (osum ol)) (4 * (w * h))) c + osum (mvA ol (foF w h sd gs wt (osum ol)) (ddF w h) (4 * (w * h))) c := osum_add _ _ c
    have e2 := mvO_sum (foF_sum w h sd gs wt (osum ol)) (4 * (w * h)) c
    rw [z] at e2
    have e3 : osum (mvA ol (foF w h sd gs wt (osum ol)) (ddF w h) (4 * (w * h))) c = 0 := by
      rw [osum_eq]
      exact gsum_congr (n := 9) (g := fun _ => 0) (fun l _ => mvA_far (n := w * h) (T := 4 * (w * h)) (fun t ht => (far t ht).1) (by omega) _ (Nat.le_refl _))
    omega
  · have e1 : flW w h sd gs wt (osum ol) c = _ := mvW_eq (dd := ddF w h) (fwF_sum w h sd gs wt (osum ol)) (4 * (w * h)) c
    have e2 := rvW_sum (fwF_sum w h sd gs wt (osum ol)) (4 * (w * h)) c
    rw [z] at e2
    have e3 := rvI_far (n := w * h) (T := 4 * (w * h)) (fun t ht => (far t ht).2) hc _ (Nat.le_refl _)
    omega
theorem en_of (hw : 1 ≤ w) (h36 : w * h ≤ 36) (hs : ∀ c, sd c ≤ 9) (hg : ∀ c, gs c ≤ 999) : enH w h (osum ol) wt gs (osum (flO w h sd gs wt ol)) (flW w h sd gs wt (osum ol)) (flo w h sd (fun c => osum ol c + wt c + gs c) (osum ol) wt) (flw w h sd (fun c => osum ol c + wt c + gs c) (osum ol) wt) (gos w h sd (fun c => osum ol c + wt c + gs c) (osum ol) wt) := by
  refine ⟨⟨hw, h36⟩, hg, fun c hc => ⟨flO_sum hw h36 hc, flW_sum hw h36 hc⟩, fun c s => ⟨fl_le w h sd _ (osum ol) wt c s, ?_⟩, fun c s => ⟨fun e => ?_, fun e => ?_⟩, fun c => gos_sum w h sd _ (osum ol) wt c, fun c s => ?_⟩
  · rcases Nat.eq_zero_or_pos (osum ol c + wt c) with z | z
    · have : gos w h sd (fun c => osum ol c + wt c + gs c) (osum ol) wt c s = 0 := by
        have hl := gos_le w h sd (fun c => osum ol c + wt c + gs c) (osum ol) wt c s
        unfold gos at hl ⊢
        by_cases y : osum ol c + wt c < wsm w h sd (fun c => osum ol c + wt c + gs c) c
        · rw [if_pos y, z, Nat.mul_zero, Nat.zero_div]
        · rw [if_neg y]
          -- no liquid, no want: the sum of the wants is nothing
          by_cases hs4 : s < 4
          · have := gsum_one (wnt w h sd (fun c => osum ol c + wt c + gs c) c) hs4
            have e : wsm w h sd (fun c => osum ol c + wt c + gs c) c = gsum (wnt w h sd (fun c => osum ol c + wt c + gs c) c) 4 := rfl
            omega
          · have e3 : nbr w h c s = nbr w h c 3 := by
              unfold nbr
              simp only [show ¬ s = 0 by omega, show ¬ s = 1 by omega, show ¬ s = 2 by omega, show ¬ (3 = 0) by decide, show ¬ (3 = 1) by decide, show ¬ (3 = 2) by decide, if_false]
            have e4 : wnt w h sd (fun c => osum ol c + wt c + gs c) c s = wnt w h sd (fun c => osum ol c + wt c + gs c) c 3 := by unfold wnt; rw [e3]
            have := gsum_one (wnt w h sd (fun c => osum ol c + wt c + gs c) c) (show 3 < 4 by omega)
            have e : wsm w h sd (fun c => osum ol c + wt c + gs c) c = gsum (wnt w h sd (fun c => osum ol c + wt c + gs c) c) 4 := rfl
            omega
      omega
    · have h1 : gos w h sd (fun c => osum ol c + wt c + gs c) (osum ol) wt c s * osum ol c < (osum ol c + wt c) * (flo w h sd (fun c => osum ol c + wt c + gs c) (osum ol) wt c s + 1) := by
        unfold flo
        exact Nat.lt_mul_div_succ _ z
      have h2 : gos w h sd (fun c => osum ol c + wt c + gs c) (osum ol) wt c s * wt c < (osum ol c + wt c) * (flw w h sd (fun c => osum ol c + wt c + gs c) (osum ol) wt c s + 1) := by
        unfold flw
        exact Nat.lt_mul_div_succ _ z
      generalize gos w h sd (fun c => osum ol c + wt c + gs c) (osum ol) wt c s = g at *
      generalize flo w h sd (fun c => osum ol c + wt c + gs c) (osum ol) wt c s = o at *
      generalize flw w h sd (fun c => osum ol c + wt c + gs c) (osum ol) wt c s = u at *
      have h3 : (osum ol c + wt c) * g < (osum ol c + wt c) * (o + 1 + (u + 1)) := by
        rw [Nat.mul_add (osum ol c + wt c) (o + 1) (u + 1), Nat.mul_comm (osum ol c + wt c) g, Nat.mul_add]
        omega
      have := Nat.lt_of_mul_lt_mul_left h3
      omega
  · have hl := gos_le w h sd (fun c => osum ol c + wt c + gs c) (osum ol) wt c s
    have : wnt w h sd (fun c => osum ol c + wt c + gs c) c s = 0 := if_pos e
    omega
  · have hl := gos_le w h sd (fun c => osum ol c + wt c + gs c) (osum ol) wt c s
    have e1 : wnt w h sd (fun c => osum ol c + wt c + gs c) c s = (osum ol c + wt c + gs c - (osum ol (nbr w h c s) + wt (nbr w h c s) + gs (nbr w h c s))) * min (sd c) (sd (nbr w h c s)) / 40 := if_neg e
    have h1 : (osum ol c + wt c + gs c - (osum ol (nbr w h c s) + wt (nbr w h c s) + gs (nbr w h c s))) * min (sd c) (sd (nbr w h c s)) ≤ (osum ol c + wt c + gs c - (osum ol (nbr w h c s) + wt (nbr w h c s) + gs (nbr w h c s))) * 9 := Nat.mul_le_mul_left _ (Nat.le_trans (Nat.min_le_left _ _) (hs c))
    have h2 := Nat.mul_div_le ((osum ol c + wt c + gs c - (osum ol (nbr w h c s) + wt (nbr w h c s) + gs (nbr w h c s))) * min (sd c) (sd (nbr w h c s))) 40
    unfold enP
    omega
  · exact Nat.mul_div_le _ _
end BD
theorem gsum_tail {f g : Nat → Nat} {n K : Nat} (h : gsum f n ≤ gsum g n + K) : ∀ k, (∀ i, n ≤ i → i < n + k → f i = g i) → gsum f (n + k) ≤ gsum g (n + k) + K
  | 0, _ => h
  | k + 1, e => by
    have ih := gsum_tail h k (fun i h1 h2 => e i h1 (by omega))
    have := e (n + k) (by omega) (by omega)
    show gsum f (n + k) + f (n + k) ≤ gsum g (n + k) + g (n + k) + K
    omega
theorem gsum_three (f : Nat → Nat) {i j k n : Nat} (hi : i < n) (hj : j < n) (hk : k < n) (h1 : i ≠ j) (h2 : j ≠ k) (h3 : i ≠ k) : f i + f j + f k ≤ gsum f n := by
  have e : gsum (fun c => ((if c = i then f c else 0) + (if c = j then f c else 0)) + (if c = k then f c else 0)) n = f i + f j + f k := by
    rw [gsum_add, gsum_add, gsum_at, gsum_at, gsum_at, if_pos hi, if_pos hj, if_pos hk]
  rw [← e]
  refine gsum_le (fun c _ => ?_)
  show ((if c = i then f c else 0) + (if c = j then f c else 0)) + (if c = k then f c else 0) ≤ f c
  by_cases z1 : c = i
  · rw [if_pos z1, if_neg (by omega), if_neg (by omega)]; omega
  · rw [if_neg z1]
    by_cases z2 : c = j
    · rw [if_pos z2, if_neg (by omega)]; omega
    · rw [if_neg z2]
      split <;> omega
theorem sq3 {x y z S : Nat} (h : S ≤ x + y + z) : S * S ≤ 3 * (x * x + y * y + z * z) := by
  have h0 : S * S ≤ (x + y + z) * (x + y + z) := Nat.mul_le_mul h h
  refine Nat.le_trans h0 ?_
  have h1 := am2 (x : Int) (y : Int)
  have h2 := am2 (x : Int) (z : Int)
  have h3 := am2 (y : Int) (z : Int)
  have e : (x + y + z) * (x + y + z) = x * x + y * y + z * z + 2 * (x * y) + 2 * (x * z) + 2 * (y * z) := by
    rw [Nat.add_mul, Nat.add_mul, Nat.mul_add, Nat.mul_add, Nat.mul_add, Nat.mul_add, Nat.mul_add, Nat.mul_add, Nat.mul_comm y x, Nat.mul_comm z x, Nat.mul_comm z y]
    omega
  rw [← Int.natCast_mul, ← Int.natCast_mul, ← Int.natCast_mul] at h1 h2 h3
  rw [e]
  omega
theorem num_bd : ∀ hr, hr < 199 → 3 * (120000000 * hr + 4000000 * 511) < (3 * (51000 + 225 * hr) - 2991) * (3 * (51000 + 225 * hr) - 2991) := by decide +kernel
theorem bigL {T x x0 x1 x2 x3 i0 i1 i2 i3 y : Nat} (hT : 51000 ≤ T) (hx : x ≤ T) (b0 : x0 ≤ T) (b1 : x1 ≤ T) (b2 : x2 ≤ T) (b3 : x3 ≤ T) (c0 : 40 * i0 ≤ 9 * (x0 + 999 - x)) (c1 : 40 * i1 ≤ 9 * (x1 + 999 - x)) (c2 : 40 * i2 ≤ 9 * (x2 + 999 - x)) (c3 : 40 * i3 ≤ 9 * (x3 + 999 - x)) (g : y ≤ x + (0 + i0 + i1 + i2 + i3)) (bad : T + 225 < y) : 3 * T - 2991 ≤ x + x0 + x1 ∧ 0 < x0 ∧ 0 < x1 ∨ 3 * T - 2991 ≤ x + x0 + x2 ∧ 0 < x0 ∧ 0 < x2 ∨ 3 * T - 2991 ≤ x + x0 + x3 ∧ 0 < x0 ∧ 0 < x3 ∨ 3 * T - 2991 ≤ x + x1 + x2 ∧ 0 < x1 ∧ 0 < x2 ∨ 3 * T - 2991 ≤ x + x1 + x3 ∧ 0 < x1 ∧ 0 < x3 ∨ 3 * T - 2991 ≤ x + x2 + x3 ∧ 0 < x2 ∧ 0 < x3 ∨ 3 * T - 2991 ≤ x0 + x1 + x2 ∧ 0 < x0 ∧ 0 < x1 ∧ 0 < x2 ∨ 3 * T - 2991 ≤ x0 + x1 + x3 ∧ 0 < x0 ∧ 0 < x1 ∧ 0 < x3 ∨ 3 * T - 2991 ≤ x0 + x2 + x3 ∧ 0 < x0 ∧ 0 < x2 ∧ 0 < x3 ∨ 3 * T - 2991 ≤ x1 + x2 + x3 ∧ 0 < x1 ∧ 0 < x2 ∧ 0 < x3 := by
  have k0 : ∀ a : Nat, (a + 999 < x → a + 999 - x = 0) := fun a h => by omega
  rcases Nat.lt_or_ge (x0 + 999) x with z0 | z0 <;> rcases Nat.lt_or_ge (x1 + 999) x with z1 | z1 <;> rcases Nat.lt_or_ge (x2 + 999) x with z2 | z2 <;> rcases Nat.lt_or_ge (x3 + 999) x with z3 | z3
  · rw [k0 x0 z0] at c0
    rw [k0 x1 z1] at c1
    rw [k0 x2 z2] at c2
    rw [k0 x3 z3] at c3
    exfalso
    omega
  · rw [k0 x0 z0] at c0
    rw [k0 x1 z1] at c1
    rw [k0 x2 z2] at c2
    obtain ⟨u3, hu3⟩ : ∃ u, x3 + 999 = x + u := ⟨x3 + 999 - x, by omega⟩; rw [show x3 + 999 - x = u3 by omega] at c3
    exfalso
    omega
  · rw [k0 x0 z0] at c0
    rw [k0 x1 z1] at c1
    obtain ⟨u2, hu2⟩ : ∃ u, x2 + 999 = x + u := ⟨x2 + 999 - x, by omega⟩; rw [show x2 + 999 - x = u2 by omega] at c2
    rw [k0 x3 z3] at c3
    exfalso
    omega
  · rw [k0 x0 z0] at c0
    rw [k0 x1 z1] at c1
    obtain ⟨u2, hu2⟩ : ∃ u, x2 + 999 = x + u := ⟨x2 + 999 - x, by omega⟩; rw [show x2 + 999 - x = u2 by omega] at c2
    obtain ⟨u3, hu3⟩ : ∃ u, x3 + 999 = x + u := ⟨x3 + 999 - x, by omega⟩; rw [show x3 + 999 - x = u3 by omega] at c3
    refine Or.inr (Or.inr (Or.inr (Or.inr (Or.inr (Or.inl ?_)))))
    refine ⟨by omega, by omega, by omega⟩
  · rw [k0 x0 z0] at c0
    obtain ⟨u1, hu1⟩ : ∃ u, x1 + 999 = x + u := ⟨x1 + 999 - x, by omega⟩; rw [show x1 + 999 - x = u1 by omega] at c1
    rw [k0 x2 z2] at c2
    rw [k0 x3 z3] at c3
    exfalso
    omega
  · rw [k0 x0 z0] at c0
    obtain ⟨u1, hu1⟩ : ∃ u, x1 + 999 = x + u := ⟨x1 + 999 - x, by omega⟩; rw [show x1 + 999 - x = u1 by omega] at c1
    rw [k0 x2 z2] at c2
    obtain ⟨u3, hu3⟩ : ∃ u, x3 + 999 = x + u := ⟨x3 + 999 - x, by omega⟩; rw [show x3 + 999 - x = u3 by omega] at c3
    refine Or.inr (Or.inr (Or.inr (Or.inr (Or.inl ?_))))
    refine ⟨by omega, by omega, by omega⟩
  · rw [k0 x0 z0] at c0
    obtain ⟨u1, hu1⟩ : ∃ u, x1 + 999 = x + u := ⟨x1 + 999 - x, by omega⟩; rw [show x1 + 999 - x = u1 by omega] at c1
    obtain ⟨u2, hu2⟩ : ∃ u, x2 + 999 = x + u := ⟨x2 + 999 - x, by omega⟩; rw [show x2 + 999 - x = u2 by omega] at c2
    rw [k0 x3 z3] at c3
    refine Or.inr (Or.inr (Or.inr (Or.inl ?_)))
    refine ⟨by omega, by omega, by omega⟩
  · rw [k0 x0 z0] at c0
    obtain ⟨u1, hu1⟩ : ∃ u, x1 + 999 = x + u := ⟨x1 + 999 - x, by omega⟩; rw [show x1 + 999 - x = u1 by omega] at c1
    obtain ⟨u2, hu2⟩ : ∃ u, x2 + 999 = x + u := ⟨x2 + 999 - x, by omega⟩; rw [show x2 + 999 - x = u2 by omega] at c2
    obtain ⟨u3, hu3⟩ : ∃ u, x3 + 999 = x + u := ⟨x3 + 999 - x, by omega⟩; rw [show x3 + 999 - x = u3 by omega] at c3
    refine Or.inr (Or.inr (Or.inr (Or.inr (Or.inr (Or.inr (Or.inr (Or.inr (Or.inr (?_)))))))))
    refine ⟨by omega, by omega, by omega, by omega⟩
  · obtain ⟨u0, hu0⟩ : ∃ u, x0 + 999 = x + u := ⟨x0 + 999 - x, by omega⟩; rw [show x0 + 999 - x = u0 by omega] at c0
    rw [k0 x1 z1] at c1
    rw [k0 x2 z2] at c2
    rw [k0 x3 z3] at c3
    exfalso
    omega
  · obtain ⟨u0, hu0⟩ : ∃ u, x0 + 999 = x + u := ⟨x0 + 999 - x, by omega⟩; rw [show x0 + 999 - x = u0 by omega] at c0
    rw [k0 x1 z1] at c1
    rw [k0 x2 z2] at c2
    obtain ⟨u3, hu3⟩ : ∃ u, x3 + 999 = x + u := ⟨x3 + 999 - x, by omega⟩; rw [show x3 + 999 - x = u3 by omega] at c3
    refine Or.inr (Or.inr (Or.inl ?_))
    refine ⟨by omega, by omega, by omega⟩
  · obtain ⟨u0, hu0⟩ : ∃ u, x0 + 999 = x + u := ⟨x0 + 999 - x, by omega⟩; rw [show x0 + 999 - x = u0 by omega] at c0
    rw [k0 x1 z1] at c1
    obtain ⟨u2, hu2⟩ : ∃ u, x2 + 999 = x + u := ⟨x2 + 999 - x, by omega⟩; rw [show x2 + 999 - x = u2 by omega] at c2
    rw [k0 x3 z3] at c3
    refine Or.inr (Or.inl ?_)
    refine ⟨by omega, by omega, by omega⟩
  · obtain ⟨u0, hu0⟩ : ∃ u, x0 + 999 = x + u := ⟨x0 + 999 - x, by omega⟩; rw [show x0 + 999 - x = u0 by omega] at c0
    rw [k0 x1 z1] at c1
    obtain ⟨u2, hu2⟩ : ∃ u, x2 + 999 = x + u := ⟨x2 + 999 - x, by omega⟩; rw [show x2 + 999 - x = u2 by omega] at c2
    obtain ⟨u3, hu3⟩ : ∃ u, x3 + 999 = x + u := ⟨x3 + 999 - x, by omega⟩; rw [show x3 + 999 - x = u3 by omega] at c3
    refine Or.inr (Or.inr (Or.inr (Or.inr (Or.inr (Or.inr (Or.inr (Or.inr (Or.inl ?_))))))))
    refine ⟨by omega, by omega, by omega, by omega⟩
  · obtain ⟨u0, hu0⟩ : ∃ u, x0 + 999 = x + u := ⟨x0 + 999 - x, by omega⟩; rw [show x0 + 999 - x = u0 by omega] at c0
    obtain ⟨u1, hu1⟩ : ∃ u, x1 + 999 = x + u := ⟨x1 + 999 - x, by omega⟩; rw [show x1 + 999 - x = u1 by omega] at c1
    rw [k0 x2 z2] at c2
    rw [k0 x3 z3] at c3
    refine Or.inl ?_
    refine ⟨by omega, by omega, by omega⟩
  · obtain ⟨u0, hu0⟩ : ∃ u, x0 + 999 = x + u := ⟨x0 + 999 - x, by omega⟩; rw [show x0 + 999 - x = u0 by omega] at c0
    obtain ⟨u1, hu1⟩ : ∃ u, x1 + 999 = x + u := ⟨x1 + 999 - x, by omega⟩; rw [show x1 + 999 - x = u1 by omega] at c1
    rw [k0 x2 z2] at c2
    obtain ⟨u3, hu3⟩ : ∃ u, x3 + 999 = x + u := ⟨x3 + 999 - x, by omega⟩; rw [show x3 + 999 - x = u3 by omega] at c3
    refine Or.inr (Or.inr (Or.inr (Or.inr (Or.inr (Or.inr (Or.inr (Or.inl ?_)))))))
    refine ⟨by omega, by omega, by omega, by omega⟩
  · obtain ⟨u0, hu0⟩ : ∃ u, x0 + 999 = x + u := ⟨x0 + 999 - x, by omega⟩; rw [show x0 + 999 - x = u0 by omega] at c0
    obtain ⟨u1, hu1⟩ : ∃ u, x1 + 999 = x + u := ⟨x1 + 999 - x, by omega⟩; rw [show x1 + 999 - x = u1 by omega] at c1
    obtain ⟨u2, hu2⟩ : ∃ u, x2 + 999 = x + u := ⟨x2 + 999 - x, by omega⟩; rw [show x2 + 999 - x = u2 by omega] at c2
    rw [k0 x3 z3] at c3
    refine Or.inr (Or.inr (Or.inr (Or.inr (Or.inr (Or.inr (Or.inl ?_))))))
    refine ⟨by omega, by omega, by omega, by omega⟩
  · obtain ⟨u0, hu0⟩ : ∃ u, x0 + 999 = x + u := ⟨x0 + 999 - x, by omega⟩; rw [show x0 + 999 - x = u0 by omega] at c0
    obtain ⟨u1, hu1⟩ : ∃ u, x1 + 999 = x + u := ⟨x1 + 999 - x, by omega⟩; rw [show x1 + 999 - x = u1 by omega] at c1
    obtain ⟨u2, hu2⟩ : ∃ u, x2 + 999 = x + u := ⟨x2 + 999 - x, by omega⟩; rw [show x2 + 999 - x = u2 by omega] at c2
    obtain ⟨u3, hu3⟩ : ∃ u, x3 + 999 = x + u := ⟨x3 + 999 - x, by omega⟩; rw [show x3 + 999 - x = u3 by omega] at c3
    refine Or.inr (Or.inr (Or.inr (Or.inr (Or.inr (Or.inr (Or.inl ?_))))))
    refine ⟨by omega, by omega, by omega, by omega⟩
theorem addE0 {A B x y K J : Nat} (h1 : A ≤ B + K) (h2 : B ≤ x + y) : A ≤ x + K + (y + J) := by omega
theorem addE {A B hr n : Nat} (h1 : A ≤ B + 120000000) (h2 : B ≤ 120000000 * hr + 4000000 * n) : A ≤ 120000000 * (hr + 1) + 4000000 * (n + 1) := by
  rw [Nat.mul_add, Nat.mul_add, Nat.mul_one, Nat.mul_one]
  exact addE0 h1 h2
section PB
variable {w h n hr : Nat} {sd gs wt ol : Nat → Nat}
theorem gPB.hour (hn : n < 512) (hhr : hr ≤ 198) (hw : 1 ≤ w) (h36 : w * h ≤ 36) (hs : ∀ c, sd c ≤ 9) (hg : ∀ c, gs c ≤ 999) (H : gPB n hr gs wt ol) : gPB (n + 1) (hr + 1) gs (flW w h sd gs wt (osum ol)) (flO w h sd gs wt ol) := by
  have E := en_of (w := w) (h := h) (sd := sd) (gs := gs) (wt := wt) (ol := ol) hw h36 hs hg
  obtain ⟨H1, H2⟩ := H
  have X1 : ∀ c, c < 36 → enX (osum ol) wt gs c ≤ 51000 + 225 * hr := fun c hc => by rw [← gDry_eq]; exact H1 c hc
  have X2 : gsum (fun c => enX (osum ol) wt gs c * enX (osum ol) wt gs c) 36 ≤ 120000000 * hr + 4000000 * n := by
    refine Nat.le_trans (Nat.le_of_eq (gsum_congr fun c _ => ?_)) H2
    rw [gDry_eq]
  have far : ∀ c, w * h ≤ c → enX (osum (flO w h sd gs wt ol)) (flW w h sd gs wt (osum ol)) gs c = enX (osum ol) wt gs c := by
    intro c hc
    have := fl_far (w := w) (h := h) (sd := sd) (gs := gs) (wt := wt) (ol := ol) hw hc
    unfold enX
    rw [this.1, this.2]
  constructor
  · intro c hc
    rw [gDry_eq]
    rcases Nat.lt_or_ge c (w * h) with hcn | hcn
    · -- what can come in
      have inq : ∀ s, s < 4 → ∃ x, (x = 0 ∨ (nbr w h c s ≠ 100 ∧ x = enX (osum ol) wt gs (nbr w h c s))) ∧ x ≤ 51000 + 225 * hr ∧ 40 * inS w h (gos w h sd (fun c => osum ol c + wt c + gs c) (osum ol) wt) c s ≤ 9 * (x + 999 - enX (osum ol) wt gs c) := by
        intro s hs4
        unfold inS
        rcases nbr_lt hw hcn s with e | e
        · exact ⟨0, Or.inl rfl, by omega, by rw [if_pos e]; omega⟩
        · have sy := (nbr_sym (w := w) (h := h) (c := nbr w h c s) (c' := c) (s := s) hw e hcn hs4 h36).mp rfl
          have m := (E.2.2.2.2.1 (nbr w h c s) (opS s)).2 (by rw [sy]; omega)
          rw [sy] at m
          refine ⟨enX (osum ol) wt gs (nbr w h c s), Or.inr ⟨by omega, rfl⟩, X1 _ (by omega), ?_⟩
          rw [if_neg (by omega)]
          have p1 : enP (osum ol) wt gs (nbr w h c s) ≤ enX (osum ol) wt gs (nbr w h c s) + 999 := by unfold enP enX; omega
          have p2 : enX (osum ol) wt gs c ≤ enP (osum ol) wt gs c := by unfold enP enX; omega
          omega
      obtain ⟨x0, a0, b0, c0⟩ := inq 0 (by omega)
      obtain ⟨x1, a1, b1, c1⟩ := inq 1 (by omega)
      obtain ⟨x2, a2, b2, c2⟩ := inq 2 (by omega)
      obtain ⟨x3, a3, b3, c3⟩ := inq 3 (by omega)
      have xc := X1 c hc
      -- X' ≤ X + what comes in
      have grow : enX (osum (flO w h sd gs wt ol)) (flW w h sd gs wt (osum ol)) gs c ≤ enX (osum ol) wt gs c + gsum (inS w h (gos w h sd (fun c => osum ol c + wt c + gs c) (osum ol) wt) c) 4 := by
        obtain ⟨s1, s2⟩ := E.2.2.1 c hcn
        have il : gsum (inS w h (flo w h sd (fun c => osum ol c + wt c + gs c) (osum ol) wt) c) 4 + gsum (inS w h (flw w h sd (fun c => osum ol c + wt c + gs c) (osum ol) wt) c) 4 ≤ gsum (inS w h (gos w h sd (fun c => osum ol c + wt c + gs c) (osum ol) wt) c) 4 := by
          rw [← gsum_add]
          refine gsum_le (fun s _ => ?_)
          have := (E.2.2.2.1 (nbr w h c s) (opS s)).1
          show inS w h _ c s + inS w h _ c s ≤ inS w h _ c s
          unfold inS
          split
          · omega
          · exact this
        unfold enX
        omega
      have g4 : gsum (inS w h (gos w h sd (fun c => osum ol c + wt c + gs c) (osum ol) wt) c) 4 = 0 + inS w h (gos w h sd (fun c => osum ol c + wt c + gs c) (osum ol) wt) c 0 + inS w h (gos w h sd (fun c => osum ol c + wt c + gs c) (osum ol) wt) c 1 + inS w h (gos w h sd (fun c => osum ol c + wt c + gs c) (osum ol) wt) c 2 + inS w h (gos w h sd (fun c => osum ol c + wt c + gs c) (osum ol) wt) c 3 := rfl
      rw [g4] at grow
      rcases Nat.lt_or_ge (51000 + 225 * (hr + 1)) (enX (osum (flO w h sd gs wt ol)) (flW w h sd gs wt (osum ol)) gs c) with bad | good
      · exfalso
        generalize hx : enX (osum ol) wt gs c = x at *
        generalize inS w h (gos w h sd (fun c => osum ol c + wt c + gs c) (osum ol) wt) c 0 = i0 at *
        generalize inS w h (gos w h sd (fun c => osum ol c + wt c + gs c) (osum ol) wt) c 1 = i1 at *
        generalize inS w h (gos w h sd (fun c => osum ol c + wt c + gs c) (osum ol) wt) c 2 = i2 at *
        generalize inS w h (gos w h sd (fun c => osum ol c + wt c + gs c) (osum ol) wt) c 3 = i3 at *
        generalize enX (osum (flO w h sd gs wt ol)) (flW w h sd gs wt (osum ol)) gs c = y at *
        have num := num_bd hr (by omega)
        -- three cells near the top
        have three : ∀ {i j k : Nat}, i < 36 → j < 36 → k < 36 → i ≠ j → j ≠ k → i ≠ k → 3 * (51000 + 225 * hr) - 2991 ≤ enX (osum ol) wt gs i + enX (osum ol) wt gs j + enX (osum ol) wt gs k → False := by
          intro i j k hi hj hk n1 n2 n3 hsum
          have t1 := gsum_three (fun c => enX (osum ol) wt gs c * enX (osum ol) wt gs c) hi hj hk n1 n2 n3
          have t2 := sq3 hsum
          have t1 : enX (osum ol) wt gs i * enX (osum ol) wt gs i + enX (osum ol) wt gs j * enX (osum ol) wt gs j + enX (osum ol) wt gs k * enX (osum ol) wt gs k ≤ _ := t1
          omega
        -- where the neighbours are
        have lt0 : ∀ s, nbr w h c s ≠ 100 → nbr w h c s < 36 := fun s hs => by
          rcases nbr_lt hw hcn s with e | e
          · exact absurd e hs
          · omega
        have v0 : nbr w h c 0 ≠ 100 → nbr w h c 0 = c - 1 ∧ 0 < c % w := by
          unfold nbr
          rw [if_pos rfl]
          intro z
          by_cases q : 0 < c % w
          · rw [if_pos q]; exact ⟨rfl, q⟩
          · rw [if_neg q] at z; exact absurd rfl z
        have v1 : nbr w h c 1 ≠ 100 → nbr w h c 1 = c + 1 ∧ c % w + 1 < w := by
          unfold nbr
          rw [if_neg (by decide), if_pos rfl]
          intro z
          by_cases q : c % w + 1 < w
          · rw [if_pos q]; exact ⟨rfl, q⟩
          · rw [if_neg q] at z; exact absurd rfl z
        have v2 : nbr w h c 2 ≠ 100 → nbr w h c 2 = c - w ∧ 0 < c / w := by
          unfold nbr
          rw [if_neg (by decide), if_neg (by decide), if_pos rfl]
          intro z
          by_cases q : 0 < c / w
          · rw [if_pos q]; exact ⟨rfl, q⟩
          · rw [if_neg q] at z; exact absurd rfl z
        have v3 : nbr w h c 3 ≠ 100 → nbr w h c 3 = c + w := by
          unfold nbr
          rw [if_neg (by decide), if_neg (by decide), if_neg (by decide)]
          intro z
          by_cases q : c / w + 1 < h
          · rw [if_pos q]
          · rw [if_neg q] at z; exact absurd rfl z
        have cw : 0 < c / w → w ≤ c := fun ha => by
          rcases Nat.lt_or_ge c w with q | q
          · rw [Nat.div_eq_of_lt q] at ha; omega
          · exact q
        have cm : c % w ≤ c := Nat.mod_le c w
        have cl : c % w < w := Nat.mod_lt c (by omega)
        -- the neighbours that count exist
        have ex : ∀ (s xs : Nat), (xs = 0 ∨ (nbr w h c s ≠ 100 ∧ xs = enX (osum ol) wt gs (nbr w h c s))) → 0 < xs → nbr w h c s ≠ 100 ∧ xs = enX (osum ol) wt gs (nbr w h c s) := fun s xs hh hp => hh.elim (fun z => by omega) id
        have big := bigL (T := 51000 + 225 * hr) (by omega) xc b0 b1 b2 b3 c0 c1 c2 c3 grow (by omega)
        rcases big with ⟨q, p, r⟩ | ⟨q, p, r⟩ | ⟨q, p, r⟩ | ⟨q, p, r⟩ | ⟨q, p, r⟩ | ⟨q, p, r⟩ | ⟨q, p, r, t⟩ | ⟨q, p, r, t⟩ | ⟨q, p, r, t⟩ | ⟨q, p, r, t⟩
        · obtain ⟨e1, f1⟩ := ex 0 x0 a0 p
          obtain ⟨e2, f2⟩ := ex 1 x1 a1 r
          have := v0 e1; have := v1 e2
          exact three hc (lt0 0 e1) (lt0 1 e2) (by omega) (by omega) (by omega) (by rw [hx, ← f1, ← f2]; exact q)
        · obtain ⟨e1, f1⟩ := ex 0 x0 a0 p
          obtain ⟨e2, f2⟩ := ex 2 x2 a2 r
          have := v0 e1; have g2 := v2 e2; have := cw g2.2
          exact three hc (lt0 0 e1) (lt0 2 e2) (by omega) (by omega) (by omega) (by rw [hx, ← f1, ← f2]; exact q)
        · obtain ⟨e1, f1⟩ := ex 0 x0 a0 p
          obtain ⟨e2, f2⟩ := ex 3 x3 a3 r
          have := v0 e1; have := v3 e2
          exact three hc (lt0 0 e1) (lt0 3 e2) (by omega) (by omega) (by omega) (by rw [hx, ← f1, ← f2]; exact q)
        · obtain ⟨e1, f1⟩ := ex 1 x1 a1 p
          obtain ⟨e2, f2⟩ := ex 2 x2 a2 r
          have := v1 e1; have g2 := v2 e2; have := cw g2.2
          exact three hc (lt0 1 e1) (lt0 2 e2) (by omega) (by omega) (by omega) (by rw [hx, ← f1, ← f2]; exact q)
        · obtain ⟨e1, f1⟩ := ex 1 x1 a1 p
          obtain ⟨e2, f2⟩ := ex 3 x3 a3 r
          have := v1 e1; have := v3 e2
          exact three hc (lt0 1 e1) (lt0 3 e2) (by omega) (by omega) (by omega) (by rw [hx, ← f1, ← f2]; exact q)
        · obtain ⟨e1, f1⟩ := ex 2 x2 a2 p
          obtain ⟨e2, f2⟩ := ex 3 x3 a3 r
          have g2 := v2 e1; have := cw g2.2; have := v3 e2
          exact three hc (lt0 2 e1) (lt0 3 e2) (by omega) (by omega) (by omega) (by rw [hx, ← f1, ← f2]; exact q)
        · obtain ⟨e1, f1⟩ := ex 0 x0 a0 p
          obtain ⟨e2, f2⟩ := ex 1 x1 a1 r
          obtain ⟨e3, f3⟩ := ex 2 x2 a2 t
          have := v0 e1; have := v1 e2; have g2 := v2 e3; have := cw g2.2
          exact three (lt0 0 e1) (lt0 1 e2) (lt0 2 e3) (by omega) (by omega) (by omega) (by rw [← f1, ← f2, ← f3]; exact q)
        · obtain ⟨e1, f1⟩ := ex 0 x0 a0 p
          obtain ⟨e2, f2⟩ := ex 1 x1 a1 r
          obtain ⟨e3, f3⟩ := ex 3 x3 a3 t
          have := v0 e1; have := v1 e2; have := v3 e3
          exact three (lt0 0 e1) (lt0 1 e2) (lt0 3 e3) (by omega) (by omega) (by omega) (by rw [← f1, ← f2, ← f3]; exact q)
        · obtain ⟨e1, f1⟩ := ex 0 x0 a0 p
          obtain ⟨e2, f2⟩ := ex 2 x2 a2 r
          obtain ⟨e3, f3⟩ := ex 3 x3 a3 t
          have := v0 e1; have g2 := v2 e2; have := cw g2.2; have := v3 e3
          exact three (lt0 0 e1) (lt0 2 e2) (lt0 3 e3) (by omega) (by omega) (by omega) (by rw [← f1, ← f2, ← f3]; exact q)
        · obtain ⟨e1, f1⟩ := ex 1 x1 a1 p
          obtain ⟨e2, f2⟩ := ex 2 x2 a2 r
          obtain ⟨e3, f3⟩ := ex 3 x3 a3 t
          have := v1 e1; have g2 := v2 e2; have := cw g2.2; have := v3 e3
          exact three (lt0 1 e1) (lt0 2 e2) (lt0 3 e3) (by omega) (by omega) (by omega) (by rw [← f1, ← f2, ← f3]; exact q)
      · exact good
    · rw [far c hcn]
      have := X1 c hc
      omega
  · have e1 : gsum (fun c => gDry gs (flW w h sd gs wt (osum ol)) (flO w h sd gs wt ol) c * gDry gs (flW w h sd gs wt (osum ol)) (flO w h sd gs wt ol) c) 36 = gsum (fun c => enX (osum (flO w h sd gs wt ol)) (flW w h sd gs wt (osum ol)) gs c * enX (osum (flO w h sd gs wt ol)) (flW w h sd gs wt (osum ol)) gs c) 36 := gsum_congr (fun c _ => by rw [gDry_eq])
    rw [e1]
    obtain ⟨k, hk⟩ : ∃ k, w * h + k = 36 := ⟨36 - w * h, by omega⟩
    have t := gsum_tail (en_all E) k (fun i h1 _ => by rw [far i h1])
    rw [hk] at t
    exact addE t X2
end PB
