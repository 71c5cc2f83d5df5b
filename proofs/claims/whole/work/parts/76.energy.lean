/-! ===== how fast push can gather: the sum of squares ===== -/
theorem sqn (z : Int) : 0 ≤ z * z := by
  rcases Int.le_total 0 z with q | q
  · exact Int.mul_nonneg q q
  · have : 0 ≤ (-z) * (-z) := Int.mul_nonneg (by omega) (by omega)
    rw [Int.neg_mul_neg] at this
    exact this
theorem am2 (x y : Int) : 2 * (x * y) ≤ x * x + y * y := by
  have h := sqn (x - y)
  rw [Int.sub_mul, Int.mul_sub, Int.mul_sub, Int.mul_comm y x] at h
  omega
theorem sq4 (a b c d : Int) : (a + b + c + d) * (a + b + c + d) ≤ 4 * (a * a + b * b + c * c + d * d) := by
  have h1 := am2 a b
  have h2 := am2 a c
  have h3 := am2 a d
  have h4 := am2 b c
  have h5 := am2 b d
  have h6 := am2 c d
  have e : (a + b + c + d) * (a + b + c + d) = a * a + b * b + c * c + d * d + 2 * (a * b) + 2 * (a * c) + 2 * (a * d) + 2 * (b * c) + 2 * (b * d) + 2 * (c * d) := by
    rw [Int.add_mul, Int.add_mul, Int.add_mul, Int.mul_add, Int.mul_add, Int.mul_add, Int.mul_add, Int.mul_add, Int.mul_add, Int.mul_add, Int.mul_add, Int.mul_add, Int.mul_add, Int.mul_add, Int.mul_add, Int.mul_comm b a, Int.mul_comm c a, Int.mul_comm d a, Int.mul_comm c b, Int.mul_comm d b, Int.mul_comm d c]
    omega
  omega
theorem sq_le {a b : Int} (h0 : 0 ≤ a) (h : a ≤ b) : a * a ≤ b * b := Int.mul_le_mul h h h0 (by omega)
theorem cellA {X X' inn out sB K : Int} (h0 : 0 ≤ X') (h1 : X' ≤ X + inn + sB - out) (h2 : 0 ≤ sB) (h3 : sB ≤ out) (h4 : 0 ≤ inn) (hK : X * sB ≤ K) : X' * X' ≤ X * X + 2 * (X * inn) - 2 * (X * out) + 2 * K + inn * inn + out * out := by
  have r := sq_le h0 (show X' ≤ X + (inn + sB - out) by omega)
  have e : (X + (inn + sB - out)) * (X + (inn + sB - out)) = X * X + 2 * (X * (inn + sB - out)) + (inn + sB - out) * (inn + sB - out) := by
    generalize inn + sB - out = D
    rw [Int.add_mul, Int.mul_add, Int.mul_add, Int.mul_comm D X]
    omega
  have e2 : X * (inn + sB - out) = X * inn + X * sB - X * out := by rw [Int.mul_sub, Int.mul_add]
  have d : (inn + sB - out) * (inn + sB - out) ≤ inn * inn + out * out := by
    rcases Int.le_total 0 (inn + sB - out) with q | q
    · have := sq_le q (show inn + sB - out ≤ inn by omega)
      have := sqn out
      omega
    · have h5 := sq_le (a := -(inn + sB - out)) (b := out) (by omega) (by omega)
      rw [Int.neg_mul_neg] at h5
      have := sqn inn
      omega
  omega
theorem cellB {X X' Z r inn out : Int} (h1 : X' = Z + inn - out) (h2 : Z = X - r) (h3 : 0 ≤ r) (h4 : r ≤ 999) (h5 : 0 ≤ X) (h6 : 0 ≤ inn) (h7 : 0 ≤ out) : X' * X' ≤ X * X + 998001 + 2 * (Z * inn) - 2 * (Z * out) + inn * inn + out * out := by
  have e : (Z + (inn - out)) * (Z + (inn - out)) = Z * Z + 2 * (Z * (inn - out)) + (inn - out) * (inn - out) := by
    generalize inn - out = D
    rw [Int.add_mul, Int.mul_add, Int.mul_add, Int.mul_comm D Z]
    omega
  have e2 : Z * (inn - out) = Z * inn - Z * out := Int.mul_sub _ _ _
  have e3 : (inn - out) * (inn - out) = inn * inn - 2 * (inn * out) + out * out := by
    rw [Int.sub_mul, Int.mul_sub, Int.mul_sub, Int.mul_comm out inn]
    omega
  have e4 : Z * Z = X * X - 2 * (X * r) + r * r := by
    rw [h2, Int.sub_mul, Int.mul_sub, Int.mul_sub, Int.mul_comm r X]
    omega
  have p1 := Int.mul_nonneg h6 h7
  have p2 := Int.mul_nonneg h5 h3
  have p3 := sq_le h3 h4
  rw [show X' = Z + (inn - out) by omega, e, e2, e3, e4]
  omega
theorem quad (a : Int) : 17982 * a - 8 * (a * a) ≤ 10104768 := by
  have h := sqn (1124 - a)
  have e : (1124 - a) * (1124 - a) = 1263376 - 2248 * a + a * a := by
    rw [Int.sub_mul, Int.mul_sub, Int.mul_sub, Int.mul_comm a 1124]
    omega
  -- with u = 1124 - a: 8 u u - 2 u + 8 is not below zero
  have k : 1124 - a ≤ (1124 - a) * (1124 - a) := by
    rcases Int.lt_or_le (1124 - a) 1 with q | q
    · omega
    · have := Int.mul_le_mul (a := 1) (b := 1124 - a) (c := 1124 - a) (d := 1124 - a) q (Int.le_refl _) (by omega) (by omega)
      omega
  omega
theorem edge1 {a δ zd zc : Int} (h0 : 0 ≤ a) (h1 : 40 * a ≤ 9 * δ) (h2 : zd - zc ≤ 999 - δ) : 2 * (zd * a) - 2 * (zc * a) + 8 * (a * a) ≤ 1122752 := by
  have m1 := Int.mul_le_mul_of_nonneg_right h2 h0
  have m2 := Int.mul_le_mul_of_nonneg_right h1 h0
  rw [Int.sub_mul, Int.sub_mul] at m1
  rw [Int.mul_assoc, Int.mul_assoc] at m2
  have q := quad a
  omega
theorem edge2 {a δ zd zc mm : Int} (h0 : 0 ≤ a) (h1 : 40 * a ≤ 9 * δ) (h2 : zd - zc ≤ - δ) (h3 : mm ≤ a + 1) : 2 * (zd * a) - 2 * (zc * a) + 8 * (a * a) + 1998 * mm ≤ 1124750 := by
  have m1 := Int.mul_le_mul_of_nonneg_right h2 h0
  have m2 := Int.mul_le_mul_of_nonneg_right h1 h0
  rw [Int.sub_mul, Int.neg_mul] at m1
  rw [Int.mul_assoc, Int.mul_assoc] at m2
  have q := quad a
  omega
section EN
variable {w h : Nat} {os wt gs os' wt' : Nat → Nat} {fo fw mm : Nat → Nat → Nat}
def enP (os wt gs : Nat → Nat) (c : Nat) : Nat := os c + wt c + gs c
def enX (os wt gs : Nat → Nat) (c : Nat) : Nat := wt c + gs c + (os c - 999)
def enA (w h : Nat) (os' : Nat → Nat) (fo fw : Nat → Nat → Nat) (c s : Nat) : Nat := if os' c ≤ 999 ∧ os' (nbr w h c s) ≤ 999 then fw c s else fo c s + fw c s
def enZ (os wt gs os' : Nat → Nat) (c : Nat) : Int := if os' c ≤ 999 then (enX os wt gs c : Int) else (enP os wt gs c : Int) - 999
def enB (w h : Nat) (os' : Nat → Nat) (mm : Nat → Nat → Nat) (c s : Nat) : Nat := if os' c ≤ 999 ∧ 999 < os' (nbr w h c s) then mm c s else 0
/-- what the flows of an hour keep to -/
def enH (w h : Nat) (os wt gs os' wt' : Nat → Nat) (fo fw mm : Nat → Nat → Nat) : Prop :=
  (1 ≤ w ∧ w * h ≤ 36) ∧ (∀ c, gs c ≤ 999) ∧
  (∀ c, c < w * h → os' c + gsum (fo c) 4 = os c + gsum (inS w h fo c) 4 ∧ wt' c + gsum (fw c) 4 = wt c + gsum (inS w h fw c) 4) ∧
  (∀ c s, fo c s + fw c s ≤ mm c s ∧ mm c s ≤ fo c s + fw c s + 1) ∧
  (∀ c s, (nbr w h c s = 100 → mm c s = 0) ∧ (nbr w h c s ≠ 100 → 40 * mm c s ≤ 9 * (enP os wt gs c - enP os wt gs (nbr w h c s)))) ∧
  (∀ c, gsum (mm c) 4 ≤ os c + wt c) ∧
  ∀ c s, (os c + wt c) * fo c s ≤ mm c s * os c
theorem en_cell (H : enH w h os wt gs os' wt' fo fw mm) {c : Nat} (hc : c < w * h) :
    (enX os' wt' gs c : Int) * (enX os' wt' gs c : Int) ≤ (enX os wt gs c : Int) * (enX os wt gs c : Int) + 998001 + 2 * (enZ os wt gs os' c * (gsum (inS w h (enA w h os' fo fw) c) 4 : Nat)) - 2 * (enZ os wt gs os' c * (gsum (enA w h os' fo fw c) 4 : Nat)) + 1998 * (gsum (enB w h os' mm c) 4 : Nat) + (gsum (inS w h (enA w h os' fo fw) c) 4 : Nat) * (gsum (inS w h (enA w h os' fo fw) c) 4 : Nat) + (gsum (enA w h os' fo fw c) 4 : Nat) * (gsum (enA w h os' fo fw c) 4 : Nat) := by
  obtain ⟨⟨hw, h36⟩, hg, hs, hf, hm, hb, hq⟩ := H
  obtain ⟨s1, s2⟩ := hs c hc
  have g9 := hg c
  by_cases hA : os' c ≤ 999
  · -- what goes to the others
    have out : gsum (enA w h os' fo fw c) 4 = gsum (fw c) 4 + gsum (fun s => if 999 < os' (nbr w h c s) then fo c s else 0) 4 := by
      rw [← gsum_add]
      refine gsum_congr (fun s _ => ?_)
      unfold enA
      by_cases z : os' (nbr w h c s) ≤ 999
      · rw [if_pos ⟨hA, z⟩, if_neg (by omega)]; omega
      · rw [if_neg (fun y => z y.2), if_pos (by omega)]; omega
    have inn : gsum (inS w h fw c) 4 ≤ gsum (inS w h (enA w h os' fo fw) c) 4 := by
      refine gsum_le (fun s _ => ?_)
      unfold inS enA
      split
      · omega
      · split <;> omega
    have Bm : gsum (enB w h os' mm c) 4 = gsum (fun s => if 999 < os' (nbr w h c s) then mm c s else 0) 4 := by
      refine gsum_congr (fun s _ => ?_)
      unfold enB
      by_cases z : 999 < os' (nbr w h c s)
      · rw [if_pos ⟨hA, z⟩, if_pos z]
      · rw [if_neg (fun y => z y.2), if_neg z]
    have ob1 : gsum (fun s => if 999 < os' (nbr w h c s) then fo c s else 0) 4 ≤ gsum (enB w h os' mm c) 4 := by
      rw [Bm]
      refine gsum_le (fun s _ => ?_)
      have := hf c s
      show (if 999 < os' (nbr w h c s) then fo c s else 0) ≤ if 999 < os' (nbr w h c s) then mm c s else 0
      split <;> omega
    have ob2 : (os c + wt c) * gsum (fun s => if 999 < os' (nbr w h c s) then fo c s else 0) 4 ≤ os c * gsum (enB w h os' mm c) 4 := by
      rw [Bm, ← gsum_mul, ← gsum_mul]
      refine gsum_le (fun s _ => ?_)
      have := hq c s
      show (os c + wt c) * (if 999 < os' (nbr w h c s) then fo c s else 0) ≤ os c * if 999 < os' (nbr w h c s) then mm c s else 0
      split
      · rw [Nat.mul_comm (os c)]; exact this
      · omega
    have mb : gsum (enB w h os' mm c) 4 ≤ os c + wt c := by
      refine Nat.le_trans ?_ (hb c)
      rw [Bm]
      refine gsum_le (fun s _ => ?_)
      show (if 999 < os' (nbr w h c s) then mm c s else 0) ≤ mm c s
      split <;> omega
    have ez : enZ os wt gs os' c = (enX os wt gs c : Int) := if_pos hA
    have eX' : enX os' wt' gs c = wt' c + gs c := by unfold enX; omega
    generalize gsum (fun s => if 999 < os' (nbr w h c s) then fo c s else 0) 4 = OB at *
    generalize gsum (enB w h os' mm c) 4 = MB at *
    generalize gsum (inS w h (enA w h os' fo fw) c) 4 = IN at *
    generalize gsum (enA w h os' fo fw c) 4 = OU at *
    generalize gsum (fw c) 4 = ow at *
    generalize gsum (inS w h fw c) 4 = iw at *
    -- X times what is lacking
    have key : enX os wt gs c * (OB - (os c - 999)) ≤ 999 * MB := by
      unfold enX
      rcases Nat.lt_or_ge (os c - 999) OB with q | q
      · obtain ⟨sB, hsB⟩ : ∃ sB, OB = sB + (os c - 999) := ⟨OB - (os c - 999), by omega⟩
        rw [hsB] at ob1 ob2
        rw [hsB, show sB + (os c - 999) - (os c - 999) = sB by omega]
        -- b sB ≤ M q
        have k1 : (os c + wt c) * sB + MB * (os c - 999) ≤ os c * MB := by
          have k2 : MB * (os c - 999) ≤ (os c + wt c) * (os c - 999) := Nat.mul_le_mul_right _ mb
          rw [Nat.mul_add] at ob2
          omega
        rcases Nat.lt_or_ge (os c) 999 with z | z
        · have e0 : os c - 999 = 0 := by omega
          rw [e0] at k1 ⊢
          rw [Nat.mul_zero] at k1
          -- wt sB + os sB ≤ os MB, gs sB
          have k3 : gs c * sB ≤ 999 * sB := Nat.mul_le_mul_right _ g9
          rw [Nat.add_zero, Nat.add_mul]
          rw [Nat.add_mul] at k1
          rcases Nat.lt_or_ge (os c) (gs c) with y | y
          · obtain ⟨e, he⟩ : ∃ e, gs c = os c + e := ⟨gs c - os c, by omega⟩
            have k4 : e * sB ≤ e * MB := Nat.mul_le_mul_left _ (by omega)
            have k5 : (os c + e) * MB ≤ 999 * MB := Nat.mul_le_mul_right _ (by omega)
            rw [he, Nat.add_mul]
            rw [Nat.add_mul] at k5
            omega
          · have k4 : gs c * sB ≤ os c * sB := Nat.mul_le_mul_right _ y
            have k5 : os c * MB ≤ 999 * MB := Nat.mul_le_mul_right _ (by omega)
            omega
        · obtain ⟨e, he⟩ : ∃ e, os c = 999 + e := ⟨os c - 999, by omega⟩
          rw [he] at k1 ⊢
          rw [show 999 + e - 999 = e by omega] at k1 ⊢
          rw [Nat.add_mul 999 e MB, Nat.mul_comm MB e] at k1
          have k6 : (wt c + gs c + e) * sB ≤ (999 + e + wt c) * sB := Nat.mul_le_mul_right _ (by omega)
          omega
      · rw [show OB - (os c - 999) = 0 by omega, Nat.mul_zero]
        exact Nat.zero_le _
    have hXi : wt' c + gs c + OU ≤ enX os wt gs c + IN + (OB - (os c - 999)) := by unfold enX; omega
    have hK : ((enX os wt gs c : Nat) : Int) * ((OB - (os c - 999) : Nat) : Int) ≤ ((999 * MB : Nat) : Int) := by
      rw [← Int.natCast_mul]
      exact Int.ofNat_le.mpr key
    have r := cellA (X := (enX os wt gs c : Int)) (X' := ((wt' c + gs c : Nat) : Int)) (inn := (IN : Int)) (out := (OU : Int)) (sB := ((OB - (os c - 999) : Nat) : Int)) (K := ((999 * MB : Nat) : Int)) (by omega) (by omega) (by omega) (by omega) (by omega) hK
    rw [eX', ez]
    have e9 : ((999 * MB : Nat) : Int) = 999 * (MB : Int) := by omega
    rw [e9] at r
    omega
  · have out : gsum (enA w h os' fo fw c) 4 = gsum (fo c) 4 + gsum (fw c) 4 := by
      rw [← gsum_add]
      refine gsum_congr (fun s _ => ?_)
      unfold enA
      rw [if_neg (fun y => hA y.1)]
    have inn : gsum (inS w h (enA w h os' fo fw) c) 4 = gsum (inS w h fo c) 4 + gsum (inS w h fw c) 4 := by
      rw [← gsum_add]
      refine gsum_congr (fun s hs4 => ?_)
      unfold inS
      rcases nbr_lt hw hc s with e | e
      · rw [if_pos e, if_pos e, if_pos e]
      · rw [if_neg (by omega), if_neg (by omega), if_neg (by omega)]
        have sy := (nbr_sym (w := w) (h := h) (c := nbr w h c s) (c' := c) (s := s) hw e hc hs4 h36).mp rfl
        unfold enA
        rw [sy, if_neg (fun y => hA y.2)]
    have ez : enZ os wt gs os' c = (enP os wt gs c : Int) - 999 := if_neg hA
    have hB0 : (0 : Int) ≤ 1998 * (gsum (enB w h os' mm c) 4 : Nat) := by omega
    generalize gsum (enB w h os' mm c) 4 = MB at *
    generalize gsum (inS w h (enA w h os' fo fw) c) 4 = IN at *
    generalize gsum (enA w h os' fo fw c) 4 = OU at *
    have r := cellB (X := (enX os wt gs c : Int)) (X' := (enX os' wt' gs c : Int)) (Z := (enP os wt gs c : Int) - 999) (r := (enX os wt gs c : Int) - ((enP os wt gs c : Int) - 999)) (inn := (IN : Int)) (out := (OU : Int)) (by unfold enX enP; omega) (by omega) (by unfold enX enP; omega) (by unfold enX enP; omega) (by omega) (by omega) (by omega)
    rw [ez]
    omega
end EN
