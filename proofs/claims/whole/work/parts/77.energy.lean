/-! ===== the sum of squares over an hour ===== -/
theorem isum_four (f0 f1 f2 f3 : Nat → Int) (n : Nat) : isum (fun c => f0 c + f1 c + f2 c + f3 c) n = isum f0 n + isum f1 n + isum f2 n + isum f3 n := by
  rw [isum_add, isum_add, isum_add]
section ES
variable {w h : Nat} {os wt gs os' wt' : Nat → Nat} {fo fw mm : Nat → Nat → Nat}
/-- what a side brings in, what it takes out -/
def enIn (w h : Nat) (os wt gs os' : Nat → Nat) (fo fw : Nat → Nat → Nat) (s c : Nat) : Int := 2 * (enZ os wt gs os' c * (inS w h (enA w h os' fo fw) c s : Nat)) + 4 * ((inS w h (enA w h os' fo fw) c s : Nat) * (inS w h (enA w h os' fo fw) c s : Nat))
def enOut (w h : Nat) (os wt gs os' : Nat → Nat) (fo fw mm : Nat → Nat → Nat) (s c : Nat) : Int := 4 * ((enA w h os' fo fw c s : Nat) * (enA w h os' fo fw c s : Nat)) - 2 * (enZ os wt gs os' c * (enA w h os' fo fw c s : Nat)) + 1998 * (enB w h os' mm c s : Nat)
/-- the same as what comes in, told at the other end -/
def enTurn (w h : Nat) (os wt gs os' : Nat → Nat) (fo fw : Nat → Nat → Nat) (s c : Nat) : Int := 2 * (enZ os wt gs os' (nbr w h c s) * (enA w h os' fo fw c s : Nat)) + 4 * ((enA w h os' fo fw c s : Nat) * (enA w h os' fo fw c s : Nat))
theorem en_zero (H : enH w h os wt gs os' wt' fo fw mm) {c s : Nat} (hz : mm c s = 0) : enA w h os' fo fw c s = 0 ∧ enB w h os' mm c s = 0 := by
  have := (H.2.2.2.1 c s).1
  unfold enA enB
  constructor
  · split <;> omega
  · split <;> omega
theorem en_split (H : enH w h os wt gs os' wt' fo fw mm) {c : Nat} (hc : c < w * h) : (enX os' wt' gs c : Int) * (enX os' wt' gs c : Int) ≤ ((enX os wt gs c : Int) * (enX os wt gs c : Int) + 998001) + ((enIn w h os wt gs os' fo fw 0 c + enIn w h os wt gs os' fo fw 1 c + enIn w h os wt gs os' fo fw 2 c + enIn w h os wt gs os' fo fw 3 c) + (enOut w h os wt gs os' fo fw mm 0 c + enOut w h os wt gs os' fo fw mm 1 c + enOut w h os wt gs os' fo fw mm 2 c + enOut w h os wt gs os' fo fw mm 3 c)) := by
  have r := en_cell H hc
  have g4 : ∀ f : Nat → Nat, ((gsum f 4 : Nat) : Int) = (f 0 : Int) + (f 1 : Int) + (f 2 : Int) + (f 3 : Int) := by
    intro f
    show ((0 + f 0 + f 1 + f 2 + f 3 : Nat) : Int) = _
    omega
  rw [g4, g4, g4] at r
  have q1 := sq4 (inS w h (enA w h os' fo fw) c 0 : Nat) (inS w h (enA w h os' fo fw) c 1 : Nat) (inS w h (enA w h os' fo fw) c 2 : Nat) (inS w h (enA w h os' fo fw) c 3 : Nat)
  have q2 := sq4 (enA w h os' fo fw c 0 : Nat) (enA w h os' fo fw c 1 : Nat) (enA w h os' fo fw c 2 : Nat) (enA w h os' fo fw c 3 : Nat)
  have dis : ∀ z a b c d : Int, z * (a + b + c + d) = z * a + z * b + z * c + z * d := fun z a b c d => by rw [Int.mul_add, Int.mul_add, Int.mul_add]
  rw [dis (enZ os wt gs os' c), dis (enZ os wt gs os' c)] at r
  unfold enIn enOut
  omega
theorem en_turn (H : enH w h os wt gs os' wt' fo fw mm) {s : Nat} (hs : s < 4) : isum (enIn w h os wt gs os' fo fw s) (w * h) = isum (enTurn w h os wt gs os' fo fw (opS s)) (w * h) := by
  have hw := H.1.1
  have h36 := H.1.2
  obtain ⟨o1, o2⟩ := opS_op hs
  rw [isum_turn (s := opS s) (enTurn w h os wt gs os' fo fw (opS s)) hw h36 o2 (fun c hc e => by
    have z := (en_zero H (c := c) (s := opS s) ((H.2.2.2.2.1 c (opS s)).1 e)).1
    unfold enTurn
    rw [z]
    simp)]
  rw [o1]
  refine isum_congr (fun d hd => ?_)
  unfold enIn inS
  rcases nbr_lt hw hd s with e | e
  · rw [if_pos e, if_pos e]
    simp
  · rw [if_neg (by omega), if_neg (by omega)]
    have sy := (nbr_sym (w := w) (h := h) (c := nbr w h d s) (c' := d) (s := s) hw e hd hs h36).mp rfl
    unfold enTurn
    rw [sy]
/-- a flow costs so much, where there is one -/
def enE (w h : Nat) (os wt gs : Nat → Nat) (s c : Nat) : Int := if nbr w h c s ≠ 100 ∧ enP os wt gs (nbr w h c s) < enP os wt gs c then 1124750 else 0
theorem en_edge (H : enH w h os wt gs os' wt' fo fw mm) (c s : Nat) : enTurn w h os wt gs os' fo fw s c + enOut w h os wt gs os' fo fw mm s c ≤ enE w h os wt gs s c := by
  obtain ⟨⟨hw, h36⟩, hg, hs, hf, hm, hb, hq⟩ := id H
  have zb : ∀ c, ((enP os wt gs c : Int) - 999 ≤ enZ os wt gs os' c) ∧ enZ os wt gs os' c ≤ (enP os wt gs c : Int) := by
    intro c
    unfold enZ enX enP
    split <;> omega
  unfold enE
  by_cases z : nbr w h c s ≠ 100 ∧ enP os wt gs (nbr w h c s) < enP os wt gs c
  · rw [if_pos z]
    have m1 := (hm c s).2 z.1
    have f1 := hf c s
    have am : enA w h os' fo fw c s ≤ mm c s := by unfold enA; split <;> omega
    have z1 := zb c
    have z2 := zb (nbr w h c s)
    unfold enTurn enOut
    by_cases y : os' c ≤ 999 ∧ 999 < os' (nbr w h c s)
    · have eB : enB w h os' mm c s = mm c s := if_pos y
      have eA : enA w h os' fo fw c s = fo c s + fw c s := if_neg (by omega)
      have zc : enZ os wt gs os' (nbr w h c s) = (enP os wt gs (nbr w h c s) : Int) - 999 := if_neg (by omega)
      have r := edge2 (a := (enA w h os' fo fw c s : Int)) (δ := (enP os wt gs c : Int) - (enP os wt gs (nbr w h c s) : Int)) (zd := enZ os wt gs os' (nbr w h c s)) (zc := enZ os wt gs os' c) (mm := (mm c s : Int)) (by omega) (by omega) (by omega) (by omega)
      rw [eB]
      omega
    · have eB : enB w h os' mm c s = 0 := if_neg y
      have r := edge1 (a := (enA w h os' fo fw c s : Int)) (δ := (enP os wt gs c : Int) - (enP os wt gs (nbr w h c s) : Int)) (zd := enZ os wt gs os' (nbr w h c s)) (zc := enZ os wt gs os' c) (by omega) (by omega) (by omega)
      rw [eB]
      omega
  · rw [if_neg z]
    have m0 : mm c s = 0 := by
      by_cases e : nbr w h c s = 100
      · exact (hm c s).1 e
      · have := (hm c s).2 e
        omega
    obtain ⟨a0, b0⟩ := en_zero H m0
    unfold enTurn enOut
    rw [a0, b0]
    simp
theorem en_pairs (H : enH w h os wt gs os' wt' fo fw mm) {s : Nat} (hs : s < 4) : isum (enE w h os wt gs s) (w * h) + isum (enE w h os wt gs (opS s)) (w * h) ≤ (w * h : Nat) * 1124750 := by
  have hw := H.1.1
  have h36 := H.1.2
  obtain ⟨o1, o2⟩ := opS_op hs
  rw [isum_turn (s := opS s) (enE w h os wt gs (opS s)) hw h36 o2 (fun c hc e => if_neg (fun y => y.1 e)), o1, ← isum_add, ← isum_const]
  refine isum_le (fun d hd => ?_)
  show enE w h os wt gs s d + (if nbr w h d s = 100 then 0 else enE w h os wt gs (opS s) (nbr w h d s)) ≤ 1124750
  rcases nbr_lt hw hd s with e | e
  · rw [if_pos e]
    unfold enE
    rw [if_neg (fun y => y.1 e)]
    omega
  · rw [if_neg (by omega)]
    have sy := (nbr_sym (w := w) (h := h) (c := nbr w h d s) (c' := d) (s := s) hw e hd hs h36).mp rfl
    unfold enE
    rw [sy]
    by_cases z : enP os wt gs (nbr w h d s) < enP os wt gs d
    · rw [if_neg (c := d ≠ 100 ∧ enP os wt gs d < enP os wt gs (nbr w h d s)) (by omega)]
      split <;> omega
    · rw [if_neg (c := nbr w h d s ≠ 100 ∧ enP os wt gs (nbr w h d s) < enP os wt gs d) (by omega)]
      split <;> omega
theorem en_all (H : enH w h os wt gs os' wt' fo fw mm) : gsum (fun c => enX os' wt' gs c * enX os' wt' gs c) (w * h) ≤ gsum (fun c => enX os wt gs c * enX os wt gs c) (w * h) + 120000000 := by
  have h36 := H.1.2
  have cell := isum_le (n := w * h) (fun c hc => en_split H hc)
  rw [isum_add, isum_add, isum_add, isum_four, isum_four, isum_const, en_turn H (s := 0) (by omega), en_turn H (s := 1) (by omega), en_turn H (s := 2) (by omega), en_turn H (s := 3) (by omega)] at cell
  have ed : ∀ s, isum (enTurn w h os wt gs os' fo fw s) (w * h) + isum (enOut w h os wt gs os' fo fw mm s) (w * h) ≤ isum (enE w h os wt gs s) (w * h) := by
    intro s
    rw [← isum_add]
    exact isum_le (fun c _ => en_edge H c s)
  have e0 := ed 0
  have e1 := ed 1
  have e2 := ed 2
  have e3 := ed 3
  have p0 : isum (enE w h os wt gs 0) (w * h) + isum (enE w h os wt gs 1) (w * h) ≤ (w * h : Nat) * 1124750 := en_pairs H (s := 0) (by omega)
  have p2 : isum (enE w h os wt gs 2) (w * h) + isum (enE w h os wt gs 3) (w * h) ≤ (w * h : Nat) * 1124750 := en_pairs H (s := 2) (by omega)
  have c0 : isum (enTurn w h os wt gs os' fo fw (opS 0)) (w * h) = isum (enTurn w h os wt gs os' fo fw 1) (w * h) := rfl
  have c1 : isum (enTurn w h os wt gs os' fo fw (opS 1)) (w * h) = isum (enTurn w h os wt gs os' fo fw 0) (w * h) := rfl
  have c2 : isum (enTurn w h os wt gs os' fo fw (opS 2)) (w * h) = isum (enTurn w h os wt gs os' fo fw 3) (w * h) := rfl
  have c3 : isum (enTurn w h os wt gs os' fo fw (opS 3)) (w * h) = isum (enTurn w h os wt gs os' fo fw 2) (w * h) := rfl
  rw [c0, c1, c2, c3] at cell
  have k1 : ∀ f : Nat → Nat, isum (fun c => (f c : Int) * (f c : Int)) (w * h) = ((gsum (fun c => f c * f c) (w * h) : Nat) : Int) := by
    intro f
    rw [isum_cast]
    exact isum_congr (fun c _ => (Int.natCast_mul _ _).symm)
  rw [k1, k1] at cell
  omega
end ES
