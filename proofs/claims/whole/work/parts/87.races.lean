/-! ===== all races ===== -/
theorem L_Race_runAll_2_s (a : Nat) (p1 : Nat) (p2 : Nat) (F : Nat) (v1 : Int32) (m1 : gM) : L_Race_runAll_2 a p1 p2 (F + 1) v1 m1 = (if v1 < ((1 : Int32) <<< ((gfd m1 a 4) &&& 31)) then ((f_Race_run a p1 p2 v1 m1).bind fun (r1 : gM) => (L_Race_runAll_2 a p1 p2 F) (v1 + 1) r1) else (some m1)) := rfl
theorem L_MO_raceAll_3_s (x1 : Int32) (x2 : Int32) (x3 : Int32) (x4 : Int32) (F : Nat) (v1 : Int32) (m1 : gM) : L_MO_raceAll_3 x1 x2 x3 x4 (F + 1) v1 m1 = (if v1 < ((1 : Int32) <<< (x1 &&& 31)) then ((f_MO_race x1 x2 x3 x4 v1 m1).bind fun (r1 : gM) => (L_MO_raceAll_3 x1 x2 x3 x4 F) (v1 + 1) r1) else (some m1)) := rfl
section RA
variable {w h hr we n v H c : Nat} {sd gs wt ol wp wc ww wo sp : Nat → Nat}
theorem cl_runAll (hH : H ≤ 24) (hv : v ≤ 60) (n4 : n ≤ 4) : ∀ (r set : Nat) (N : gN) (L : Nat → Nat → Int64), set + r = 2 ^ n → RWo N w h hr we n sd gs wt ol wp wc ww wo sp → (N 54 4 = nI n ∧ N 54 5 = nI v ∧ N 54 6 = nI c ∧ N 54 7 = nI H) → (∀ i, i < set → ∀ p, p < n → N 71 (4 * i + p) = rGn w h sd gs we wp wc ww wo n sp v H c ol wt i p) → ∃ (N' : gN) (L' : Nat → Nat → Int64), (∀ q, q < 55 ∨ 72 ≤ q → N' q = N q) ∧ (∀ i, i < 2 ^ n → ∀ p, p < n → N' 71 (4 * i + p) = rGn w h sd gs we wp wc ww wo n sp v H c ol wt i p) ∧ ∀ F, r < F → L_Race_runAll_2 54 1 33 F (nI set) (N, L) = some (N', L') := by
  have hp16 := pow16 n4
  have sh := sh_ok n n4
  intro r
  induction r with
  | zero =>
    intro set N L hk W h54 D
    have e : set = 2 ^ n := by omega
    subst e
    refine ⟨N, L, fun _ _ => rfl, D, fun F hF => ?_⟩
    obtain ⟨F, rfl⟩ : ∃ F', F = F' + 1 := ⟨F - 1, by omega⟩
    have h4 := h54.1
    rw [L_Race_runAll_2_s]
    simp (disch := omega) only [gfd_eq, glet_eq, gbind_eq, nI_ltI, nI_1, gok_nI, grd_nI, nI_clamp, if_true, if_false, Nat.lt_irrefl, h4, sh, i10, gokT]
  | succ r ih =>
    intro set N L hk W h54 D
    have hs : set < 2 ^ n := by omega
    obtain ⟨N1, L1, r1, f1, g1, g2⟩ := cl_oneRace (L := L) W h54 (show set < 16 by omega) hH hv
    obtain ⟨N2, L2, f2, D2, run⟩ := ih (set + 1) N1 L1 (by omega) (W.cong (fun q hq => f1 q (by omega)) (fun q _ _ => f1 q (by omega)) (fun q _ _ => by rw [f1 81 (by omega)])) (by rw [f1 54 (by omega)]; exact h54) (fun i hi p hp => by
      by_cases e : i = set
      · rw [e]; exact g1 p hp
      · rw [g2 _ (by omega)]; exact D i (by omega) p hp)
    refine ⟨N2, L2, fun q hq => (f2 q hq).trans (f1 q hq), D2, fun F hF => ?_⟩
    obtain ⟨F, rfl⟩ : ∃ F', F = F' + 1 := ⟨F - 1, by omega⟩
    have h4 := h54.1
    rw [L_Race_runAll_2_s]
    simp (disch := omega) only [gfd_eq, glet_eq, gbind_eq, nI_ltI, nI_1, gok_nI, grd_nI, nI_clamp, if_true, if_false, Nat.lt_irrefl, h4, sh, hs, r1, i10, gokT]
    exact run F (by omega)
theorem mo_runAll {L : Nat → Nat → Int64} (hH : H ≤ 24) (hv : v ≤ 60) (n4 : n ≤ 4) : ∀ (r set : Nat) (N : gN), set + r = 2 ^ n → RWo N w h hr we n sd gs wt ol wp wc ww wo sp → (∀ i, i < set → ∀ p, p < n → N 124 (4 * i + p) = rGn w h sd gs we wp wc ww wo n sp v H c ol wt i p) → ∃ N' : gN, (∀ p q, ¬ (105 ≤ p ∧ p ≤ 111) → p ≠ 123 → p ≠ 124 → ¬ (p = 81 ∧ (q = 58 ∨ q = 59)) → N' p q = N p q) ∧ (∀ q, q < 5400 → N' 123 q = N 123 q) ∧ (∀ i, i < 2 ^ n → ∀ p, p < n → N' 124 (4 * i + p) = rGn w h sd gs we wp wc ww wo n sp v H c ol wt i p) ∧ ∀ F, r < F → L_MO_raceAll_3 (nI n) (nI v) (nI c) (nI H) F (nI set) (N, L) = some (N', L) := by
  have hp16 := pow16 n4
  have sh := sh_ok n n4
  intro r
  induction r with
  | zero =>
    intro set N hk W D
    have e : set = 2 ^ n := by omega
    subst e
    refine ⟨N, fun _ _ _ _ _ _ => rfl, fun _ _ => rfl, D, fun F hF => ?_⟩
    obtain ⟨F, rfl⟩ : ∃ F', F = F' + 1 := ⟨F - 1, by omega⟩
    rw [L_MO_raceAll_3_s]
    simp (disch := omega) only [gfd_eq, glet_eq, gbind_eq, nI_ltI, nI_1, gok_nI, grd_nI, nI_clamp, if_true, if_false, Nat.lt_irrefl, sh, i10, gokT]
  | succ r ih =>
    intro set N hk W D
    have hs : set < 2 ^ n := by omega
    obtain ⟨N1, r1, f1, f1b, g1, g2⟩ := mo_oneRace (L := L) (cost := c) W (show set < 16 by omega) hH hv
    obtain ⟨N2, f2, f2b, D2, run⟩ := ih (set + 1) N1 (by omega) (W.cong (fun q hq => funext fun i => f1 q i (by omega) (by omega) (by omega) (by omega)) (fun q h1 h2 => funext fun i => f1 q i (by omega) (by omega) (by omega) (by omega)) (fun q h1 h2 => f1 81 q (by omega) (by omega) (by omega) (by omega))) (fun i hi p hp => by
      by_cases e : i = set
      · rw [e]; exact g1 p hp
      · rw [g2 _ (by omega)]; exact D i (by omega) p hp)
    refine ⟨N2, fun p q h1 h2 h3 h4 => (f2 p q h1 h2 h3 h4).trans (f1 p q h1 h2 h3 h4), fun q hq => (f2b q hq).trans (f1b q hq), D2, fun F hF => ?_⟩
    obtain ⟨F, rfl⟩ : ∃ F', F = F' + 1 := ⟨F - 1, by omega⟩
    rw [L_MO_raceAll_3_s]
    simp (disch := omega) only [gfd_eq, glet_eq, gbind_eq, nI_ltI, nI_1, gok_nI, grd_nI, nI_clamp, if_true, if_false, Nat.lt_irrefl, sh, hs, r1, i10, gokT]
    exact run F (by omega)
theorem race_all {n0 K : Nat} {m : gM} (I : Inv n0 K m.1) (hH : H ≤ 24) (hv : v ≤ 60) (n4 : n ≤ 4) (W : RWo m.1 w h hr we n sd gs wt ol wp wc ww wo sp) : ∃ (N2 : gN) (L2 : Nat → Nat → Int64) (N3 : gN), f_Race_runAll 54 1 33 (prepN m.1 n v c H, m.2) = some (N2, L2) ∧ N2 54 4 = nI n ∧ (∀ i, i < 2 ^ n → ∀ p, p < n → N2 71 (4 * i + p) = rGn w h sd gs we wp wc ww wo n sp v H c ol wt i p) ∧ N2 81 8 = m.1 81 8 ∧ RWo N2 w h hr we n sd gs wt ol wp wc ww wo sp ∧ f_MO_raceAll (nI n) (nI v) (nI c) (nI H) (N2, L2) = some (N3, L2) ∧ (∀ i, i < 2 ^ n → ∀ p, p < n → N3 124 (4 * i + p) = rGn w h sd gs we wp wc ww wo n sp v H c ol wt i p) ∧ Inv (n0 + 1) K N3 := by
  have hp16 := pow16 n4
  have W1 : RWo (prepN m.1 n v c H) w h hr we n sd gs wt ol wp wc ww wo sp := W.cong (fun q hq => prepN_ne (by omega)) (fun q _ _ => prepN_ne (by omega)) (fun q _ _ => by rw [prepN_ne (by decide)])
  obtain ⟨N2, L2, f2, D2, r2⟩ := cl_runAll hH hv n4 (2 ^ n) 0 _ m.2 (by omega) W1 (prepN_54 _ _ _ _ _) (fun i hi => by omega)
  have W2 : RWo N2 w h hr we n sd gs wt ol wp wc ww wo sp := W1.cong (fun q hq => f2 q (by omega)) (fun q _ _ => f2 q (by omega)) (fun q _ _ => by rw [f2 81 (by omega)])
  obtain ⟨N3, f3, f3b, D3, r3⟩ := mo_runAll (L := L2) (c := c) hH hv n4 (2 ^ n) 0 N2 (by omega) W2 (fun i hi => by omega)
  have fr2 : ∀ q, q < 54 ∨ 72 ≤ q → N2 q = m.1 q := fun q hq => (f2 q (by omega)).trans (prepN_ne (by omega))
  refine ⟨N2, L2, N3, r2 1000 (by omega), ?_, D2, by rw [fr2 81 (by omega)], W2, r3 1000 (by omega), D3, ?_⟩
  · rw [f2 54 (by omega)]; exact (prepN_54 _ _ _ _ _).1
  · exact (I.mono (Nat.le_succ n0)).race (fun p q h1 h2 h3 h4 h5 => (f3 p q h2 h3 h4 h5).trans (by rw [fr2 p h1])) (fun q hq => (f3b q hq).trans (by rw [fr2 123 (by omega)]))
end RA
