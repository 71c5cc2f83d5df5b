/-! ===== what a race asks for; what it leaves alike ===== -/
theorem L_OT_haveSpots_2_s (x1 : Int32) (F : Nat) (v1 : Int32) (m1 : gM) : L_OT_haveSpots_2 x1 (F + 1) v1 m1 = (if v1 < x1 then (gok (gib v1 6) ((f_OT_hasCell (grd m1 33 v1) m1).bind fun (r1 : Int32 × gM) => if r1.1 = 0 then (some (0, r1.2)) else ((L_OT_haveSpots_2 x1 F) (v1 + 1) r1.2))) else (some (1, m1))) := rfl
theorem L_MO_haveSpots_4_s (x1 : Int32) (F : Nat) (v1 : Int32) (v2 : Int32) (m1 : gM) : L_MO_haveSpots_4 x1 (F + 1) v1 v2 m1 = (if v2 < x1 then (if v1 = 0 then (J_MO_haveSpots_30 (L_MO_haveSpots_4 x1 F) v1 v2 m1) else (gok (gib v2 6) ((f_MO_isCell (grd m1 104 v2) m1).bind fun (r1 : Int32 × gM) => if r1.1 = 0 then (J_MO_haveSpots_30 (L_MO_haveSpots_4 x1 F) v1 v2 r1.2) else (J_MO_haveSpots_31 (L_MO_haveSpots_4 x1 F) v1 v2 1 r1.2)))) else (gzo v1 (some (v1, m1)))) := rfl
theorem Inv.race {n K : Nat} {N N' : gN} (H : Inv n K N) (r : ∀ p q, p < 54 ∨ 72 ≤ p → ¬ (105 ≤ p ∧ p ≤ 111) → p ≠ 123 → p ≠ 124 → ¬ (p = 81 ∧ (q = 58 ∨ q = 59)) → N' p q = N p q) (r3 : ∀ q, q < 5400 → N' 123 q = N 123 q) : Inv n K N' := by
  obtain ⟨hF, hP, hT, hL, hS, hK⟩ := H
  have e : ∀ p, (p < 54 ∨ 72 ≤ p) → ¬ (105 ≤ p ∧ p ≤ 111) → p ≠ 123 → p ≠ 124 → p ≠ 81 → N' p = N p := fun p h1 h2 h3 h4 h5 => funext fun q => r p q h1 h2 h3 h4 (fun z => h5 z.1)
  have e81 : ∀ q, q ≠ 58 → q ≠ 59 → N' 81 q = N 81 q := fun q h1 h2 => r 81 q (by omega) (by omega) (by omega) (by omega) (by omega)
  refine ⟨?_, ?_, ?_, ?_, ?_, ?_⟩
  · obtain ⟨v1, v2⟩ := fvL_cong2 (N := N) (N' := N') (fun q h1 h2 => e q (by omega) (by omega) (by omega) (by omega) (by omega)) ⟨e81 0 (by decide) (by decide), e81 1 (by decide) (by decide), e81 2 (by decide) (by decide), e81 10 (by decide) (by decide), e81 15 (by decide) (by decide)⟩
    exact FRel.cong v1 v2 (FRel.blk (fun j hj => e (1 + j) (by omega) (by omega) (by omega) (by omega) (by omega)) hF)
  · unfold GPers at hP ⊢
    rw [e 0 (by omega) (by omega) (by omega) (by omega) (by omega), e81 8 (by decide) (by decide), e 33 (by omega) (by omega) (by omega) (by omega) (by omega), e 104 (by omega) (by omega) (by omega) (by omega) (by omega)]
    exact hP
  · unfold GTape at hT ⊢
    rw [e 34 (by omega) (by omega) (by omega) (by omega) (by omega), e81 37 (by decide) (by decide), e81 38 (by decide) (by decide), e 35 (by omega) (by omega) (by omega) (by omega) (by omega), e 112 (by omega) (by omega) (by omega) (by omega) (by omega), e 113 (by omega) (by omega) (by omega) (by omega) (by omega), e 114 (by omega) (by omega) (by omega) (by omega) (by omega), e 115 (by omega) (by omega) (by omega) (by omega) (by omega)]
    exact hT
  · unfold GLaw at hL ⊢
    rw [e 41 (by omega) (by omega) (by omega) (by omega) (by omega), e81 48 (by decide) (by decide), e 42 (by omega) (by omega) (by omega) (by omega) (by omega), e 43 (by omega) (by omega) (by omega) (by omega) (by omega), e 44 (by omega) (by omega) (by omega) (by omega) (by omega), e 45 (by omega) (by omega) (by omega) (by omega) (by omega), e 116 (by omega) (by omega) (by omega) (by omega) (by omega), e 117 (by omega) (by omega) (by omega) (by omega) (by omega), e 118 (by omega) (by omega) (by omega) (by omega) (by omega), e 119 (by omega) (by omega) (by omega) (by omega) (by omega), e 40 (by omega) (by omega) (by omega) (by omega) (by omega)]
    exact hL
  · have g : ∀ k, k < 4 → GSheet N k → GSheet N' k := by
      intro k hk h
      unfold GSheet at h ⊢
      rw [e (73 + 2 * k) (by omega) (by omega) (by omega) (by omega) (by omega), e 125 (by omega) (by omega) (by omega) (by omega) (by omega), e 126 (by omega) (by omega) (by omega) (by omega) (by omega), e (74 + 2 * k) (by omega) (by omega) (by omega) (by omega) (by omega), e 127 (by omega) (by omega) (by omega) (by omega) (by omega)]
      exact h
    exact ⟨g 0 (by decide) hS.1, g 1 (by decide) hS.2.1, g 2 (by decide) hS.2.2.1, g 3 (by decide) hS.2.2.2⟩
  · have hK3 := hK.1
    refine GKept.of hK3 ?_ ?_ (fun j hj => ?_)
    · rw [e 0 (by omega) (by omega) (by omega) (by omega) (by omega)]; exact hK.2.1
    · rw [e81 60 (by decide) (by decide)]; exact hK.2.2.1
    · obtain ⟨v1, v2⟩ := fvP_same (N := N) (N' := N') (j := j) (fun o ho => r3 _ (by omega))
      exact FRel.cong v1 v2 (FRel.blk (fun t ht => e (128 + 31 * j + t) (by omega) (by omega) (by omega) (by omega) (by omega)) (hK.at hj))
/-- a race's numbers, as both sides check them -/
theorem race_cases (x1 x2 x3 x4 : Int32) {np : Nat} (hnp : np ≤ 6) : ((∀ m : gM, m.1 0 3 = nI np → f_OT_isRace x1 x2 x3 x4 m = some (0, m)) ∧ ∀ m : gM, m.1 81 8 = nI np → f_MO_isRace x1 x2 x3 x4 m = some (0, m)) ∨ ∃ n v c H : Nat, x1 = nI n ∧ x2 = nI v ∧ x3 = nI c ∧ x4 = nI H ∧ 1 ≤ n ∧ n ≤ 4 ∧ n ≤ np ∧ v ≤ 60 ∧ c ≤ 999 ∧ 1 ≤ H ∧ H ≤ 24 ∧ (∀ m : gM, m.1 0 3 = nI np → f_OT_isRace x1 x2 x3 x4 m = some (1, m)) ∧ ∀ m : gM, m.1 81 8 = nI np → f_MO_isRace x1 x2 x3 x4 m = some (1, m) := by
  have b1 : ∀ m : gM, f_MO_in x1.toInt64 (Int32.toInt64 1) (Int32.toInt64 4) m = some (if x1 < 1 then 0 else if nI 4 < x1 then 0 else 1, m) := fun m => one_in (x := x1) (n := 4) (by omega) m
  have b4 : ∀ m : gM, f_MO_in x4.toInt64 (Int32.toInt64 1) (Int32.toInt64 24) m = some (if x4 < 1 then 0 else if nI 24 < x4 then 0 else 1, m) := fun m => one_in (x := x4) (n := 24) (by omega) m
  have a2 : ∀ m : gM, f_OT_within x2 60 m = _ := fun m => ot_within (x := x2) (n := 60) (by omega) m
  have a3 : ∀ m : gM, f_OT_within x3 999 m = _ := fun m => ot_within (x := x3) (n := 999) (by omega) m
  have b2 : ∀ m : gM, f_MO_in x2.toInt64 (Int32.toInt64 0) (Int32.toInt64 60) m = _ := fun m => mo_in_n (x := x2) (n := 60) (by omega) m
  have b3 : ∀ m : gM, f_MO_in x3.toInt64 (Int32.toInt64 0) (Int32.toInt64 999) m = _ := fun m => mo_in_n (x := x3) (n := 999) (by omega) m
  unfold f_OT_isRace f_MO_isRace
  rcases one_to (x := x1) (n := 4) (by omega) with hz | ⟨n, hn1, hn2, rfl⟩
  · refine Or.inl ⟨fun m _ => ?_, fun m _ => ?_⟩
    · rcases hz with hz | hz
      · rw [if_pos hz]
      · by_cases h1 : x1 < 1
        · rw [if_pos h1]
        · rw [if_neg h1, if_pos (show (4 : Int32) < x1 from hz)]
    · rw [b1, gbind_eq]
      dsimp only
      rcases hz with hz | hz
      · rw [if_pos hz]; rfl
      · by_cases h1 : x1 < 1
        · rw [if_pos h1]; rfl
        · rw [if_neg h1, if_pos hz]; rfl
  have n1 : ¬ nI n < 1 := nI_nlt (a := n) (b := 1) hn1 (by omega)
  have n2 : ¬ nI 4 < nI n := nI_nlt hn2 (by omega)
  have n3 : ¬ (4 : Int32) < nI n := n2
  by_cases hnn : np < n
  · refine Or.inl ⟨fun m e => ?_, fun m e => ?_⟩
    · have := nI_lt hnn (by omega)
      simp (disch := omega) only [gfd_eq, glet_eq, gbind_eq, nI_ltI, nI_1, gok_nI, grd_nI, nI_clamp, if_true, if_false, Nat.lt_irrefl, n1, n3, e, this, i10, gokT]
    · have := nI_lt hnn (by omega)
      simp (disch := omega) only [gfd_eq, glet_eq, gbind_eq, nI_ltI, nI_1, gok_nI, grd_nI, nI_clamp, if_true, if_false, Nat.lt_irrefl, b1, n1, n2, e, this, i10, gokT]
  have n4 : ¬ nI np < nI n := nI_nlt (by omega) (by omega)
  rcases gib_cases x2 61 with hg | ⟨v, hv, rfl, hv2⟩
  · refine Or.inl ⟨fun m e => ?_, fun m e => ?_⟩
    · simp (disch := omega) only [gfd_eq, glet_eq, gbind_eq, nI_ltI, nI_1, gok_nI, grd_nI, nI_clamp, if_true, if_false, Nat.lt_irrefl, n1, n3, e, n4, a2, hg, Bool.false_eq_true, i10, gokT]
    · simp (disch := omega) only [gfd_eq, glet_eq, gbind_eq, nI_ltI, nI_1, gok_nI, grd_nI, nI_clamp, if_true, if_false, Nat.lt_irrefl, b1, n1, n2, e, n4, b2, hg, Bool.false_eq_true, i10, gokT]
  have hgv := gib_iff.mpr ⟨v, hv, rfl, hv2⟩
  rcases gib_cases x3 1000 with hg | ⟨c, hc, rfl, hc2⟩
  · refine Or.inl ⟨fun m e => ?_, fun m e => ?_⟩
    · simp (disch := omega) only [gfd_eq, glet_eq, gbind_eq, nI_ltI, nI_1, gok_nI, grd_nI, nI_clamp, if_true, if_false, Nat.lt_irrefl, n1, n3, e, n4, a2, hgv, a3, hg, Bool.false_eq_true, i10, gokT]
    · simp (disch := omega) only [gfd_eq, glet_eq, gbind_eq, nI_ltI, nI_1, gok_nI, grd_nI, nI_clamp, if_true, if_false, Nat.lt_irrefl, b1, n1, n2, e, n4, b2, hgv, b3, hg, Bool.false_eq_true, i10, gokT]
  have hgc := gib_iff.mpr ⟨c, hc, rfl, hc2⟩
  rcases one_to (x := x4) (n := 24) (by omega) with hz | ⟨H, hH1, hH2, rfl⟩
  · refine Or.inl ⟨fun m e => ?_, fun m e => ?_⟩
    · simp (disch := omega) only [gfd_eq, glet_eq, gbind_eq, nI_ltI, nI_1, gok_nI, grd_nI, nI_clamp, if_true, if_false, Nat.lt_irrefl, n1, n3, e, n4, a2, hgv, a3, hgc, i10, gokT]
      rcases hz with hz | hz
      · rw [if_pos hz]
      · by_cases h1 : x4 < 1
        · rw [if_pos h1]
        · rw [if_neg h1, if_pos (show (24 : Int32) < x4 from hz)]
    · simp (disch := omega) only [gfd_eq, glet_eq, gbind_eq, nI_ltI, nI_1, gok_nI, grd_nI, nI_clamp, if_true, if_false, Nat.lt_irrefl, b1, n1, n2, e, n4, b2, hgv, b3, hgc, b4, i10, gokT]
      rcases hz with hz | hz
      · rw [if_pos hz]; rfl
      · by_cases h1 : x4 < 1
        · rw [if_pos h1]; rfl
        · rw [if_neg h1, if_pos hz]; rfl
  have h1 : ¬ nI H < 1 := nI_nlt (a := H) (b := 1) hH1 (by omega)
  have h2 : ¬ nI 24 < nI H := nI_nlt hH2 (by omega)
  have h3 : ¬ (24 : Int32) < nI H := h2
  refine Or.inr ⟨n, v, c, H, rfl, rfl, rfl, rfl, hn1, hn2, by omega, by omega, by omega, hH1, hH2, fun m e => ?_, fun m e => ?_⟩
  · simp (disch := omega) only [gfd_eq, glet_eq, gbind_eq, nI_ltI, nI_1, gok_nI, grd_nI, nI_clamp, if_true, if_false, Nat.lt_irrefl, n1, n3, e, n4, a2, hgv, a3, hgc, h1, h3, i10, gokT]
  · simp (disch := omega) only [gfd_eq, glet_eq, gbind_eq, nI_ltI, nI_1, gok_nI, grd_nI, nI_clamp, if_true, if_false, Nat.lt_irrefl, b1, n1, n2, e, n4, b2, hgv, b3, hgc, b4, h1, h2, i10, gokT]
/-- have the racers their spots? -/
theorem cl_have1 {n k : Nat} {m : gM} (hk : k < 2 ^ 31) (h2 : m.1 3 2 = nI k) (hn : n ≤ 4) (hv : ∀ p, p < n → gib (m.1 33 p) k = true) : ∀ (r p F : Nat), p + r = n → r < F → L_OT_haveSpots_2 (nI n) F (nI p) m = some (1, m) := by
  intro r
  induction r with
  | zero =>
    intro p F hp hF
    obtain ⟨F, rfl⟩ : ∃ F', F = F' + 1 := ⟨F - 1, by omega⟩
    have e : p = n := by omega
    subst e
    rw [L_OT_haveSpots_2_s]
    simp (disch := omega) only [gfd_eq, glet_eq, gbind_eq, nI_ltI, nI_1, gok_nI, grd_nI, nI_clamp, if_true, if_false, Nat.lt_irrefl, i10, gokT]
  | succ r ih =>
    intro p F hp hF
    obtain ⟨F, rfl⟩ : ∃ F', F = F' + 1 := ⟨F - 1, by omega⟩
    have hpn : p < n := by omega
    have c := ot_hasCell (x := m.1 33 p) hk h2
    rw [hv p hpn] at c
    rw [L_OT_haveSpots_2_s]
    simp (disch := omega) only [gfd_eq, glet_eq, gbind_eq, nI_ltI, nI_1, gok_nI, grd_nI, nI_clamp, if_true, if_false, Nat.lt_irrefl, hpn, c, i10, gokT]
    exact ih (p + 1) F (by omega) (by omega)
theorem cl_have0 {n k : Nat} {m : gM} (hk : k < 2 ^ 31) (h2 : m.1 3 2 = nI k) (hn : n ≤ 4) {b : Nat} (hb : b < n) (hv : gib (m.1 33 b) k = false) : ∀ (r p F : Nat), p + r = n → p ≤ b → r < F → L_OT_haveSpots_2 (nI n) F (nI p) m = some (0, m) := by
  intro r
  induction r with
  | zero => intro p F hp h1; omega
  | succ r ih =>
    intro p F hp h1 hF
    obtain ⟨F, rfl⟩ : ∃ F', F = F' + 1 := ⟨F - 1, by omega⟩
    have hpn : p < n := by omega
    have c := ot_hasCell (x := m.1 33 p) hk h2
    rw [L_OT_haveSpots_2_s]
    cases hg : gib (m.1 33 p) k with
    | false =>
      rw [hg] at c
      simp (disch := omega) only [gfd_eq, glet_eq, gbind_eq, nI_ltI, nI_1, gok_nI, grd_nI, nI_clamp, if_true, if_false, Nat.lt_irrefl, hpn, c, Bool.false_eq_true, i10, gokT]
    | true =>
      have hne : p ≠ b := fun z => by rw [z, hv] at hg; cases hg
      rw [hg] at c
      simp (disch := omega) only [gfd_eq, glet_eq, gbind_eq, nI_ltI, nI_1, gok_nI, grd_nI, nI_clamp, if_true, if_false, Nat.lt_irrefl, hpn, c, i10, gokT]
      exact ih (p + 1) F (by omega) (by omega) (by omega)
theorem mo_have1 {n w h : Nat} {m : gM} (x0 : m.1 81 0 = nI w) (x1 : m.1 81 1 = nI h) (hk : w * h < 2 ^ 31) (hn : n ≤ 4) (hv : ∀ p, p < n → gib (m.1 104 p) (w * h) = true) : ∀ (r p F : Nat), p + r = n → r < F → L_MO_haveSpots_4 (nI n) F 1 (nI p) m = some (1, m) := by
  intro r
  induction r with
  | zero =>
    intro p F hp hF
    obtain ⟨F, rfl⟩ : ∃ F', F = F' + 1 := ⟨F - 1, by omega⟩
    have e : p = n := by omega
    subst e
    rw [L_MO_haveSpots_4_s]
    simp (disch := omega) only [gfd_eq, glet_eq, gbind_eq, nI_ltI, nI_1, gok_nI, grd_nI, nI_clamp, if_true, if_false, Nat.lt_irrefl, gzo_t (Or.inr rfl), i10, gokT]
  | succ r ih =>
    intro p F hp hF
    obtain ⟨F, rfl⟩ : ∃ F', F = F' + 1 := ⟨F - 1, by omega⟩
    have hpn : p < n := by omega
    have c := mo_isCell (x := m.1 104 p) x0 x1 hk
    rw [hv p hpn] at c
    rw [L_MO_haveSpots_4_s]
    unfold J_MO_haveSpots_31
    simp (disch := omega) only [gfd_eq, glet_eq, gbind_eq, nI_ltI, nI_1, gok_nI, grd_nI, nI_clamp, if_true, if_false, Nat.lt_irrefl, hpn, c, i10, gokT]
    exact ih (p + 1) F (by omega) (by omega)
theorem mo_have00 {n : Nat} {m : gM} (hn : n ≤ 4) : ∀ (r p F : Nat), p + r = n → r < F → L_MO_haveSpots_4 (nI n) F 0 (nI p) m = some (0, m) := by
  intro r
  induction r with
  | zero =>
    intro p F hp hF
    obtain ⟨F, rfl⟩ : ∃ F', F = F' + 1 := ⟨F - 1, by omega⟩
    have e : p = n := by omega
    subst e
    rw [L_MO_haveSpots_4_s]
    simp (disch := omega) only [gfd_eq, glet_eq, gbind_eq, nI_ltI, nI_1, gok_nI, grd_nI, nI_clamp, if_true, if_false, Nat.lt_irrefl, gzo_t (Or.inl rfl), i10, gokT]
  | succ r ih =>
    intro p F hp hF
    obtain ⟨F, rfl⟩ : ∃ F', F = F' + 1 := ⟨F - 1, by omega⟩
    have hpn : p < n := by omega
    rw [L_MO_haveSpots_4_s]
    unfold J_MO_haveSpots_30 J_MO_haveSpots_31
    simp (disch := omega) only [gfd_eq, glet_eq, gbind_eq, nI_ltI, nI_1, gok_nI, grd_nI, nI_clamp, if_true, if_false, Nat.lt_irrefl, hpn, i10, gokT]
    exact ih (p + 1) F (by omega) (by omega)
theorem mo_have0 {n w h : Nat} {m : gM} (x0 : m.1 81 0 = nI w) (x1 : m.1 81 1 = nI h) (hk : w * h < 2 ^ 31) (hn : n ≤ 4) {b : Nat} (hb : b < n) (hv : gib (m.1 104 b) (w * h) = false) : ∀ (r p F : Nat), p + r = n → p ≤ b → r < F → L_MO_haveSpots_4 (nI n) F 1 (nI p) m = some (0, m) := by
  intro r
  induction r with
  | zero => intro p F hp h1; omega
  | succ r ih =>
    intro p F hp h1 hF
    obtain ⟨F, rfl⟩ : ∃ F', F = F' + 1 := ⟨F - 1, by omega⟩
    have hpn : p < n := by omega
    have c := mo_isCell (x := m.1 104 p) x0 x1 hk
    rw [L_MO_haveSpots_4_s]
    cases hg : gib (m.1 104 p) (w * h) with
    | false =>
      rw [hg] at c
      unfold J_MO_haveSpots_30 J_MO_haveSpots_31
      simp (disch := omega) only [gfd_eq, glet_eq, gbind_eq, nI_ltI, nI_1, gok_nI, grd_nI, nI_clamp, if_true, if_false, Nat.lt_irrefl, hpn, c, Bool.false_eq_true, i10, gokT]
      exact mo_have00 hn r (p + 1) F (by omega) (by omega)
    | true =>
      have hne : p ≠ b := fun z => by rw [z, hv] at hg; cases hg
      rw [hg] at c
      unfold J_MO_haveSpots_31
      simp (disch := omega) only [gfd_eq, glet_eq, gbind_eq, nI_ltI, nI_1, gok_nI, grd_nI, nI_clamp, if_true, if_false, Nat.lt_irrefl, hpn, c, i10, gokT]
      exact ih (p + 1) F (by omega) (by omega) (by omega)
