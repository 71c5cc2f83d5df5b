/-! ===== keep and stand, whole ===== -/
theorem GKept.at {n K : Nat} {N : gN} (H : GKept n K N) {j : Nat} (hj : j < K) : FRel n (fun t => N (128 + 31 * j + t)) (fvP N j) := by
  have h3 := H.1
  match j, hj with
  | 0, hj => exact H.2.2.2.1 hj
  | 1, hj => exact H.2.2.2.2.1 hj
  | 2, hj => exact H.2.2.2.2.2 hj
  | j + 3, hj => omega
theorem GKept.of {n K : Nat} {N : gN} (h3 : K ≤ 3) (h0 : N 0 2 = nI K) (h1 : N 81 60 = nI K) (h : ∀ j, j < K → FRel n (fun t => N (128 + 31 * j + t)) (fvP N j)) : GKept n K N :=
  ⟨h3, h0, h1, fun z => h 0 z, fun z => h 1 z, fun z => h 2 z⟩
theorem Inv.back {n K K' : Nat} {N N' : gN} (H : Inv n K N) (r : ∀ q, (32 ≤ q ∧ q < 81) ∨ (104 ≤ q ∧ q < 123) ∨ (124 ≤ q ∧ q < 128) → N' q = N q) (h03 : N' 0 3 = N 0 3) (h81 : ∀ q, q ≠ 0 ∧ q ≠ 1 ∧ q ≠ 2 ∧ q ≠ 10 ∧ q ≠ 15 ∧ q ≠ 58 ∧ q ≠ 59 ∧ q ≠ 60 → N' 81 q = N 81 q) (hF : FRel n (fun j => N' (1 + j)) (fvL N')) (hK : GKept n K' N') : Inv n K' N' := by
  obtain ⟨-, hP, hT, hL, hS, -⟩ := H
  refine ⟨hF, ?_, ?_, ?_, ?_, hK⟩
  · unfold GPers at hP ⊢
    rw [h03, h81 8 (by omega), r 33 (by omega), r 104 (by omega)]
    exact hP
  · unfold GTape at hT ⊢
    rw [r 34 (by omega), h81 37 (by omega), h81 38 (by omega), r 35 (by omega), r 112 (by omega), r 113 (by omega), r 114 (by omega), r 115 (by omega)]
    exact hT
  · unfold GLaw at hL ⊢
    rw [r 41 (by omega), h81 48 (by omega), r 42 (by omega), r 43 (by omega), r 44 (by omega), r 45 (by omega), r 116 (by omega), r 117 (by omega), r 118 (by omega), r 119 (by omega), r 40 (by omega)]
    exact hL
  · have g : ∀ k, k < 4 → GSheet N k → GSheet N' k := by
      intro k hk h
      unfold GSheet at h ⊢
      rw [r (73 + 2 * k) (by omega), r 125 (by omega), r 126 (by omega), r (74 + 2 * k) (by omega), r 127 (by omega)]
      exact h
    exact ⟨g 0 (by decide) hS.1, g 1 (by decide) hS.2.1, g 2 (by decide) hS.2.2.1, g 3 (by decide) hS.2.2.2⟩
theorem fvL_cong2 {N N' : gN} (h : ∀ q, 82 ≤ q → q < 104 → N' q = N q) (h81 : N' 81 0 = N 81 0 ∧ N' 81 1 = N 81 1 ∧ N' 81 2 = N 81 2 ∧ N' 81 10 = N 81 10 ∧ N' 81 15 = N 81 15) : (∀ sel, sel < 22 → fvL N' sel = fvL N sel) ∧ ∀ i, i < 5 → fvL N' 22 i = fvL N 22 i := by
  constructor
  · intro sel hs
    have := fvRow_lt hs
    rw [fvL_row N hs, fvL_row N' hs, h _ this.1 this.2]
  · intro i hi
    match i, hi with
    | 0, _ => exact h81.1
    | 1, _ => exact h81.2.1
    | 2, _ => exact h81.2.2.1
    | 3, _ => exact h81.2.2.2.1
    | 4, _ => exact h81.2.2.2.2
    | i + 5, h => omega
theorem keep_inv {n K : Nat} {N N1 : gN} (I : Inv n K N) (hK : K < 3) (h1 : ∀ id q, id < 128 + 31 * K → N1 id q = if id = 0 ∧ q = 2 then nI (K + 1) else N id q) (hC : ∀ L L', gCopied (N, L) (N1, L') (128 + 31 * K)) : Inv (n + 1) (K + 1) (gup (tuP (pgN N1 K 1) K 1647) 81 60 (nI (K + 1))) := by
  have H := I.mono (Nat.le_succ n)
  have e0 : ∀ p q, p ≠ 81 → p ≠ 123 → gup (tuP (pgN N1 K 1) K 1647) 81 60 (nI (K + 1)) p q = N1 p q := by
    intro p q h1 h2
    rw [gup_row h1, tuP_at _ _ h2 (fun z => h1 z.1)]
    unfold pgN
    rw [gup_row h1, gup_row h1]
  have e1 : ∀ p, p ≠ 0 → p ≠ 81 → p ≠ 123 → p < 128 + 31 * K → gup (tuP (pgN N1 K 1) K 1647) 81 60 (nI (K + 1)) p = N p := by
    intro p h0 h2 h3 h4
    funext q
    rw [e0 p q h2 h3, h1 p q h4, if_neg (fun z => h0 z.1)]
  have e81 : ∀ q, q ≠ 58 → q ≠ 59 → q ≠ 60 → gup (tuP (pgN N1 K 1) K 1647) 81 60 (nI (K + 1)) 81 q = N 81 q := by
    intro q h2 h3 h4
    rw [gup_col h4, tuP_at _ _ (by decide) (fun z => h2 z.2)]
    unfold pgN
    rw [gup_col h3, gup_col h2, h1 81 q (by omega), if_neg (by omega)]
  have e60 : gup (tuP (pgN N1 K 1) K 1647) 81 60 (nI (K + 1)) 81 60 = nI (K + 1) := gup_at _ _ _ _
  have e02 : ∀ q, gup (tuP (pgN N1 K 1) K 1647) 81 60 (nI (K + 1)) 0 q = if q = 2 then nI (K + 1) else N 0 q := by
    intro q
    rw [e0 0 q (by decide) (by decide), h1 0 q (by omega)]
    simp only [true_and]
  have ep : ∀ o, o < 1647 → gup (tuP (pgN N1 K 1) K 1647) 81 60 (nI (K + 1)) 123 (1800 * K + o) = N (pgRow o) (pgIdx o) := by
    intro o ho
    obtain ⟨r1, r2, r3⟩ := pgRow_lt ho
    rw [gup_row (by decide), tuP_pg _ _ ho]
    unfold pgN
    rw [gup_all, gup_all, if_neg (fun z => (r3 z.1).2 z.2), if_neg (fun z => (r3 z.1).1 z.2), h1 _ _ (by omega), if_neg (by omega)]
  have eo : ∀ j o, j ≠ K → o < 1647 → gup (tuP (pgN N1 K 1) K 1647) 81 60 (nI (K + 1)) 123 (1800 * j + o) = N 123 (1800 * j + o) := by
    intro j o hj ho
    rw [gup_row (by decide), tuP_other _ hj ho]
    unfold pgN
    rw [gup_row (by decide), gup_row (by decide), h1 _ _ (by omega), if_neg (by omega)]
  have eB : ∀ t q, t < 31 → gup (tuP (pgN N1 K 1) K 1647) 81 60 (nI (K + 1)) (128 + 31 * K + t) q = N1 (128 + 31 * K + t) q := fun t q ht => e0 _ q (by omega) (by omega)
  generalize gup (tuP (pgN N1 K 1) K 1647) 81 60 (nI (K + 1)) = N2 at e1 e81 e60 e02 ep eo eB ⊢
  refine H.back (fun q hq => e1 q (by omega) (by omega) (by omega) (by omega)) ((e02 3).trans (if_neg (by decide))) (fun q hq => e81 q hq.2.2.2.2.2.1 hq.2.2.2.2.2.2.1 hq.2.2.2.2.2.2.2) ?_ (GKept.of (by omega) ((e02 2).trans (if_pos rfl)) e60 fun j hj => ?_)
  · obtain ⟨v1, v2⟩ := fvL_cong2 (N := N) (N' := N2) (fun q h1 h2 => e1 q (by omega) (by omega) (by omega) (by omega)) ⟨e81 0 (by decide) (by decide) (by decide), e81 1 (by decide) (by decide) (by decide), e81 2 (by decide) (by decide) (by decide), e81 10 (by decide) (by decide) (by decide), e81 15 (by decide) (by decide) (by decide)⟩
    exact FRel.cong v1 v2 (FRel.blk (fun j hj => e1 _ (by omega) (by omega) (by omega) (by omega)) H.1)
  · by_cases hjK : j = K
    · subst hjK
      obtain ⟨g1, g2, g3, g4, g5, g6, g7, g8, g9, g10, g11, g12, g13, g14, g15, g16, g17, g18, g19, g20, g21, g22, g23, g24, g25, g26, g27, g28, g29⟩ := hC (fun _ _ => 0) (fun _ _ => 0)
      obtain ⟨v1, v2⟩ := fvP_of (N := N) (M := N2) (k := j) ep
      refine FRel.copy H.1 ?_ (fun q hq => ?_) ?_ ?_ (fun i hi q => ?_) ⟨fun q hq => ⟨?_, ?_⟩, fun q hq => ⟨?_, ?_⟩, fun q hq => ?_, fun q hq => ?_⟩ v1 v2
      · exact (eB 0 4 (by omega)).trans g1
      · exact (eB 2 q (by omega)).trans (g2 q hq)
      · exact (eB 11 1 (by omega)).trans g3
      · exact (eB 17 0 (by omega)).trans g4
      · unfold cWhole at hi
        have hi31 : i < 31 := by omega
        rw [eB i q hi31]
        match i, hi with
        | 5, _ => exact g7 q
        | 6, _ => exact g8 q
        | 7, _ => exact g9 q
        | 8, _ => exact g10 q
        | 9, _ => exact g11 q
        | 10, _ => exact g12 q
        | 12, _ => exact g13 q
        | 13, _ => exact g14 q
        | 14, _ => exact g15 q
        | 15, _ => exact g16 q
        | 16, _ => exact g17 q
        | 18, _ => exact g18 q
        | 19, _ => exact g19 q
        | 20, _ => exact g20 q
        | 21, _ => exact g21 q
        | 27, _ => exact g26 q
        | 28, _ => exact g27 q
        | 29, _ => exact g28 q
        | 30, _ => exact g29 q
        | 0, h => omega
        | 1, h => omega
        | 2, h => omega
        | 3, h => omega
        | 4, h => omega
        | 11, h => omega
        | 17, h => omega
        | 22, h => omega
        | 23, h => omega
        | 24, h => omega
        | 25, h => omega
        | 26, h => omega
        | i + 31, h => omega
      · exact (eB 3 q (by omega)).trans ((g5 q).trans (if_pos hq))
      · exact (eB 4 q (by omega)).trans ((g6 q).trans (if_pos hq))
      · exact (eB 22 q (by omega)).trans ((g22 q).trans (if_pos hq))
      · exact (eB 23 q (by omega)).trans ((g23 q).trans (if_pos hq))
      · exact (eB 24 q (by omega)).trans ((g24 q).trans (if_pos hq))
      · exact (eB 25 q (by omega)).trans ((g25 q).trans (if_pos hq))
    · obtain ⟨v1, v2⟩ := fvP_same (N := N) (N' := N2) (j := j) (fun o ho => eo j o hjK ho)
      exact FRel.cong v1 v2 (FRel.blk (fun t ht => e1 _ (by omega) (by omega) (by omega) (by omega)) (H.2.2.2.2.2.at (by omega)))
theorem tuG_no (N : gN) (k : Nat) {p q : Nat} (h : pgOff p q = 5000) (h2 : ¬ (p = 81 ∧ q = 58)) : tuG N k 1647 p q = N p q := by
  unfold tuG
  rw [if_neg (by omega), if_neg h2]
theorem tuG_yes (N : gN) (k : Nat) {p q : Nat} (h : pgOff p q < 1647) : tuG N k 1647 p q = N 123 (1800 * k + pgOff p q) := by
  unfold tuG
  rw [if_pos h]
/-- the field that is now, taken from a page -/
theorem fvL_back {N M : gN} {k : Nat} (hM : M = tuG (pgN N k 0) k 1647) (z : ∀ sel i, sel < 22 → fvZ sel ≤ i → fvL N sel i = 0) : (∀ sel i, sel < 22 → fvL M sel i = if i < fvLen sel then fvP N k sel i else 0) ∧ ∀ i, i < 5 → fvL M 22 i = fvP N k 22 i := by
  have hzl : ∀ sel, sel < 22 → fvZ sel ≤ fvLen sel := by decide
  have e123 : ∀ o, pgN N k 0 123 o = N 123 o := fun o => by
    unfold pgN
    rw [gup_row (by decide), gup_row (by decide)]
  subst hM
  constructor
  · intro sel i hs
    rw [fvL_row _ hs]
    by_cases hi : i < fvLen sel
    · rw [if_pos hi]
      obtain ⟨e1, e2⟩ := (pg_fv hs).1 hi
      rw [tuG_yes _ _ (by rw [e1]; exact e2), e1, e123]
      unfold fvP
      rw [if_pos hi]
    · rw [if_neg hi]
      have hr := fvRow_lt hs
      rw [tuG_no _ _ ((pg_fv hs).2 (by omega)) (by omega)]
      unfold pgN
      rw [gup_row (by omega), gup_row (by omega), ← fvL_row N hs]
      exact z sel i hs (Nat.le_trans (hzl sel hs) (by omega))
  · intro i hi
    show _ = if i < 5 then N 123 (1800 * k + fvOff 22 i) else 0
    rw [if_pos hi]
    have p := pg_81
    match i, hi with
    | 0, _ =>
      show tuG (pgN N k 0) k 1647 81 0 = _
      rw [tuG_yes _ _ (by rw [p.1]; omega), p.1, e123]; rfl
    | 1, _ =>
      show tuG (pgN N k 0) k 1647 81 1 = _
      rw [tuG_yes _ _ (by rw [p.2.1]; omega), p.2.1, e123]; rfl
    | 2, _ =>
      show tuG (pgN N k 0) k 1647 81 2 = _
      rw [tuG_yes _ _ (by rw [p.2.2.1]; omega), p.2.2.1, e123]; rfl
    | 3, _ =>
      show tuG (pgN N k 0) k 1647 81 10 = _
      rw [tuG_yes _ _ (by rw [p.2.2.2.1]; omega), p.2.2.2.1, e123]; rfl
    | 4, _ =>
      show tuG (pgN N k 0) k 1647 81 15 = _
      rw [tuG_yes _ _ (by rw [p.2.2.2.2]; omega), p.2.2.2.2, e123]; rfl
    | i + 5, h => omega
theorem FRel.zero {n : Nat} {C V : gN} (H : FRel n C V) : ∀ sel i, sel < 22 → fvZ sel ≤ i → V sel i = 0 := by
  obtain ⟨w, h9, hr, le, we, sd, gs, wt, ol, wp, wc, ww, wo, ws, a1, a2, a3, a4, a5, a6, a7, a8, a9, b1, b2, b3, b4, b5, b6, b7⟩ := H
  exact b7
theorem stand_inv {n K k : Nat} {m : gM} (I : Inv n K m.1) (hk : k < K) : Inv (n + 1) K (tuG (pgN (gTcp m 1 (128 + 31 * k)).1 k 0) k 1647) := by
  have H := I.mono (Nat.le_succ n)
  have hK3 := H.2.2.2.2.2.1
  have f0 : ∀ p, p = 0 ∨ 32 ≤ p → (gTcp m 1 (128 + 31 * k)).1 p = m.1 p := fun p hp => funext fun q => gTcp_far m 1 (128 + 31 * k) p q (by omega)
  have r81 : ∀ q, q ≠ 0 ∧ q ≠ 1 ∧ q ≠ 2 ∧ q ≠ 10 ∧ q ≠ 15 → q ≠ 58 → q ≠ 59 → tuG (pgN (gTcp m 1 (128 + 31 * k)).1 k 0) k 1647 81 q = m.1 81 q := by
    intro q h1 h2 h3
    rw [tuG_no _ _ (pg_no (Or.inr (Or.inr (by omega)))) (fun z => h2 z.2)]
    unfold pgN
    rw [gup_col h3, gup_col h2, f0 81 (by omega)]
  have ro : ∀ p, p < 81 ∨ 104 ≤ p → tuG (pgN (gTcp m 1 (128 + 31 * k)).1 k 0) k 1647 p = (gTcp m 1 (128 + 31 * k)).1 p := by
    intro p hp
    funext q
    rw [tuG_no _ _ (pg_no (by omega)) (by omega)]
    unfold pgN
    rw [gup_row (by omega), gup_row (by omega)]
  have hV := fvL_back (N := (gTcp m 1 (128 + 31 * k)).1) (k := k) rfl (by
    have : fvL (gTcp m 1 (128 + 31 * k)).1 = fvL m.1 := fvL_cong (fun q h1 h2 => f0 q (by omega))
    rw [this]
    exact H.1.zero)
  have hP : fvP (gTcp m 1 (128 + 31 * k)).1 k = fvP m.1 k := by
    unfold fvP
    rw [f0 123 (by omega)]
  rw [hP] at hV
  generalize tuG (pgN (gTcp m 1 (128 + 31 * k)).1 k 0) k 1647 = N2 at r81 ro hV ⊢
  have rr : ∀ p, p = 0 ∨ (32 ≤ p ∧ p < 81) ∨ 104 ≤ p → N2 p = m.1 p := fun p hp => by rw [ro p (by omega), f0 p (by omega)]
  have hKK : GKept (n + 1) K N2 := H.2.2.2.2.2.frame (by rw [rr 0 (by omega)]) (r81 60 (by omega) (by omega) (by omega)) (rr 123 (by omega)) (fun p hp => rr p (by omega))
  refine H.back (fun q hq => rr q (by omega)) (by rw [rr 0 (by omega)]) (fun q hq => r81 q ⟨hq.1, hq.2.1, hq.2.2.1, hq.2.2.2.1, hq.2.2.2.2.1⟩ hq.2.2.2.2.2.1 hq.2.2.2.2.2.2.1) ?_ hKK
  have hne : (128 + 31 * k) + 31 ≤ 1 ∨ 1 + 31 ≤ 128 + 31 * k := by omega
  have FK := H.2.2.2.2.2.at hk
  have Z := H.1.far0
  have cl : ∀ j q, j < 31 → N2 (1 + j) q = (gTcp m 1 (128 + 31 * k)).1 (1 + j) q := fun j q hj => congrFun (ro _ (by omega)) q
  refine FRel.copy FK ?_ (fun q hq => ?_) ?_ ?_ (fun i hi q => ?_) ⟨fun q hq => ⟨?_, ?_⟩, fun q hq => ⟨?_, ?_⟩, fun q hq => ?_, fun q hq => ?_⟩ hV.1 hV.2
  · exact (cl 0 4 (by omega)).trans ((gTcp_r0 m 1 _ 4 hne).trans (if_pos rfl))
  · exact (cl 2 q (by omega)).trans ((gTcp_r2 m 1 _ q hne).trans (if_pos hq))
  · exact (cl 11 1 (by omega)).trans ((gTcp_r11 m 1 _ 1 hne).trans (if_pos rfl))
  · exact (cl 17 0 (by omega)).trans ((gTcp_r17 m 1 _ 0 hne).trans (if_pos rfl))
  · have fin : ∀ {a b : Int32} {c : Nat}, (c ≤ q → b = 0) → (if q < c then a else b) = if q < c then a else 0 := by
      intro a b c hb
      by_cases hq : q < c
      · rw [if_pos hq, if_pos hq]
      · rw [if_neg hq, if_neg hq, hb (by omega)]
    unfold cWhole at hi
    have hi31 : i < 31 := by omega
    show N2 (1 + i) q = _
    rw [cl i q hi31]
    match i, hi with
    | 5, _ => exact (gTcp_r5 m 1 _ q hne).trans (fin fun z => (Z.1 q z).1)
    | 6, _ => exact (gTcp_r6 m 1 _ q hne).trans (fin fun z => (Z.1 q z).2.1)
    | 7, _ => exact (gTcp_r7 m 1 _ q hne).trans (fin fun z => (Z.1 q z).2.2.1)
    | 8, _ => exact (gTcp_r8 m 1 _ q hne).trans (fin fun z => (Z.1 q z).2.2.2.1)
    | 9, _ => exact (gTcp_r9 m 1 _ q hne).trans (fin fun z => (Z.1 q z).2.2.2.2)
    | 10, _ => exact (gTcp_r10 m 1 _ q hne).trans (fin fun z => Z.2.1 q z)
    | 12, _ => exact (gTcp_r12 m 1 _ q hne).trans (fin fun z => Z.2.2.1 q z)
    | 13, _ => exact (gTcp_r13 m 1 _ q hne).trans (fin fun z => (Z.2.2.2.1 q z).1)
    | 14, _ => exact (gTcp_r14 m 1 _ q hne).trans (fin fun z => (Z.2.2.2.1 q z).2.1)
    | 15, _ => exact (gTcp_r15 m 1 _ q hne).trans (fin fun z => (Z.2.2.2.1 q z).2.2.1)
    | 16, _ => exact (gTcp_r16 m 1 _ q hne).trans (fin fun z => (Z.2.2.2.1 q z).2.2.2)
    | 18, _ => exact (gTcp_r18 m 1 _ q hne).trans (fin fun z => (Z.2.2.2.2.1 q z).1)
    | 19, _ => exact (gTcp_r19 m 1 _ q hne).trans (fin fun z => (Z.2.2.2.2.1 q z).2.1)
    | 20, _ => exact (gTcp_r20 m 1 _ q hne).trans (fin fun z => (Z.2.2.2.2.1 q z).2.2.1)
    | 21, _ => exact (gTcp_r21 m 1 _ q hne).trans (fin fun z => (Z.2.2.2.2.1 q z).2.2.2)
    | 27, _ => exact (gTcp_r27 m 1 _ q hne).trans (fin fun z => (Z.2.2.2.2.2.1 q z).1)
    | 28, _ => exact (gTcp_r28 m 1 _ q hne).trans (fin fun z => (Z.2.2.2.2.2.1 q z).2.1)
    | 29, _ => exact (gTcp_r29 m 1 _ q hne).trans (fin fun z => (Z.2.2.2.2.2.1 q z).2.2)
    | 30, _ => exact (gTcp_r30 m 1 _ q hne).trans (fin fun z => Z.2.2.2.2.2.2 q z)
    | 0, h => omega
    | 1, h => omega
    | 2, h => omega
    | 3, h => omega
    | 4, h => omega
    | 11, h => omega
    | 17, h => omega
    | 22, h => omega
    | 23, h => omega
    | 24, h => omega
    | 25, h => omega
    | 26, h => omega
    | i + 31, h => omega
  · exact (cl 3 q (by omega)).trans ((gTcp_r3 m 1 _ q hne).trans (if_pos hq))
  · exact (cl 4 q (by omega)).trans ((gTcp_r4 m 1 _ q hne).trans (if_pos hq))
  · exact (cl 22 q (by omega)).trans ((gTcp_r22 m 1 _ q hne).trans (if_pos hq))
  · exact (cl 23 q (by omega)).trans ((gTcp_r23 m 1 _ q hne).trans (if_pos hq))
  · exact (cl 24 q (by omega)).trans ((gTcp_r24 m 1 _ q hne).trans (if_pos hq))
  · exact (cl 25 q (by omega)).trans ((gTcp_r25 m 1 _ q hne).trans (if_pos hq))
/-- a call of the whole run -/
def gStep (n op : Nat) (as : List Value) (q : gS) : Prop := ∃ (v : Int32) (q1 q2 : gS), gR gmi gdf gcd 10 (109 + op) (.ref 0 :: as) q (some (.int v), q1) ∧ gR gmi gdf gcd 10 (gqM op) (.ref 81 :: as) q1 (some (.int v), q2) ∧ gI (n + 1) q2 ∧ (∃ fs, q.1.1 0 = some (.inr (.inr (11, fs)))) ∧ ∃ fs, q1.1.1 81 = some (.inr (.inr (12, fs)))
theorem FRel.isop {n : Nat} {C V : gN} (H : FRel n C V) : ∀ k, C 21 k = 0 ∨ C 21 k = 1 := by
  obtain ⟨w, h9, hr, le, we, sd, gs, wt, ol, wp, wc, ww, wo, ws, a1, a2, a3, a4, a5, a6, a7, a8, a9, b1, b2, b3, b4, b5, b6, b7⟩ := H
  intro k
  rw [b1.2.2.2, b2.2.2.2]
  have := b3.2 k
  rcases (show wo k = 0 ∨ wo k = 1 by omega) with e | e
  · left; show nI (wo k) = 0; rw [e]; rfl
  · right; show nI (wo k) = 1; rw [e]; rfl
theorem s_keep {n : Nat} {q : gS} (H : gI n q) : gStep n 30 [] q := by
  obtain ⟨K, h1, h2, h3, h4, I⟩ := H
  obtain ⟨⟨S, B⟩, m⟩ := q
  have h1 : B = 128 + 31 * K := h1
  have h2 : gHas S 0 (gsh_OT (klOf K)) := h2
  have h3 : gHas S 81 gsh_MO := h3
  have I : Inv n K m.1 := I
  obtain ⟨k3, k0, k1, -⟩ := I.2.2.2.2.2
  by_cases hK : K < 3
  · have T : ∃ s1, gTmade B S m s1 := by
      rw [h1]
      rcases (show K = 0 ∨ K = 1 ∨ K = 2 by omega) with e | e | e
      · rw [e]; exact town_made_0
      · rw [e]; exact town_made_1
      · rw [e]; exact town_made_2
    obtain ⟨⟨⟨S', B'⟩, m'⟩, g1, g2, g3, g4, g5, g6, g7⟩ := keep_gen (B := B) (K := K) (kl := klOf K) (by omega) rfl hK h2 k0 (fun k _ => I.1.isop k) T
    have g2 : B' = B + 31 := g2
    have g3 : gHas S' 0 (gsh_OT ((klOf K).set K (some B))) := g3
    have g5 : ∀ id, id < B → id ≠ 32 → S' id = S id := g5
    have g6 : ∀ id q, id < B → m'.1 id q = if id = 0 ∧ q = 2 then nI (K + 1) else m.1 id q := g6
    have hMO : gHas S' 81 gsh_MO := by
      intro j e hj
      have hl : gsh_MO.length = 47 := rfl
      have : j < 47 := by
        rcases Nat.lt_or_ge j 47 with z | z
        · exact z
        · rw [gnth_none gsh_MO j (by rw [hl]; exact z)] at hj; cases hj
      rw [g5 _ (by omega) (by omega)]
      exact h3 j e hj
    have hkl : (klOf K).set K (some B) = klOf (K + 1) := by
      rw [h1]
      rcases (show K = 0 ∨ K = 1 ∨ K = 2 by omega) with e | e | e <;> subst e <;> rfl
    have m60 : m'.1 81 60 = nI K := by rw [g6 81 60 (by omega), if_neg (by omega)]; exact k1
    have n3 : ¬ nI K = 3 := fun e => by
      have := (nI_eq (b := 3) (by omega) (by decide)).mp e
      omega
    have c : f_MO_keep m' = some (nI K, (gup (tuP (pgN m'.1 K 1) K 1647) 81 60 (nI (K + 1)), m'.2)) := by
      have e60 : tuP (pgN m'.1 K 1) K 1647 81 60 = nI K := by
        rw [tuP_at _ _ (by decide) (by decide)]
        unfold pgN
        rw [gup_col (by decide), gup_col (by decide)]
        exact m60
      unfold f_MO_keep
      simp (disch := omega) only [gfd_eq, glet_eq, gbind_eq, nI_ltI, nI_1, gok_nI, grd_nI, nI_clamp, if_true, if_false, Nat.lt_irrefl, m60, n3, mo_pageP, gsf_eq, e60, gup_at, i10, gokT]
      rw [nI_pred']
    refine ⟨nI K, ((S', B'), m'), ((S', B'), (gup (tuP (pgN m'.1 K 1) K 1647) 81 60 (nI (K + 1)), m'.2)), g1, t_MO_keep (by decide) hMO _ c, ⟨K + 1, ?_, ?_, hMO, fun j hj => ?_, ?_⟩, ⟨_, h2 0 _ rfl⟩, ⟨_, hMO 0 _ rfl⟩⟩
    · show B' = _
      omega
    · rw [← hkl]; exact g3
    · by_cases hjK : j = K
      · rw [hjK, ← h1]; exact g4
      · intro i e hi
        have hl : (gsh_Town (128 + 31 * j)).length = 31 := rfl
        have : i < 31 := by
          rcases Nat.lt_or_ge i 31 with z | z
          · exact z
          · rw [gnth_none (gsh_Town (128 + 31 * j)) i (by rw [hl]; exact z)] at hi; cases hi
        show S' (128 + 31 * j + i) = some e
        rw [g5 _ (by omega) (by omega)]
        exact h4 j (by omega) i e hi
    · refine keep_inv I hK (fun id q hid => g6 id q (by omega)) (fun L L' => ?_)
      rw [← h1]
      exact g7
  · have e3 : K = 3 := by omega
    subst e3
    have c : f_MO_keep m = some (-3, m) := by
      unfold f_MO_keep
      rw [gfd_eq, k1, if_pos (show nI 3 = (3 : Int32) from rfl)]
    exact ⟨-3, ((S, B), m), ((S, B), m), keep_full h2 k0, t_MO_keep (by decide) h3 _ c, gI.skip ⟨3, h1, h2, h3, h4, I⟩, ⟨_, h2 0 _ rfl⟩, ⟨_, h3 0 _ rfl⟩⟩
theorem s_stand {n : Nat} {q : gS} (x : Int32) (H : gI n q) : gStep n 31 [.int x] q := by
  obtain ⟨K, h1, h2, h3, h4, I⟩ := H
  obtain ⟨⟨S, B⟩, m⟩ := q
  have h1 : B = 128 + 31 * K := h1
  have h2 : gHas S 0 (gsh_OT (klOf K)) := h2
  have h3 : gHas S 81 gsh_MO := h3
  have I : Inv n K m.1 := I
  obtain ⟨k3, k0, k1, -⟩ := I.2.2.2.2.2
  have b : ∀ m : gM, f_MO_in x.toInt64 (Int32.toInt64 0) (nI K - 1).toInt64 m = _ := fun m => mo_in0 (x := x) (n := K) (by omega) m
  rcases gib_cases x K with hg | ⟨k, hk, rfl, hk2⟩
  · have hx : x < 0 ∨ ¬ x < m.1 0 2 := by
      rw [k0]
      by_cases h0 : x < 0
      · exact Or.inl h0
      · obtain ⟨j, hj, rfl⟩ := nI_of h0
        refine Or.inr (fun z => ?_)
        have := (nI_ltI hj (by omega)).mp z
        rw [gib_iff.mpr ⟨j, this, rfl, hj⟩] at hg
        cases hg
    have c : f_MO_stand x m = some (-1, m) := by
      unfold f_MO_stand
      simp (disch := omega) only [gfd_eq, glet_eq, gbind_eq, nI_ltI, nI_1, gok_nI, grd_nI, nI_clamp, if_true, if_false, Nat.lt_irrefl, k1, b, hg, Bool.false_eq_true, i10, gokT]
    exact ⟨-1, ((S, B), m), ((S, B), m), stand_bad h2 hx, t_MO_stand (by decide) h3 _ c, gI.skip ⟨K, h1, h2, h3, h4, I⟩, ⟨_, h2 0 _ rfl⟩, ⟨_, h3 0 _ rfl⟩⟩
  · have hgk := gib_iff.mpr ⟨k, hk, rfl, hk2⟩
    have hkl : (klOf K).getD k none = some (128 + 31 * k) := by
      unfold klOf
      rcases (show k = 0 ∨ k = 1 ∨ k = 2 by omega) with e | e | e
      · subst e; show (if 0 < K then some 128 else none) = _; rw [if_pos hk]
      · subst e; show (if 1 < K then some 159 else none) = _; rw [if_pos hk]
      · subst e; show (if 2 < K then some 190 else none) = _; rw [if_pos hk]
    have f0 : ∀ p, p = 0 ∨ 32 ≤ p → (gTcp m 1 (128 + 31 * k)).1 p = m.1 p := fun p hp => funext fun q => gTcp_far m 1 (128 + 31 * k) p q (by omega)
    have e60 : (gTcp m 1 (128 + 31 * k)).1 81 60 = nI K := by rw [f0 81 (by omega)]; exact k1
    have c : f_MO_stand (nI k) (gTcp m 1 (128 + 31 * k)) = some (1, (tuG (pgN (gTcp m 1 (128 + 31 * k)).1 k 0) k 1647, (gTcp m 1 (128 + 31 * k)).2)) := by
      unfold f_MO_stand
      simp (disch := omega) only [gfd_eq, glet_eq, gbind_eq, nI_ltI, nI_1, gok_nI, grd_nI, nI_clamp, if_true, if_false, Nat.lt_irrefl, e60, b, hgk, mo_pageG, i10, gokT]
    have st := stand_ok (sh := (S, B)) (m := m) h2 rfl (by omega) hkl (h4 k hk) (by omega) (by rw [k0]; exact nI_lt hk (by omega)) (fun j _ => (I.2.2.2.2.2.at hk).isop j)
    exact ⟨1, ((S, B), gTcp m 1 (128 + 31 * k)), ((S, B), (tuG (pgN (gTcp m 1 (128 + 31 * k)).1 k 0) k 1647, (gTcp m 1 (128 + 31 * k)).2)), st, t_MO_stand (by decide) h3 _ c, ⟨K, h1, h2, h3, h4, stand_inv I hk⟩, ⟨_, h2 0 _ rfl⟩, ⟨_, h3 0 _ rfl⟩⟩
