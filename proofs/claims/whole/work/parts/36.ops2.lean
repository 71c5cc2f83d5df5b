/-! ===== the field under single writes; calls: owner, lay, will and the like ===== -/
theorem gzb {V : gN} {s0 i0 : Nat} {x : Int32} (h : ∀ sel i, sel < 22 → fvZ sel ≤ i → V sel i = 0) (hi : i0 < fvZ s0) : ∀ sel i, sel < 22 → fvZ sel ≤ i → gup V s0 i0 x sel i = 0 := by
  intro sel i h1 h2
  rw [gup_all, if_neg (fun z => ?_)]
  · exact h sel i h1 h2
  · obtain ⟨rfl, rfl⟩ := z
    omega
theorem gup_pair {C V : gN} {a b i : Nat} {x : Int32} (h : C a = V b) : gup C a i x a = gup V b i x b := by
  rw [gup_eq, gup_eq, h]
theorem gup_fun {V : gN} {b i v : Nat} {f : Nat → Nat} (h : V b = fun k => nI (f k)) : gup V b i (nI v) b = fun k => nI (if k = i then v else f k) := by
  rw [gup_eq, h]
  funext k
  by_cases hk : k = i
  · rw [if_pos hk, if_pos hk]
  · rw [if_neg hk, if_neg hk]
theorem FRel.owner {n l : Nat} {x : Int32} {C V : gN} (H : FRel n C V) (hl : l < 8) : FRel n (gup C 12 l x) (gup V 9 l x) := by
  obtain ⟨w, h9, hr, le, we, sd, gs, wt, ol, wp, wc, ww, wo, ws, a1, a2, a3, a4, a5, a6, a7, a8, ⟨c1, c2⟩, b1, b2, b3, b4, b5, b6, b7⟩ := H
  exact ⟨w, h9, hr, le, we, sd, gs, wt, ol, wp, wc, ww, wo, ws, a1, a2, a3, a4, a5, a6, a7, a8, ⟨gup_pair c1, c2⟩, b1, b2, b3, b4, b5, b6, gzb b7 hl⟩
theorem FRel.lot {n c : Nat} {x : Int32} {C V : gN} (H : FRel n C V) (hc : c < 36) (hx : x = -4 ∨ ∃ l, l < 8 ∧ x = nI l) : FRel n (gup C 9 c x) (gup V 3 c x) := by
  obtain ⟨w, h9, hr, le, we, sd, gs, wt, ol, wp, wc, ww, wo, ws, a1, a2, a3, a4, ⟨d1, d2, d3, d4, d5⟩, a6, a7, a8, a9, b1, b2, b3, b4, b5, b6, b7⟩ := H
  refine ⟨w, h9, hr, le, we, sd, gs, wt, ol, wp, wc, ww, wo, ws, a1, a2, a3, a4, ⟨d1, d2, d3, gup_pair d4, d5⟩, a6, a7, fun c' hc' => ?_, a9, b1, b2, b3, b4, b5, b6, gzb b7 hc⟩
  rw [gup_eq]
  show (if c' = c then x else V 3 c') = -4 ∨ ∃ l, l < 8 ∧ (if c' = c then x else V 3 c') = nI l
  by_cases h : c' = c
  · rw [if_pos h]; exact hx
  · rw [if_neg h]; exact a8 c' hc'
theorem FRel.will {n k v : Nat} {C V : gN} (H : FRel n C V) (hk : k < 10) (hv : v ≤ 60) : FRel n (gup C 20 k (nI v)) (gup V 16 k (nI v)) := by
  obtain ⟨w, h9, hr, le, we, sd, gs, wt, ol, wp, wc, ww, wo, ws, a1, a2, a3, a4, a5, a6, a7, a8, a9, ⟨d1, d2, d3, d4⟩, ⟨e1, e2, e3, e4⟩, ⟨f1, f2⟩, b4, b5, b6, b7⟩ := H
  refine ⟨w, h9, hr, le, we, sd, gs, wt, ol, wp, wc, fun q => if q = k then v else ww q, wo, ws, a1, a2, a3, a4, a5, a6, a7, a8, a9, ⟨d1, d2, gup_pair d3, d4⟩, ⟨e1, e2, gup_fun e3, e4⟩, ⟨fun q hq => ⟨(f1 q hq).1, (f1 q hq).2.1, ?_⟩, f2⟩, b4, b5, b6, gzb b7 (by show k < 10; omega)⟩
  show (if q = k then v else ww q) ≤ 60
  split
  · exact hv
  · exact (f1 q hq).2.2
theorem FRel.opn {n k v : Nat} {C V : gN} (H : FRel n C V) (hk : k < 10) (hv : v ≤ 1) : FRel n (gup C 21 k (nI v)) (gup V 17 k (nI v)) := by
  obtain ⟨w, h9, hr, le, we, sd, gs, wt, ol, wp, wc, ww, wo, ws, a1, a2, a3, a4, a5, a6, a7, a8, a9, ⟨d1, d2, d3, d4⟩, ⟨e1, e2, e3, e4⟩, ⟨f1, f2⟩, b4, b5, b6, b7⟩ := H
  refine ⟨w, h9, hr, le, we, sd, gs, wt, ol, wp, wc, ww, fun q => if q = k then v else wo q, ws, a1, a2, a3, a4, a5, a6, a7, a8, a9, ⟨d1, d2, d3, gup_pair d4⟩, ⟨e1, e2, e3, gup_fun e4⟩, ⟨f1, fun q => ?_⟩, b4, b5, b6, gzb b7 (by show k < 10; omega)⟩
  show (if q = k then v else wo q) ≤ 1
  split
  · exact hv
  · exact f2 q
/-- a write into a row of the class's field and one of the reference's -/
theorem Inv.field2 {n K j p s i : Nat} {x : Int32} {N : gN} (H : Inv n K N) (hj : j < 31) (hp : 82 ≤ p ∧ p < 104) (hfv : ∀ N : gN, fvL (gup N p i x) = gup (fvL N) s i x) (hF : FRel n (gup (fun k => N (1 + k)) j i x) (gup (fvL N) s i x)) : Inv n K (gup (gup N (1 + j) i x) p i x) := by
  obtain ⟨-, hP, hT, hL, hS, hK⟩ := H
  have r : ∀ q, (q = 0 ∨ (32 ≤ q ∧ q < 82) ∨ 104 ≤ q) → gup (gup N (1 + j) i x) p i x q = N q := fun q hq => by
    rw [gup_ne (by omega), gup_ne (by omega)]
  refine ⟨?_, ?_, ?_, ?_, ?_, hK.frame (by rw [r 0 (by omega)]) (by rw [r 81 (by omega)]) (r 123 (by omega)) (fun q hq => r q (by omega))⟩
  · rw [hfv, fvL_far (by omega)]
    refine FRel.blk (fun k hk => ?_) hF
    rw [gup_ne (by omega)]
    exact congrFun (gblk N 1 j i x) k
  · unfold GPers at hP ⊢
    rw [r 0 (by omega), r 81 (by omega), r 33 (by omega), r 104 (by omega)]
    exact hP
  · unfold GTape at hT ⊢
    rw [r 34 (by omega), r 81 (by omega), r 35 (by omega), r 112 (by omega), r 113 (by omega), r 114 (by omega), r 115 (by omega)]
    exact hT
  · unfold GLaw at hL ⊢
    rw [r 41 (by omega), r 81 (by omega), r 42 (by omega), r 43 (by omega), r 44 (by omega), r 45 (by omega), r 116 (by omega), r 117 (by omega), r 118 (by omega), r 119 (by omega), r 40 (by omega)]
    exact hL
  · have g : ∀ k, k < 4 → GSheet N k → GSheet (gup (gup N (1 + j) i x) p i x) k := by
      intro k hk h
      unfold GSheet at h ⊢
      rw [r (73 + 2 * k) (by omega), r 125 (by omega), r 126 (by omega), r (74 + 2 * k) (by omega), r 127 (by omega)]
      exact h
    exact ⟨g 0 (by decide) hS.1, g 1 (by decide) hS.2.1, g 2 (by decide) hS.2.2.1, g 3 (by decide) hS.2.2.2⟩
theorem FRel.wells {n : Nat} {C V : gN} (H : FRel n C V) : ∃ we : Nat, we ≤ 10 ∧ C 17 0 = nI we ∧ V 22 4 = nI we := by
  obtain ⟨w, h9, hr, le, we, sd, gs, wt, ol, wp, wc, ww, wo, ws, a1, a2, a3, r⟩ := H
  exact ⟨we, a1.2.2.2.2.2.2, a3.2.2.2.2.2, a2.2.2.2.2⟩
theorem FRel.rows {n : Nat} {C V : gN} (H : FRel n C V) : C 9 = V 3 ∧ C 12 = V 9 ∧ C 20 = V 16 ∧ C 21 = V 17 ∧ ∃ wo : Nat → Nat, V 17 = (fun k => nI (wo k)) ∧ ∀ k, wo k ≤ 1 := by
  obtain ⟨w, h9, hr, le, we, sd, gs, wt, ol, wp, wc, ww, wo, ws, a1, a2, a3, a4, a5, a6, a7, a8, a9, b1, b2, b3, b4, b5, b6, b7⟩ := H
  exact ⟨a5.2.2.2.1, a9.1, b1.2.2.1, b1.2.2.2, wo, b2.2.2.2, b3.2⟩
theorem J_owner {i : Nat} (hi : i < 8) (y : Int32) (m : gM) : J_OT_owner_24 (nI i) y m = some (m.1 13 i, (gup m.1 13 i y, m.2)) ∧ J_MO_owner_24 (nI i) y m = some (m.1 87 i, (gup m.1 87 i y, m.2)) := by
  constructor
  · unfold J_OT_owner_24
    rw [gok_nI hi (by decide), glet_eq, gok_nI hi (by decide), glet_eq, grd_nI _ _ (by omega), gst_nI _ _ _ (by omega)]
  · unfold J_MO_owner_24
    rw [gok_nI hi (by decide), glet_eq, gok_nI hi (by decide), glet_eq, grd_nI _ _ (by omega), gst_nI _ _ _ (by omega)]
