/-! ===== hour ===== -/
theorem FRX.pool {C V : gN} {w h hr le we : Nat} {sd gs wt ol wp wc ww wo ws B : Nat → Nat} (H : FRX C V w h hr le we sd gs wt ol wp wc ww wo ws B) {N : gN} (e : ∀ j, N (1 + j) = C j) : PoolAt N 3 w h sd gs wt (osum ol) := by
  obtain ⟨a1, a2, a3, a4, ⟨d1, d2, d3, d4, d5⟩, ⟨o1, o2, o3, o4, o5⟩, a7, a8, a9, b1, b2, b3, b4, b5, b6, b7⟩ := H
  have e2 : N 3 = C 2 := e 2
  have e3 : N 4 = C 3 := e 3
  have e4 : N 5 = C 4 := e 4
  have e5 : N 6 = C 5 := e 5
  have e6 : N 7 = C 6 := e 6
  have e7 : N 8 = C 7 := e 7
  have e8 : N 9 = C 8 := e 8
  unfold PoolAt
  refine ⟨?_, ?_, fun c hc => ⟨?_, ?_, ?_, ?_⟩⟩
  · rw [e2]; exact ⟨a3.1, a3.2.1, a3.2.2.1⟩
  · intro c hc
    show N 4 c = _ ∧ N 5 c = _
    rw [e3, e4]; exact a4 c hc
  · show N 6 c = _
    rw [e5, d1, o1]
  · show N 7 c = _
    rw [e6, d2, o2]
  · show N 8 c = _
    rw [e7, d3, o3]
  · show N 9 c = _
    rw [e8, o5]
theorem gPB.push {n hr c : Nat} {gs wt ol : Nat → Nat} (H : gPB n hr gs wt ol) (hhr : hr ≤ 199) (hc : c < 36) : osum ol c + wt c + gs c ≤ 96774 := by
  have := H.1 c hc
  unfold gDry gPush at this
  omega
theorem flO_far {w h : Nat} {sd gs wt ol : Nat → Nat} {q : Nat} (hw : 1 ≤ w) (hq : 9 * (w * h) ≤ q) : flO w h sd gs wt ol q = ol q := by
  have far := fF_far w h sd gs wt (osum ol) hw
  have e1 : ∀ t, t ≤ 4 * (w * h) → mvO ol (foF w h sd gs wt (osum ol)) t q = ol q := by
    intro t
    induction t with
    | zero => intro _; rfl
    | succ t ih =>
      intro ht
      show tkO (mvO ol (foF w h sd gs wt (osum ol)) t) (t / 4) _ q = _
      unfold tkO
      rw [if_neg (by omega), ih (by omega)]
  unfold flO
  rw [e1 _ (Nat.le_refl _), mvA_far (n := w * h) (T := 4 * (w * h)) (fun t ht => (far t ht).1) hq _ (Nat.le_refl _)]
  rfl
theorem FRX.flow {C V C' V' : gN} {w h hr le we : Nat} {sd gs wt ol wp wc ww wo ws B W O : Nat → Nat} (H : FRX C V w h hr le we sd gs wt ol wp wc ww wo ws B) (hhr : hr ≤ 198) (c0 : C' 0 4 = nI (hr + 1)) (c7 : C' 7 = fun c => nI (W c)) (c8 : C' 8 = fun c => nI (osum O c)) (c10 : C' 10 = fun i => nI (O i)) (cr : ∀ j, j < 31 → j ≠ 0 → j ≠ 7 → j ≠ 8 → j ≠ 10 → C' j = C j) (v2 : V' 2 = fun c => nI (W c)) (v4 : V' 4 = fun i => nI (O i)) (vr : ∀ s, s < 22 → s ≠ 2 → s ≠ 4 → V' s = V s) (v22 : V' 22 0 = V 22 0 ∧ V' 22 1 = V 22 1 ∧ V' 22 2 = nI (hr + 1) ∧ V' 22 3 = V 22 3 ∧ V' 22 4 = V 22 4) (hW : ∀ i, 36 ≤ i → W i = wt i) (hO : ∀ i, 324 ≤ i → O i = ol i) : FRX C' V' w h (hr + 1) le we sd gs W O wp wc ww wo ws B := by
  obtain ⟨a1, a2, a3, a4, ⟨d1, d2, d3, d4, d5⟩, ⟨o1, o2, o3, o4, o5⟩, a7, a8, ⟨e1, e2, e3, e4, e5⟩, ⟨f1, f2, f3, f4⟩, ⟨g1, g2, g3, g4⟩, b3, b4, b5, ⟨k1, k2, k3, k4⟩, b7⟩ := H
  have CR : ∀ j, j < 31 → j ≠ 0 ∧ j ≠ 7 ∧ j ≠ 8 ∧ j ≠ 10 → C' j = C j := fun j hj z => cr j hj z.1 z.2.1 z.2.2.1 z.2.2.2
  have VR : ∀ s, s < 22 → s ≠ 2 ∧ s ≠ 4 → V' s = V s := fun s hs z => vr s hs z.1 z.2
  refine ⟨⟨a1.1, a1.2.1, a1.2.2.1, a1.2.2.2.1, by omega, a1.2.2.2.2.2.1, a1.2.2.2.2.2.2⟩, ?_, ?_, ?_, ⟨?_, ?_, ?_, ?_, ?_⟩, ⟨?_, ?_, v2, v4, c8⟩, a7, ?_, ⟨?_, ?_, ?_, ?_, ?_⟩, ⟨?_, ?_, ?_, ?_⟩, ⟨?_, ?_, ?_, ?_⟩, b3, ?_, ?_, ⟨?_, ?_, ?_, ?_⟩, fun sel i h1 h2 => ?_⟩
  · rw [v22.1, v22.2.1, v22.2.2.2.1, v22.2.2.2.2]; exact ⟨a2.1, a2.2.1, v22.2.2.1, a2.2.2.2.1, a2.2.2.2.2⟩
  · rw [CR 2 (by decide) (by decide), CR 11 (by decide) (by decide), CR 17 (by decide) (by decide)]; exact ⟨a3.1, a3.2.1, a3.2.2.1, c0, a3.2.2.2.2.1, a3.2.2.2.2.2⟩
  · rw [CR 3 (by decide) (by decide), CR 4 (by decide) (by decide)]; exact a4
  · rw [CR 5 (by decide) (by decide), VR 0 (by decide) (by decide)]; exact d1
  · rw [CR 6 (by decide) (by decide), VR 1 (by decide) (by decide)]; exact d2
  · rw [c7, v2]
  · rw [CR 9 (by decide) (by decide), VR 3 (by decide) (by decide)]; exact d4
  · rw [c10, v4]
  · rw [VR 0 (by decide) (by decide)]; exact o1
  · rw [VR 1 (by decide) (by decide)]; exact o2
  · rw [VR 3 (by decide) (by decide)]; exact a8
  · rw [CR 12 (by decide) (by decide), VR 9 (by decide) (by decide)]; exact e1
  · rw [CR 13 (by decide) (by decide), VR 10 (by decide) (by decide)]; exact e2
  · rw [CR 14 (by decide) (by decide), VR 11 (by decide) (by decide)]; exact e3
  · rw [CR 15 (by decide) (by decide), VR 12 (by decide) (by decide)]; exact e4
  · rw [CR 16 (by decide) (by decide), VR 13 (by decide) (by decide)]; exact e5
  · rw [CR 18 (by decide) (by decide), VR 14 (by decide) (by decide)]; exact f1
  · rw [CR 19 (by decide) (by decide), VR 15 (by decide) (by decide)]; exact f2
  · rw [CR 20 (by decide) (by decide), VR 16 (by decide) (by decide)]; exact f3
  · rw [CR 21 (by decide) (by decide), VR 17 (by decide) (by decide)]; exact f4
  · rw [VR 14 (by decide) (by decide)]; exact g1
  · rw [VR 15 (by decide) (by decide)]; exact g2
  · rw [VR 16 (by decide) (by decide)]; exact g3
  · rw [VR 17 (by decide) (by decide)]; exact g4
  · rw [CR 22 (by decide) (by decide), CR 23 (by decide) (by decide), CR 24 (by decide) (by decide), CR 25 (by decide) (by decide), VR 18 (by decide) (by decide), VR 19 (by decide) (by decide), VR 20 (by decide) (by decide), VR 21 (by decide) (by decide)]; exact b4
  · rw [CR 22 (by decide) (by decide), CR 23 (by decide) (by decide), CR 24 (by decide) (by decide), CR 25 (by decide) (by decide)]; exact b5
  · rw [CR 27 (by decide) (by decide), VR 6 (by decide) (by decide)]; exact k1
  · rw [CR 28 (by decide) (by decide), VR 7 (by decide) (by decide)]; exact k2
  · rw [CR 29 (by decide) (by decide), VR 8 (by decide) (by decide)]; exact k3
  · rw [CR 30 (by decide) (by decide), VR 5 (by decide) (by decide)]; exact k4
  · by_cases s2 : sel = 2
    · subst s2
      have h2 : 36 ≤ i := h2
      have := b7 2 i h1 h2
      rw [o3] at this
      rw [v2]
      show nI (W i) = 0
      rw [hW i h2]
      exact this
    · by_cases s4 : sel = 4
      · subst s4
        have h2 : 324 ≤ i := h2
        have := b7 4 i h1 h2
        rw [o4] at this
        rw [v4]
        show nI (O i) = 0
        rw [hO i h2]
        exact this
      · rw [VR sel h1 ⟨s2, s4⟩]; exact b7 sel i h1 h2
theorem p_hour {n0 K : Nat} {m : gM} (hn0 : n0 < 512) (I : Inv n0 K m.1) : gBoth n0 K f_OT_hour f_MO_hour m := by
  obtain ⟨w, h, hr, le, we, sd, gs, wt, ol, wp, wc, ww, wo, ws, X, P⟩ := I.1.frx
  have x1 := X.1
  have h36 : w * h ≤ 6 * 6 := Nat.mul_le_mul x1.2.1 x1.2.2.2.1
  have c4 : m.1 1 4 = nI hr := X.2.2.1.2.2.2.1
  have m2 : m.1 81 2 = nI hr := X.2.1.2.2.1
  have hgs := X.2.2.2.2.2.2.1
  by_cases h99 : hr = 199
  · subst h99
    refine gBoth.same (-3) I ?_ ?_
    · unfold f_OT_hour
      rw [gfd_eq, c4, if_neg (show ¬ nI 199 < (199 : Int32) by decide)]
    · unfold f_MO_hour
      rw [gfd_eq, m2, if_pos (show nI 199 = (199 : Int32) from rfl)]
  · have hb : ∀ c, c < 36 → osum ol c + wt c < 2 ^ 20 := fun c hc => by
      have := P.push (by omega) hc
      omega
    obtain ⟨s', wt', ol', ws', NC, NM, D, rC, rM, X', le', fC, fM⟩ := draws_both (LC := m.2) (LM := m.2) we 0 0 wt ol ws (fun _ => 60 * hr) m.1 m.1 (by omega) X hb
    have rC0 := rC
    have rC := rC (fun v3 v4 m3 => J_Town_letHourGo_45 1 46 v3 v4 m3) 1000 (by omega)
    have A := X'.pool (N := NC) (fun j => rfl)
    have psh : ∀ c, c < 36 → osum ol' c + wt' c + gs c ≤ 96774 := fun c hc => by
      have := P.push (by omega) hc
      have := le' c
      omega
    have O : PoolOk w h sd gs wt' (osum ol') := ⟨⟨x1.1, x1.2.1, x1.2.2.1, x1.2.2.2.1⟩, fun c => (hgs c).1, fun c hc => psh c (by omega)⟩
    obtain ⟨a1', a2', a3', a4', ⟨d1, d2, d3, d4, d5⟩, ⟨o1, o2, o3, o4, o5⟩, a7', a8', ⟨e1, e2, e3, e4, e5⟩, ⟨f1, f2, f3, f4⟩, ⟨g1, g2, g3, g4⟩, b3', b4', b5', ⟨k1, k2, k3, k4⟩, b7'⟩ := id X'
    obtain ⟨N2, L2, r2, n11, n9, n8, n14, n1, nf⟩ := cl_hourEnd (N := NC) (L := m.2) (hr := hr) A O (d5.trans o4) o5 (d3.trans o3) a3'.2.2.2.1 (fun c hc => by have := psh c hc; omega) (nI s') (nI we)
    -- the reference runs on what the town left
    have nM : ∀ q, 54 ≤ q → N2 q = m.1 q := fun q hq => by
      rw [nf q (by omega) (by omega) (by omega) (by omega) (by omega)]
      exact fC q (by unfold outC; omega)
    have fv : fvL N2 = fvL m.1 := fvL_cong (fun q h1 _ => nM q (by omega))
    have X2 : FRX (fun j => m.1 (1 + j)) (fvL N2) w h hr le we sd gs wt ol wp wc ww wo ws (fun _ => 60 * hr) := by rw [fv]; exact X
    obtain ⟨s'', wt'', ol'', ws'', NC'', NM', D', rC', rM', X'', -, -, fM'⟩ := draws_both (LC := m.2) (LM := L2) we 0 0 wt ol ws (fun _ => 60 * hr) m.1 N2 (by omega) X2 hb
    have De := D.symm.trans D'
    have q1 : s' = s'' := congrArg (·.1) De
    have q2 : wt' = wt'' := congrArg (·.2.1) De
    have q3 : ol' = ol'' := congrArg (·.2.2.1) De
    have q4 : ws' = ws'' := congrArg (·.2.2.2) De
    subst q1
    subst q2
    subst q3
    subst q4
    have u1 := rC0 (fun _ _ x => some ((0 : Int32), x)) 1000 (by omega)
    have u2 := rC' (fun _ _ x => some ((0 : Int32), x)) 1000 (by omega)
    have u3 := u1.symm.trans u2
    have NCe : NC = NC'' := congrArg (fun x : gM => x.1) (Prod.mk.inj (Option.some.inj u3)).2
    rw [← NCe] at X''
    obtain ⟨y1, y2, y3, y4, y5, ⟨t1, t2, t3, t4, t5⟩, y7, y8, y9, z1, z2, z3, z4, z5, z6, z7⟩ := id X''
    obtain ⟨N3, r3, n86, n84, n3⟩ := mo_flows (L := L2) (N := NM') O y2.1 y2.2.1 t1 t2 t3 t4
    have rM' : f_MO_draws (N2, L2) = some (nI s', (NM', L2)) := rM' 1000 (by omega)
    have e812 : N3 81 2 = nI hr := by rw [n3 81 (by decide) (by decide) (by decide)]; exact y2.2.2.1
    have n81 : N2 81 = m.1 81 := nM 81 (by decide)
    have q81 : ∀ i, i ≠ 2 → gup N3 81 2 (nI (hr + 1)) 81 i = m.1 81 i := fun i hi => by
      rw [gup_col hi, n3 81 (by decide) (by decide) (by decide), fM' 81 (by unfold outM; decide), n81]
    have qrow : ∀ q, q ≠ 81 → q ≠ 84 → q ≠ 86 → (q < 105 ∨ 112 ≤ q) → gup N3 81 2 (nI (hr + 1)) q = NM' q := fun q h1 h2 h3 h4 => by
      rw [gup_ne h1, n3 q h2 h3 h4]
    refine ⟨nI s', (N2, L2), (gup N3 81 2 (nI (hr + 1)), L2), ?_, ?_, ?_⟩
    · have hlt : nI hr < (199 : Int32) := nI_lt (b := 199) (by omega) (by decide)
      have lg : f_Town_letHourGo 1 46 m = some (nI s', (N2, L2)) := rC.trans r2
      unfold f_OT_hour
      rw [gfd_eq, c4, if_pos hlt, lg, gbind_eq]
    · have m2' : N2 81 2 = nI hr := by rw [n81]; exact m2
      have hne : ¬ nI hr = (199 : Int32) := fun e => h99 ((nI_eq (b := 199) (by omega) (by decide)).mp e)
      have st : f_MO_step (N2, L2) = some (nI s', (gup N3 81 2 (nI (hr + 1)), L2)) := by
        unfold f_MO_step
        rw [rM', gbind_eq]
        show ((f_MO_flows (NM', L2)).bind _) = _
        rw [r3, gbind_eq, glet_eq, gfd_eq]
        show some (nI s', gsf (N3, L2) 81 2 (N3 81 2 + 1)) = _
        rw [e812, nI_1, gsf_eq]
      unfold f_MO_hour
      rw [gfd_eq]
      show (if N2 81 2 = 199 then _ else _) = _
      rw [m2', if_neg hne, st, gbind_eq]
    · refine (I.mono (Nat.le_succ n0)).fld (fun q hq => ?_) (q81 8 (by decide)) (q81 37 (by decide)) (q81 38 (by decide)) (q81 48 (by decide)) (q81 60 (by decide)) ?_
      · unfold gOut at hq
        show gup N3 81 2 (nI (hr + 1)) q = _
        rw [qrow q (by omega) (by omega) (by omega) (by omega), fM' q (by unfold outM; omega)]
        rcases Nat.lt_or_ge q 54 with z | z
        · rw [nf q (by omega) (by omega) (by omega) (by omega) (by omega)]
          exact fC q (by unfold outC; omega)
        · exact nM q z
      · have P1 : gPB n0 hr gs wt' ol' := P.le (fun c hc => by
          have := le' c
          unfold gDry gPush
          omega)
        have P2 := P1.hour (w := w) (h := h) (sd := sd) hn0 (by omega) x1.1 (by omega) (fun c => (hgs c).1) (fun c => (hgs c).2)
        have cN : ∀ j, j < 31 → gup N3 81 2 (nI (hr + 1)) (1 + j) = N2 (1 + j) := fun j hj => by
          rw [qrow (1 + j) (by omega) (by omega) (by omega) (by omega)]
          exact fM' _ (by unfold outM; omega)
        have cR : ∀ j, j < 31 → j ≠ 0 → j ≠ 7 → j ≠ 8 → j ≠ 10 → gup N3 81 2 (nI (hr + 1)) (1 + j) = NC (1 + j) := fun j hj h0 h7 h8 h10 => by
          rw [cN j hj]
          exact nf (1 + j) (by omega) (by omega) (by omega) (by omega) (by omega)
        have F := FRX.flow (C' := fun j => gup N3 81 2 (nI (hr + 1)) (1 + j)) (V' := fvL (gup N3 81 2 (nI (hr + 1)))) (W := flW w h sd gs wt' (osum ol')) (O := flO w h sd gs wt' ol') X'' (by omega) ((congrFun (cN 0 (by omega)) 4).trans n14) ((cN 7 (by omega)).trans n8) ((cN 8 (by omega)).trans n9) ((cN 10 (by omega)).trans n11) cR ((gup_ne (by decide)).trans n84) ((gup_ne (by decide)).trans n86) (fun sel hs h2 h4 => by
            have hr' := fvRow_lt hs
            have hne : ∀ j, j < 22 → (j ≠ 2 → fvRow j ≠ 84) ∧ (j ≠ 4 → fvRow j ≠ 86) := by decide
            rw [fvL_row _ hs, fvL_row _ hs]
            exact qrow _ (by omega) ((hne sel hs).1 h2) ((hne sel hs).2 h4) (by omega)) (by
            refine ⟨?_, ?_, gup_at _ _ _ _, ?_, ?_⟩
            · exact (gup_col (by decide)).trans (congrFun (n3 81 (by decide) (by decide) (by decide)) 0)
            · exact (gup_col (by decide)).trans (congrFun (n3 81 (by decide) (by decide) (by decide)) 1)
            · exact (gup_col (by decide)).trans (congrFun (n3 81 (by decide) (by decide) (by decide)) 10)
            · exact (gup_col (by decide)).trans (congrFun (n3 81 (by decide) (by decide) (by decide)) 15)) (fun i hi => (fl_far (w := w) (h := h) (sd := sd) (gs := gs) (wt := wt') (ol := ol') x1.1 (by omega)).2) (fun i hi => flO_far (w := w) (h := h) (sd := sd) (gs := gs) (wt := wt') (ol := ol') x1.1 (by omega))
        exact F.rel (fun k hk => by
          show (if 0 ≤ k then 60 * hr + 60 else 60 * hr) ≤ 60 * (hr + 1)
          rw [if_pos (Nat.zero_le k)]
          omega) P2
