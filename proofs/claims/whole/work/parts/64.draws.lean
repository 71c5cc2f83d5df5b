/-! ===== all draws of an hour ===== -/
theorem L4h_s (a p1 : Nat) (K : Int32 → Int32 → gM → Option (Int32 × gM)) (F : Nat) (v3 v4 : Int32) (m3 : gM) : L_Town_letHourGo_4 a p1 K (F + 1) v3 v4 m3 = (if v4 < (gfd m3 (a + 17) 0) then (gok (gib v4 10) (if (grd m3 (a + 21) v4) = 0 then (J_Town_letHourGo_39 (L_Town_letHourGo_4 a p1 K F) v3 v4 m3) else ((f_Town_drawBy a v4 (p1 + 1) m3).bind fun (r3 : Int32 × gM) => glet (v3 + r3.1) fun (v7 : Int32) => J_Town_letHourGo_39 (L_Town_letHourGo_4 a p1 K F) v7 v4 r3.2))) else (K v3 v4 m3)) := rfl
theorem FRX.bmono {C V : gN} {w h hr le we : Nat} {sd gs wt ol wp wc ww wo ws B B' : Nat → Nat} (H : FRX C V w h hr le we sd gs wt ol wp wc ww wo ws B) (hB : ∀ k, k < we → B k ≤ B' k) : FRX C V w h hr le we sd gs wt ol wp wc ww wo ws B' := by
  obtain ⟨a1, a2, a3, a4, a5, a6, a7, a8, a9, b1, b2, b3, b4, b5, b6, b7⟩ := H
  exact ⟨a1, a2, a3, a4, a5, a6, a7, a8, a9, b1, b2, b3, fun k hk => ⟨(b4 k hk).1, (b4 k hk).2.1, (b4 k hk).2.2.1, fun s hs => ⟨((b4 k hk).2.2.2 s hs).1, ((b4 k hk).2.2.2 s hs).2.1, Nat.le_trans ((b4 k hk).2.2.2 s hs).2.2 (hB k hk)⟩⟩, b5, b6, b7⟩
def outC (q : Nat) : Prop := q ≠ 8 ∧ q ≠ 9 ∧ q ≠ 11 ∧ q ≠ 23 ∧ q ≠ 24 ∧ q ≠ 25 ∧ q ≠ 26 ∧ q ≠ 28 ∧ q ≠ 47
def outM (q : Nat) : Prop := q ≠ 84 ∧ q ≠ 86 ∧ q ≠ 96 ∧ q ≠ 97 ∧ q ≠ 98 ∧ q ≠ 99 ∧ q ≠ 100 ∧ q ≠ 105
/-- what a well makes of the numbers; what all wells make of them -/
def dStep (hr : Nat) (wc ww wo : Nat → Nat) (k : Nat) (st : Nat × (Nat → Nat) × (Nat → Nat) × (Nat → Nat)) : Nat × (Nat → Nat) × (Nat → Nat) × (Nat → Nat) := if wo k = 0 then st else (st.1 + dwO (ww k) (osum st.2.2.1 (wc k)) (st.2.1 (wc k)), (fun q => if q = wc k then st.2.1 (wc k) - (dwD (ww k) (osum st.2.2.1 (wc k)) (st.2.1 (wc k)) - dwO (ww k) (osum st.2.2.1 (wc k)) (st.2.1 (wc k))) else st.2.1 q), tkO st.2.2.1 (wc k) (dwO (ww k) (osum st.2.2.1 (wc k)) (st.2.1 (wc k))), fun q => if q = 60 * k + hr / 4 then st.2.2.2 q + dwO (ww k) (osum st.2.2.1 (wc k)) (st.2.1 (wc k)) else st.2.2.2 q)
def dAll (hr : Nat) (wc ww wo : Nat → Nat) : Nat → Nat → Nat × (Nat → Nat) × (Nat → Nat) × (Nat → Nat) → Nat × (Nat → Nat) × (Nat → Nat) × (Nat → Nat)
  | 0, _, st => st
  | r + 1, k, st => dAll hr wc ww wo r (k + 1) (dStep hr wc ww wo k st)
/-- one well, both sides -/
theorem draw_one {NC NM : gN} {LC LM : Nat → Nat → Int64} {w h hr le we k s : Nat} {sd gs wt ol wp wc ww wo ws B : Nat → Nat} (H : FRX (fun j => NC (1 + j)) (fvL NM) w h hr le we sd gs wt ol wp wc ww wo ws B) (hk : k < we) (hb : ∀ c, c < 36 → osum ol c + wt c < 2 ^ 20) :
    ∃ (o : Nat) (wt' ol' ws' : Nat → Nat) (NC' NM' : gN), dStep hr wc ww wo k (s, wt, ol, ws) = (s + o, wt', ol', ws') ∧ (∀ K F, L_Town_letHourGo_4 1 46 K (F + 1) (nI s) (nI k) (NC, LC) = L_Town_letHourGo_4 1 46 K F (nI (s + o)) (nI (k + 1)) (NC', LC)) ∧ (∀ F, L_MO_draws_4 (F + 1) (nI s) (nI k) (NM, LM) = L_MO_draws_4 F (nI (s + o)) (nI (k + 1)) (NM', LM)) ∧
      FRX (fun j => NC' (1 + j)) (fvL NM') w h hr le we sd gs wt' ol' wp wc ww wo ws' (fun j => if j = k then B j + 60 else B j) ∧ (∀ c, wt' c ≤ wt c ∧ osum ol' c ≤ osum ol c) ∧ (∀ q, outC q → NC' q = NC q) ∧ ∀ q, outM q → NM' q = NM q := by
  have H0 := H
  obtain ⟨a1, a2, a3, a4, ⟨d1, d2, d3, d4, d5⟩, ⟨o1, o2, o3, o4, o5⟩, a7, a8, ⟨e1, e2, e3, e4, e5⟩, ⟨f1, f2, f3, f4⟩, ⟨g1, g2, g3, g4⟩, ⟨b3, b3b⟩, b4, b5, ⟨k1, k2, k3, k4⟩, b7⟩ := H
  have h36 : w * h ≤ 6 * 6 := Nat.mul_le_mul a1.2.1 a1.2.2.2.1
  obtain ⟨q1, q2, q3⟩ := b3 k hk
  have hc : wc k < 36 := by omega
  have hbc := hb (wc k) hc
  have hok := b3b k
  have C18 : NC 18 0 = nI we := a3.2.2.2.2.2
  have C20 : NC 20 k = nI (wc k) := (congrFun f2 k).trans (congrFun g2 k)
  have C21 : NC 21 k = nI (ww k) := (congrFun f3 k).trans (congrFun g3 k)
  have C19 : NC 19 k = nI (wp k) := (congrFun f1 k).trans (congrFun g1 k)
  have C22 : NC 22 k = nI (wo k) := (congrFun f4 k).trans (congrFun g4 k)
  have C11 : NC 11 = fun i => nI (ol i) := d5.trans o4
  have C9 : NC 9 (wc k) = nI (osum ol (wc k)) := congrFun o5 (wc k)
  have C8 : NC 8 (wc k) = nI (wt (wc k)) := (congrFun d3 (wc k)).trans (congrFun o3 (wc k))
  have C4 : NC 1 4 = nI hr := a3.2.2.2.1
  have M15 : NM 81 15 = nI we := a2.2.2.2.2
  have M93 : NM 93 k = nI (wc k) := congrFun g2 k
  have M94 : NM 94 k = nI (ww k) := congrFun g3 k
  have M95 : NM 95 k = nI (wo k) := congrFun g4 k
  have M92 : NM 92 k = nI (wp k) := congrFun g1 k
  have M86 : NM 86 = fun i => nI (ol i) := o4
  have M84 : NM 84 (wc k) = nI (wt (wc k)) := congrFun o3 (wc k)
  have M2 : NM 81 2 = nI hr := a2.2.2.1
  have st := fun F => mo_drawStep (L := LM) (F := F) (s := nI s) M15 hk (by omega) hc q1 q3 M93 M94 M95 hok M92 M86 M84 hbc M2 (by omega)
  obtain ⟨w1, w2, w3, w4, w5⟩ := dw_le (ww k) (osum ol (wc k)) (wt (wc k))
  have eo : (nI (wo k) = 0) ↔ wo k = 0 := eqn0 (by omega)
  by_cases c0 : wo k = 0
  · refine ⟨0, wt, ol, ws, NC, NM, if_pos c0, fun K F => ?_, fun F => ?_, H0.bmono (fun j _ => ?_), fun c => ⟨Nat.le_refl _, Nat.le_refl _⟩, fun q _ => rfl, fun q _ => rfl⟩
    · rw [L4h_s]
      unfold J_Town_letHourGo_39
      simp (disch := omega) only [gfd_eq, glet_eq, gbind_eq, nI_ltI, nI_1, gok_nI, grd_nI, nI_clamp, if_true, if_false, Nat.lt_irrefl, C18, hk, C22, eo, c0, Nat.reduceAdd, i10, gokT]
      rw [if_pos (show nI 0 = 0 from rfl)]
      rfl
    · rw [st F, if_neg (by omega)]
      rfl
    · split <;> omega
  · have c1 : wo k = 1 := by omega
    have dr := cl_drawBy (f := ol) (p := wp k) (m := (NC, LC)) (by omega) hc q1 q3 C20 C21 C19 C11 C9 C8 (by omega) C4 (by omega)
    have ds : dStep hr wc ww wo k (s, wt, ol, ws) = (s + dwO (ww k) (osum ol (wc k)) (wt (wc k)), (fun q => if q = wc k then wt (wc k) - (dwD (ww k) (osum ol (wc k)) (wt (wc k)) - dwO (ww k) (osum ol (wc k)) (wt (wc k))) else wt q), tkO ol (wc k) (dwO (ww k) (osum ol (wc k)) (wt (wc k))), fun q => if q = 60 * k + hr / 4 then ws q + dwO (ww k) (osum ol (wc k)) (wt (wc k)) else ws q) := if_neg c0
    generalize hd : dwD (ww k) (osum ol (wc k)) (wt (wc k)) = d at *
    generalize ho : dwO (ww k) (osum ol (wc k)) (wt (wc k)) = o at *
    have R := drC_row NC ol k (wc k) (wp k) (50 * k + hr / 4) d o (osum ol (wc k)) (wt (wc k))
    have ts := tk_sum w1
    rw [ts] at R
    have run : ∀ K F, L_Town_letHourGo_4 1 46 K (F + 1) (nI s) (nI k) (NC, LC) = L_Town_letHourGo_4 1 46 K F (nI (s + o)) (nI (k + 1)) (drC NC ol k (wc k) (wp k) (50 * k + hr / 4) d o (osum ol (wc k)) (wt (wc k)), LC) := by
      intro K F
      have n1 : ¬ nI 1 = 0 := by decide
      have dr' : f_Town_drawBy 1 (nI k) (46 + 1) (NC, LC) = _ := dr
      rw [L4h_s]
      unfold J_Town_letHourGo_39
      have C22' : NC 22 k = nI 1 := by rw [C22, c1]
      simp (disch := omega) only [gfd_eq, glet_eq, gbind_eq, nI_ltI, nI_1, gok_nI, grd_nI, nI_clamp, if_true, if_false, Nat.lt_irrefl, C18, hk, C22', n1, dr', nI_add, Nat.reduceAdd, i10, gokT]
    have fc : ∀ q, outC q → drC NC ol k (wc k) (wp k) (50 * k + hr / 4) d o (osum ol (wc k)) (wt (wc k)) q = NC q := fun q hq => R.2.2.2.2.2.2.2.2 q hq
    have le : ∀ c, (if c = wc k then wt (wc k) - (d - o) else wt c) ≤ wt c ∧ osum (tkO ol (wc k) o) c ≤ osum ol c := by
      intro c
      rw [tkO_sum w1]
      by_cases e : c = wc k
      · rw [if_pos e, if_pos e, e]; omega
      · rw [if_neg e, if_neg e]; omega
    by_cases c2 : 0 < d
    · have Q := drM_row NM ol k (wc k) (wp k) (60 * k + hr / 4) d o (wt (wc k))
      have qr := Q.2.2.2.2.2.2.2
      refine ⟨o, _, _, _, _, drM NM ol k (wc k) (wp k) (60 * k + hr / 4) d o (wt (wc k)), ds, run, fun F => ?_, H0.draw hk w1 (by omega) w3 R.1 R.2.1 R.2.2.1 R.2.2.2.1 R.2.2.2.2.1 R.2.2.2.2.2.1 R.2.2.2.2.2.2.1 R.2.2.2.2.2.2.2.1 (fun j hj z1 z2 z3 z4 z5 z6 z7 z8 => fc _ (by unfold outC; omega)) Q.1 Q.2.1 Q.2.2.1 Q.2.2.2.1 Q.2.2.2.2.1 Q.2.2.2.2.2.1 Q.2.2.2.2.2.2.1 (fun j hj z1 z2 z3 z4 z5 z6 z7 => ?_) (fun i hi => ?_), le, fc, fun q hq => qr q hq⟩
      · rw [st F, if_pos ⟨c1, c2⟩, nI_add]
      · rw [fvL_row _ hj, fvL_row _ hj]
        have hne : ∀ j, j < 22 → (j ≠ 2 → fvRow j ≠ 84) ∧ (j ≠ 4 → fvRow j ≠ 86) ∧ (j ≠ 18 → fvRow j ≠ 96) ∧ (j ≠ 19 → fvRow j ≠ 97) ∧ (j ≠ 20 → fvRow j ≠ 98) ∧ (j ≠ 21 → fvRow j ≠ 99) ∧ (j ≠ 6 → fvRow j ≠ 100) ∧ fvRow j ≠ 105 := by decide
        have z := hne j hj
        exact qr _ ⟨z.1 z1, z.2.1 z2, z.2.2.1 z3, z.2.2.2.1 z4, z.2.2.2.2.1 z5, z.2.2.2.2.2.1 z6, z.2.2.2.2.2.2.1 z7, z.2.2.2.2.2.2.2⟩
      · have e81 := qr 81 (by decide)
        match i, hi with
        | 0, _ => exact congrFun e81 0
        | 1, _ => exact congrFun e81 1
        | 2, _ => exact congrFun e81 2
        | 3, _ => exact congrFun e81 10
        | 4, _ => exact congrFun e81 15
        | i + 5, z => omega
    · have d0 : d = 0 := by omega
      have o0 : o = 0 := by omega
      subst d0
      subst o0
      refine ⟨0, _, _, _, _, NM, ds, run, fun F => ?_, H0.draw (V' := fvL NM) hk w1 (by omega) w3 R.1 R.2.1 R.2.2.1 R.2.2.2.1 R.2.2.2.2.1 R.2.2.2.2.2.1 R.2.2.2.2.2.2.1 R.2.2.2.2.2.2.2.1 (fun j hj z1 z2 z3 z4 z5 z6 z7 z8 => fc _ (by unfold outC; omega)) ?_ ?_ ?_ ?_ ?_ ?_ ?_ (fun j hj z1 z2 z3 z4 z5 z6 z7 => rfl) (fun i hi => rfl), le, fc, fun q hq => rfl⟩
      · rw [st F, if_neg (by omega)]
        rfl
      · exact (dRow1_id _ _ _ (by rw [o3]; rfl)).symm
      · rw [o4, tkO_zero]
      · exact (dRow1_id _ _ _ (Int32.add_zero _)).symm
      · exact (dRow1_id _ _ _ (Int32.add_zero _)).symm
      · exact (adR_id _ _ _ _ (fun l => tk_zero _ _ l)).symm
      · exact (dRow1_id _ _ _ (Int32.add_zero _)).symm
      · exact (dRow1_id _ _ _ (Int32.add_zero _)).symm
theorem draws_both {LC LM : Nat → Nat → Int64} {w h hr le we : Nat} {sd gs wp wc ww wo : Nat → Nat} : ∀ (r k s : Nat) (wt ol ws B : Nat → Nat) (NC NM : gN), k + r = we → FRX (fun j => NC (1 + j)) (fvL NM) w h hr le we sd gs wt ol wp wc ww wo ws B → (∀ c, c < 36 → osum ol c + wt c < 2 ^ 20) →
    ∃ (s' : Nat) (wt' ol' ws' : Nat → Nat) (NC' NM' : gN), dAll hr wc ww wo r k (s, wt, ol, ws) = (s', wt', ol', ws') ∧ (∀ K F, r < F → L_Town_letHourGo_4 1 46 K F (nI s) (nI k) (NC, LC) = K (nI s') (nI we) (NC', LC)) ∧ (∀ F, r < F → L_MO_draws_4 F (nI s) (nI k) (NM, LM) = some (nI s', (NM', LM))) ∧
      FRX (fun j => NC' (1 + j)) (fvL NM') w h hr le we sd gs wt' ol' wp wc ww wo ws' (fun j => if k ≤ j then B j + 60 else B j) ∧ (∀ c, wt' c ≤ wt c ∧ osum ol' c ≤ osum ol c) ∧ (∀ q, outC q → NC' q = NC q) ∧ ∀ q, outM q → NM' q = NM q := by
  intro r
  induction r with
  | zero =>
    intro k s wt ol ws B NC NM hk H hb
    have e : k = we := by omega
    subst e
    have C18 : NC 18 0 = nI k := H.2.2.1.2.2.2.2.2
    have M15 : NM 81 15 = nI k := H.2.1.2.2.2.2
    have h10 := H.1.2.2.2.2.2.2
    refine ⟨s, wt, ol, ws, NC, NM, rfl, fun K F hF => ?_, fun F hF => ?_, H.bmono (fun j _ => by split <;> omega), fun c => ⟨Nat.le_refl _, Nat.le_refl _⟩, fun q _ => rfl, fun q _ => rfl⟩
    · obtain ⟨F, rfl⟩ : ∃ F', F = F' + 1 := ⟨F - 1, by omega⟩
      rw [L4h_s]
      simp (disch := omega) only [gfd_eq, glet_eq, gbind_eq, nI_ltI, nI_1, gok_nI, grd_nI, nI_clamp, if_true, if_false, Nat.lt_irrefl, C18, Nat.reduceAdd, i10, gokT]
    · obtain ⟨F, rfl⟩ : ∃ F', F = F' + 1 := ⟨F - 1, by omega⟩
      rw [L4d_s]
      simp (disch := omega) only [gfd_eq, glet_eq, gbind_eq, nI_ltI, nI_1, gok_nI, grd_nI, nI_clamp, if_true, if_false, Nat.lt_irrefl, M15, i10, gokT]
  | succ r ih =>
    intro k s wt ol ws B NC NM hk H hb
    obtain ⟨o, wt1, ol1, ws1, NC1, NM1, h0, h1, h2, h3, h4, h5, h6⟩ := draw_one (LC := LC) (LM := LM) (s := s) (k := k) H (by omega) hb
    obtain ⟨s', wt2, ol2, ws2, NC2, NM2, j0, j1, j2, j3, j4, j5, j6⟩ := ih (k + 1) (s + o) wt1 ol1 ws1 _ NC1 NM1 (by omega) h3 (fun c hc => by have := hb c hc; have := h4 c; omega)
    refine ⟨s', wt2, ol2, ws2, NC2, NM2, by show dAll hr wc ww wo r (k + 1) (dStep hr wc ww wo k (s, wt, ol, ws)) = _; rw [h0]; exact j0, fun K F hF => ?_, fun F hF => ?_, j3.bmono (fun j hj => ?_), fun c => ⟨Nat.le_trans (j4 c).1 (h4 c).1, Nat.le_trans (j4 c).2 (h4 c).2⟩, fun q hq => (j5 q hq).trans (h5 q hq), fun q hq => (j6 q hq).trans (h6 q hq)⟩
    · obtain ⟨F, rfl⟩ : ∃ F', F = F' + 1 := ⟨F - 1, by omega⟩
      rw [h1 K F, j1 K F (by omega)]
    · obtain ⟨F, rfl⟩ : ∃ F', F = F' + 1 := ⟨F - 1, by omega⟩
      rw [h2 F, j2 F (by omega)]
    · show (if k + 1 ≤ j then (if j = k then B j + 60 else B j) + 60 else (if j = k then B j + 60 else B j)) ≤ if k ≤ j then B j + 60 else B j
      by_cases e : j = k
      · rw [if_neg (by omega), if_pos e, if_pos (by omega)]; omega
      · by_cases e2 : k + 1 ≤ j
        · rw [if_pos e2, if_neg e, if_pos (by omega)]; omega
        · rw [if_neg e2, if_neg e, if_neg (by omega)]; omega
