/-! ===== the end of an hour, the town's side ===== -/
section HC
variable (w h : Nat) (sd gs wt os : Nat → Nat)
def foF (t : Nat) : Nat := flo w h sd (fun c => os c + wt c + gs c) os wt (t / 4) (t % 4)
def fwF (t : Nat) : Nat := flw w h sd (fun c => os c + wt c + gs c) os wt (t / 4) (t % 4)
def ddF (t : Nat) : Nat := nbr w h (t / 4) (t % 4)
def acF (t : Nat) : Bool := acb w h sd (fun c => os c + wt c + gs c) os wt t
theorem foF_sum (c : Nat) : gsum (fun s => foF w h sd gs wt os (4 * c + s)) 4 ≤ os c := by
  refine Nat.le_trans (Nat.le_of_eq (gsum_congr fun s hs => ?_)) (flo_sum w h sd (fun c => os c + wt c + gs c) os wt c)
  unfold foF
  rw [show (4 * c + s) / 4 = c by omega, show (4 * c + s) % 4 = s by omega]
theorem fwF_sum (c : Nat) : gsum (fun s => fwF w h sd gs wt os (4 * c + s)) 4 ≤ wt c := by
  refine Nat.le_trans (Nat.le_of_eq (gsum_congr fun s hs => ?_)) (flw_sum w h sd (fun c => os c + wt c + gs c) os wt c)
  unfold fwF
  rw [show (4 * c + s) / 4 = c by omega, show (4 * c + s) % 4 = s by omega]
theorem fF_none {t : Nat} (hb : acF w h sd gs wt os t = false) : foF w h sd gs wt os t = 0 ∧ fwF w h sd gs wt os t = 0 := fl_none w h sd (fun c => os c + wt c + gs c) os wt hb
theorem fF_act {t : Nat} (hw : 1 ≤ w) (ht : t < 4 * (w * h)) (hb : acF w h sd gs wt os t = true) : ddF w h t < w * h ∧ vtF w h t = nI (ddF w h t) := by
  have hb' : acb w h sd (fun c => os c + wt c + gs c) os wt t = true := hb
  unfold acb at hb'
  rw [Bool.and_eq_true, decide_eq_true_eq, decide_eq_true_eq] at hb'
  have h2 := hb'.2
  unfold wnt at h2
  have ne : ¬ nbr w h (t / 4) (t % 4) = 100 := fun e => by rw [if_pos e] at h2; omega
  rcases nbr_lt (w := w) (h := h) (c := t / 4) hw (by omega) (t % 4) with e | e
  · exact absurd e ne
  · refine ⟨e, ?_⟩
    unfold vtF nbI
    rw [if_neg ne]
    rfl
theorem fF_far (hw : 1 ≤ w) : ∀ t, t < 4 * (w * h) → (ddF w h t < w * h ∨ foF w h sd gs wt os t = 0) ∧ (ddF w h t < w * h ∨ fwF w h sd gs wt os t = 0) := by
  intro t ht
  cases hb : acF w h sd gs wt os t with
  | true => exact ⟨Or.inl (fF_act w h sd gs wt os hw ht hb).1, Or.inl (fF_act w h sd gs wt os hw ht hb).1⟩
  | false => exact ⟨Or.inr (fF_none w h sd gs wt os hb).1, Or.inr (fF_none w h sd gs wt os hb).2⟩
end HC
/-- lots, water after the flows -/
def flO (w h : Nat) (sd gs wt ol : Nat → Nat) : Nat → Nat := fun q => mvO ol (foF w h sd gs wt (osum ol)) (4 * (w * h)) q + mvA ol (foF w h sd gs wt (osum ol)) (ddF w h) (4 * (w * h)) q
def flW (w h : Nat) (sd gs wt os : Nat → Nat) : Nat → Nat := mvW wt (fwF w h sd gs wt os) (ddF w h) (4 * (w * h))
theorem osum_add (f g : Nat → Nat) (c : Nat) : osum (fun q => f q + g q) c = osum f c + osum g c := by
  rw [osum_eq, osum_eq, osum_eq]
  exact gsum_add _ _ 9
theorem cl_hourEnd {w h : Nat} {sd gs wt ol : Nat → Nat} {hr : Nat} {N : gN} {L : Nat → Nat → Int64} (A : PoolAt N 3 w h sd gs wt (osum ol)) (O : PoolOk w h sd gs wt (osum ol)) (h11 : N 11 = fun i => nI (ol i)) (h9 : N 9 = fun c => nI (osum ol c)) (h8 : N 8 = fun c => nI (wt c)) (h4 : N 1 4 = nI hr) (hb : ∀ c, c < 36 → osum ol c < 2 ^ 31) (v1 v2 : Int32) :
    ∃ (N' : gN) (L' : Nat → Nat → Int64), J_Town_letHourGo_45 1 46 v1 v2 (N, L) = some (v1, (N', L')) ∧ N' 11 = (fun i => nI (flO w h sd gs wt ol i)) ∧ N' 9 = (fun c => nI (osum (flO w h sd gs wt ol) c)) ∧ N' 8 = (fun c => nI (flW w h sd gs wt (osum ol) c)) ∧ N' 1 4 = nI (hr + 1) ∧ (∀ q, q ≠ 4 → N' 1 q = N 1 q) ∧ ∀ q, q ≠ 1 → q ≠ 8 → q ≠ 9 → q ≠ 11 → (q < 46 ∨ 54 ≤ q) → N' q = N q := by
  have h36 := O.n36
  obtain ⟨L1, ms⟩ := cl_measure (m := (N, L)) (a := 46) A O (by decide)
  have hT : 4 * (w * h) ≤ 144 := by omega
  have R := msN_rows N 46 (acF w h sd gs wt (osum ol)) vfF (vtF w h) (voF w h sd (fun c => osum ol c + wt c + gs c) (osum ol) wt) (vwF w h sd (fun c => osum ol c + wt c + gs c) (osum ol) wt) (4 * (w * h))
  have nS : ∀ q, q < 46 ∨ q = 47 ∨ q = 48 ∨ 53 ≤ q → msA N 46 w h sd gs wt (osum ol) (4 * (w * h)) q = N q := fun q hq => msN_ne (by omega)
  have R : msA N 46 w h sd gs wt (osum ol) (4 * (w * h)) 49 = _ ∧ msA N 46 w h sd gs wt (osum ol) (4 * (w * h)) 50 = _ ∧ msA N 46 w h sd gs wt (osum ol) (4 * (w * h)) 51 = _ ∧ msA N 46 w h sd gs wt (osum ol) (4 * (w * h)) 52 = _ ∧ msA N 46 w h sd gs wt (osum ol) (4 * (w * h)) 46 2 = _ := R
  generalize hS : msA N 46 w h sd gs wt (osum ol) (4 * (w * h)) = S at *
  -- the row of arrivals emptied
  let S1 : gN := (gfil (S, L1) 53 324 0).1
  have s1 : ∀ q, q ≠ 53 → S1 q = S q := fun q hq => gfil_ne hq
  have s53 : ∀ q, q < 324 → S1 53 q = 0 := fun q hq => by
    show (gfil (S, L1) 53 324 0).1 53 q = 0
    rw [gfil_at, if_pos hq]
  have act := fun t ht hb => fF_act w h sd gs wt (osum ol) (t := t) O.1.1 ht hb
  obtain ⟨N2, t11, t9, t53, tS, trun⟩ := mgTake (T := 4 * (w * h)) (b := acF w h sd gs wt (osum ol)) (ol := ol) (fo := foF w h sd gs wt (osum ol)) (dd := ddF w h) (vt := vtF w h) (vo := voF w h sd (fun c => osum ol c + wt c + gs c) (osum ol) wt) (S := S1) (L := L1) (fun v7 m8 => J_Currents_moveGround_83 46 2 v7 m8) hT ((congrFun (s1 46 (by decide)) 2).trans R.2.2.2.2) ((s1 49 (by decide)).trans R.1) ((s1 50 (by decide)).trans R.2.1) ((s1 51 (by decide)).trans R.2.2.1) (fun t ht hbt => ⟨rfl, (act t ht hbt).2, by have := (act t ht hbt).1; omega⟩) (fun t hbt => (fF_none w h sd gs wt (osum ol) hbt).1) (foF_sum w h sd gs wt (osum ol)) hb (4 * (w * h)) 0 S1 (by omega) (by rw [s1 11 (by decide), nS 11 (by omega), h11]; rfl) (by rw [s1 9 (by decide), nS 9 (by omega), h9]; rfl) (fun q hq => by rw [s53 q hq]; rfl) (fun q _ _ _ _ => rfl)
  have trun := trun 1000 (by have := cnt_le (acF w h sd gs wt (osum ol)) (4 * (w * h)); omega)
  have p2 := cl_put2 (n := w * h) (O := mvO ol (foF w h sd gs wt (osum ol)) (4 * (w * h))) (A := mvA ol (foF w h sd gs wt (osum ol)) (ddF w h) (4 * (w * h))) (N := N2) (L := L1) (fun v3 m3 => J_Currents_moveGround_164 46 2 v3 m3) h36 (by rw [tS 3 (by decide) (by decide) (by decide) (by decide), s1 3 (by decide), nS 3 (by omega)]; exact A.1.2.2) t11 t9 t53
  -- rows after that
  have far := fF_far w h sd gs wt (osum ol) O.1.1
  have e11 : ggR (mvO ol (foF w h sd gs wt (osum ol)) (4 * (w * h))) (mvA ol (foF w h sd gs wt (osum ol)) (ddF w h) (4 * (w * h))) (9 * (w * h)) = fun i => nI (flO w h sd gs wt ol i) := by
    funext q
    unfold ggR flO
    by_cases z : q < 9 * (w * h)
    · rw [if_pos z]
    · rw [if_neg z]
      rw [mvA_far (n := w * h) (T := 4 * (w * h)) (fun t ht => (far t ht).1) (by omega) _ (Nat.le_refl _)]
      rfl
  have e9 : ggS (mvO ol (foF w h sd gs wt (osum ol)) (4 * (w * h))) (mvA ol (foF w h sd gs wt (osum ol)) (ddF w h) (4 * (w * h))) (w * h) 0 = fun c => nI (osum (flO w h sd gs wt ol) c) := by
    funext q
    have eA : w * h ≤ q → osum (mvA ol (foF w h sd gs wt (osum ol)) (ddF w h) (4 * (w * h))) q = 0 := fun hq => by
      rw [osum_eq]
      exact gsum_congr (n := 9) (g := fun _ => 0) (fun l _ => mvA_far (n := w * h) (T := 4 * (w * h)) (fun t ht => (far t ht).1) (by omega) _ (Nat.le_refl _))
    have es : osum (flO w h sd gs wt ol) q = osum (mvO ol (foF w h sd gs wt (osum ol)) (4 * (w * h))) q + osum (mvA ol (foF w h sd gs wt (osum ol)) (ddF w h) (4 * (w * h))) q := osum_add _ _ q
    rw [es]
    unfold ggS
    by_cases z : q < w * h
    · rw [if_pos z]
    · rw [if_neg z, eA (by omega)]
      by_cases z2 : q = w * h
      · rw [if_pos z2, z2]
      · rw [if_neg z2]; rfl
  rw [e11, e9] at p2
  let N3 : gN := grw (grw N2 11 (fun i => nI (flO w h sd gs wt ol i))) 9 (fun c => nI (osum (flO w h sd gs wt ol) c))
  have n3 : ∀ q, q ≠ 9 → q ≠ 11 → q ≠ 47 → q ≠ 53 → N3 q = S q := fun q z1 z2 z3 z4 => by
    show grw (grw N2 11 _) 9 _ q = _
    rw [grw_ne z1, grw_ne z2, tS q z1 z2 z3 z4, s1 q z4]
  have mw := mvWat (a := 46) (p := 3) (T := 4 * (w * h)) (b := acF w h sd gs wt (osum ol)) (wt := wt) (fw := fwF w h sd gs wt (osum ol)) (dd := ddF w h) (vt := vtF w h) (vw := vwF w h sd (fun c => osum ol c + wt c + gs c) (osum ol) wt) (N := N3) (L := L1) hT ((congrFun (n3 46 (by decide) (by decide) (by decide) (by decide)) 2).trans R.2.2.2.2) ((n3 49 (by decide) (by decide) (by decide) (by decide)).trans R.1) ((n3 50 (by decide) (by decide) (by decide) (by decide)).trans R.2.1) ((n3 52 (by decide) (by decide) (by decide) (by decide)).trans R.2.2.2.1) (fun t ht hbt => ⟨rfl, (act t ht hbt).2, by have := (act t ht hbt).1; omega⟩) (fun t hbt => (fF_none w h sd gs wt (osum ol) hbt).2) (fwF_sum w h sd gs wt (osum ol)) (by decide) (4 * (w * h)) 0 1000 (by omega) (by have := cnt_le (acF w h sd gs wt (osum ol)) (4 * (w * h)); omega)
  have e8 : grw N3 (3 + 5) (fun q => nI (mvW wt (fwF w h sd gs wt (osum ol)) (ddF w h) 0 q)) = N3 := by
    have : N3 8 = fun q => nI (mvW wt (fwF w h sd gs wt (osum ol)) (ddF w h) 0 q) := by rw [n3 8 (by decide) (by decide) (by decide) (by decide), nS 8 (by omega), h8]; rfl
    show grw N3 8 _ = N3
    rw [← this, grw_id]
  rw [e8] at mw
  have mw : f_Currents_moveWater 46 (2 + 1) (N3, L1) = some (grw N3 8 (fun q => nI (flW w h sd gs wt (osum ol) q)), L1) := mw
  have fl := f_fill_eq 53 324 0 (S, L1) (by decide)
  have S1e : gfil (S, L1) 53 324 0 = (S1, L1) := rfl
  have p2 : L_Currents_moveGround_85 46 2 (fun v3 m3 => J_Currents_moveGround_164 46 2 v3 m3) 1000 0 (N2, L1) = J_Currents_moveGround_164 46 2 (nI (w * h)) (N3, L1) := p2
  have trun : L_Currents_moveGround_10 46 2 (fun v7 m8 => J_Currents_moveGround_83 46 2 v7 m8) 1000 0 (S1, L1) = J_Currents_moveGround_83 46 2 (nI (cnt (acF w h sd gs wt (osum ol)) (4 * (w * h)))) (N2, L1) := trun
  have mg : f_Currents_moveGround 46 2 (S, L1) = some (grw N3 8 (fun q => nI (flW w h sd gs wt (osum ol) q)), L1) := by
    unfold f_Currents_moveGround
    rw [show 46 + 7 = 53 from rfl, fl, gbind_eq, S1e, trun]
    unfold J_Currents_moveGround_83
    rw [p2]
    unfold J_Currents_moveGround_164
    rw [mw, gbind_eq]
  have ms : f_Currents_measure 46 (1 + 2) (N, L) = some (S, L1) := ms
  have r1 : ∀ q, grw N3 8 (fun q => nI (flW w h sd gs wt (osum ol) q)) 1 q = N 1 q := fun q => by
    rw [grw_ne (by decide), n3 1 (by decide) (by decide) (by decide) (by decide), nS 1 (by omega)]
  refine ⟨gup (grw N3 8 (fun q => nI (flW w h sd gs wt (osum ol) q))) 1 4 (nI (hr + 1)), L1, ?_, ?_, ?_, ?_, gup_at _ _ _ _, fun q hq => ?_, fun q z1 z2 z3 z4 z5 => ?_⟩
  · have e4 := r1 4
    rw [h4] at e4
    unfold J_Town_letHourGo_45
    rw [ms, gbind_eq, show 1 + 1 = 2 from rfl, mg, gbind_eq, glet_eq, gfd_eq]
    show some (v1, gsf (grw N3 8 (fun q => nI (flW w h sd gs wt (osum ol) q)), L1) 1 4 (grw N3 8 (fun q => nI (flW w h sd gs wt (osum ol) q)) 1 4 + 1)) = _
    rw [e4, nI_1, gsf_eq]
  · rw [gup_ne (by decide), grw_ne (by decide)]
    show grw (grw N2 11 _) 9 _ 11 = _
    rw [grw_ne (by decide), grw_eq]
  · rw [gup_ne (by decide), grw_ne (by decide)]
    exact grw_eq _ _ _
  · rw [gup_ne (by decide), grw_eq]
  · rw [gup_col hq, r1 q]
  · rw [gup_ne z1, grw_ne z2, n3 q z3 z4 (by omega) (by omega), nS q (by omega)]
