/-! ===== a race: hours, gains on the class's side ===== -/
def rIt (f : rT → rT) : Nat → rT → rT
  | 0, s => s
  | n + 1, s => rIt f n (f s)
theorem rOk.it {w h : Nat} {sd gs : Nat → Nat} {f : rT → rT} (hf : ∀ s, rOk w h sd gs s → rOk w h sd gs (f s)) : ∀ (r : Nat) (s : rT), rOk w h sd gs s → rOk w h sd gs (rIt f r s)
  | 0, _, O => O
  | r + 1, s, O => rOk.it hf r (f s) (hf s O)
section RCB
variable {w h we n v set : Nat} {sd gs wp wc ww wo sp : Nat → Nat}
theorem cl_rFlow {N : gN} {L : Nat → Nat → Int64} {s : rT} (R : RCl N w h sd gs s) (O : rOk w h sd gs s) : ∃ (m5 : gM) (N' : gN) (L' : Nat → Nat → Int64), f_Currents_measure 62 55 (N, L) = some m5 ∧ f_Currents_movePool 62 55 m5 = some (N', L') ∧ RCl N' w h sd gs (rF w h sd gs s) ∧ ∀ q, q < 60 ∨ 70 ≤ q → N' q = N q := by
  obtain ⟨os, wt, cm⟩ := s
  have O : PoolOk w h sd gs wt os := O
  have A : PoolAt N 55 w h sd gs wt os := R.pool
  have h36 := O.n36
  obtain ⟨L1, ms⟩ := cl_measure (m := (N, L)) (a := 62) A O (by decide)
  have hT : 4 * (w * h) ≤ 144 := by omega
  have Q := msN_rows N 62 (acF w h sd gs wt os) vfF (vtF w h) (voF w h sd (fun c => os c + wt c + gs c) os wt) (vwF w h sd (fun c => os c + wt c + gs c) os wt) (4 * (w * h))
  have nS : ∀ q, q < 62 ∨ q = 63 ∨ q = 64 ∨ 69 ≤ q → msA N 62 w h sd gs wt os (4 * (w * h)) q = N q := fun q hq => msN_ne (by omega)
  have Q : msA N 62 w h sd gs wt os (4 * (w * h)) 65 = _ ∧ msA N 62 w h sd gs wt os (4 * (w * h)) 66 = _ ∧ msA N 62 w h sd gs wt os (4 * (w * h)) 67 = _ ∧ msA N 62 w h sd gs wt os (4 * (w * h)) 68 = _ ∧ msA N 62 w h sd gs wt os (4 * (w * h)) 62 2 = _ := Q
  have ms : f_Currents_measure 62 55 (N, L) = some (msA N 62 w h sd gs wt os (4 * (w * h)), L1) := ms
  generalize hS : msA N 62 w h sd gs wt os (4 * (w * h)) = S at *
  have act := fun t ht hb => fF_act w h sd gs wt os (t := t) O.1.1 ht hb
  have cl := cnt_le (acF w h sd gs wt os) (4 * (w * h))
  have e61 : grw S 61 (fun q => nI (mvW os (foF w h sd gs wt os) (ddF w h) 0 q)) = S := by
    have : S 61 = fun q => nI (mvW os (foF w h sd gs wt os) (ddF w h) 0 q) := by rw [nS 61 (by omega)]; exact R.2.2.2.2.1
    rw [← this, grw_id]
  have mp := mvPool (a := 62) (p := 55) (T := 4 * (w * h)) (b := acF w h sd gs wt os) (wt := os) (fw := foF w h sd gs wt os) (dd := ddF w h) (vt := vtF w h) (vw := voF w h sd (fun c => os c + wt c + gs c) os wt) (N := S) (L := L1) (fun v2 m2 => J_Currents_movePool_56 62 55 v2 m2) hT Q.2.2.2.2 Q.1 Q.2.1 Q.2.2.1 (fun t ht hbt => ⟨rfl, (act t ht hbt).2, by have := (act t ht hbt).1; omega⟩) (fun t hbt => (fF_none w h sd gs wt os hbt).1) (foF_sum w h sd gs wt os) (by decide) (4 * (w * h)) 0 1000 (by omega) (by omega)
  have mp : L_Currents_movePool_2 62 55 (fun v2 m2 => J_Currents_movePool_56 62 55 v2 m2) 1000 0 (grw S 61 (fun q => nI (mvW os (foF w h sd gs wt os) (ddF w h) 0 q)), L1) = J_Currents_movePool_56 62 55 (nI (cnt (acF w h sd gs wt os) (4 * (w * h)))) (grw S 61 (fun q => nI (flS w h sd gs wt os q)), L1) := mp
  rw [e61] at mp
  let N3 : gN := grw S 61 (fun q => nI (flS w h sd gs wt os q))
  have n3 : ∀ q, q ≠ 61 → N3 q = S q := fun q hq => grw_ne hq
  have mw := mvWat (a := 62) (p := 55) (T := 4 * (w * h)) (b := acF w h sd gs wt os) (wt := wt) (fw := fwF w h sd gs wt os) (dd := ddF w h) (vt := vtF w h) (vw := vwF w h sd (fun c => os c + wt c + gs c) os wt) (N := N3) (L := L1) hT ((congrFun (n3 62 (by decide)) 2).trans Q.2.2.2.2) ((n3 65 (by decide)).trans Q.1) ((n3 66 (by decide)).trans Q.2.1) ((n3 68 (by decide)).trans Q.2.2.2.1) (fun t ht hbt => ⟨rfl, (act t ht hbt).2, by have := (act t ht hbt).1; omega⟩) (fun t hbt => (fF_none w h sd gs wt os hbt).2) (fwF_sum w h sd gs wt os) (by decide) (4 * (w * h)) 0 1000 (by omega) (by omega)
  have e60 : grw N3 60 (fun q => nI (mvW wt (fwF w h sd gs wt os) (ddF w h) 0 q)) = N3 := by
    have : N3 60 = fun q => nI (mvW wt (fwF w h sd gs wt os) (ddF w h) 0 q) := by rw [n3 60 (by decide), nS 60 (by omega)]; exact R.2.2.2.1
    rw [← this, grw_id]
  have mw : L_Currents_moveWater_2 62 55 1000 0 (grw N3 60 (fun q => nI (mvW wt (fwF w h sd gs wt os) (ddF w h) 0 q)), L1) = some (grw N3 60 (fun q => nI (flW w h sd gs wt os q)), L1) := mw
  rw [e60] at mw
  refine ⟨(S, L1), grw N3 60 (fun q => nI (flW w h sd gs wt os q)), L1, ms, ?_, ?_, fun q hq => ?_⟩
  · unfold f_Currents_movePool
    rw [mp]
    unfold J_Currents_movePool_56 f_Currents_moveWater
    have mw : L_Currents_moveWater_2 62 55 1000 0 (grw S 61 (fun q => nI (flS w h sd gs wt os q)), L1) = some (grw N3 60 (fun q => nI (flW w h sd gs wt os q)), L1) := mw
    rw [mw, gbind_eq]
  · refine R.cong (fun q h1 h2 => ?_) (grw_eq _ _ _) ?_ (fun q hq => ?_)
    · rw [grw_ne (by omega), n3 q (by omega), nS q (by omega)]
    · rw [grw_ne (by decide)]
      exact grw_eq _ _ _
    · rw [grw_ne (by decide), n3 70 (by decide), nS 70 (by omega)]
      exact R.2.2.2.2.2 q hq
  · rw [grw_ne (by omega), n3 q (by omega), nS q (by omega)]
theorem cl_rHours {H : Nat} (hs : set < 16) (hH : H ≤ 24) (hg : ∀ c, gs c ≤ 999) (K : Int32 → gM → Option gM) : ∀ (r k : Nat) (s : rT) (N : gN) (L : Nat → Nat → Int64), k + r = H → RCl N w h sd gs s → rOk w h sd gs s → RWl N w h we wp wc ww wo → RRc N w h n v sp → N 54 7 = nI H → ∃ (N' : gN) (L' : Nat → Nat → Int64), RCl N' w h sd gs (rIt (rH w h sd gs we wp wc ww wo n sp v set) r s) ∧ (∀ q, q < 60 ∨ 71 ≤ q → N' q = N q) ∧ ∀ F, r < F → L_Race_run_25 54 1 33 (nI set) K F (nI k) (N, L) = K (nI H) (N', L') := by
  intro r
  induction r with
  | zero =>
    intro k s N L hk R O W P h7
    refine ⟨N, L, R, fun q _ => rfl, fun F hF => ?_⟩
    obtain ⟨F, rfl⟩ : ∃ F', F = F' + 1 := ⟨F - 1, by omega⟩
    have e : k = H := by omega
    subst e
    rw [L_Race_run_25_s]
    simp (disch := omega) only [gfd_eq, glet_eq, gbind_eq, nI_ltI, nI_1, gok_nI, grd_nI, nI_clamp, if_true, if_false, Nat.lt_irrefl, h7, i10, gokT]
  | succ r ih =>
    intro k s N L hk R O W P h7
    obtain ⟨N1, R1, f1, r1⟩ := cl_rAll (L := L) hs R O W P
    have O1 := rOk.fold (fun k s => rOk.racer (sp := sp) (v := v) (set := set) k s) n 0 _ (rOk.fold (fun k s => rOk.well (wp := wp) (wc := wc) (ww := ww) (wo := wo) k s) we 0 s O)
    obtain ⟨m5, N2, L2, r2, r3, R2, f2⟩ := cl_rFlow (L := L) R1 O1
    have fr : ∀ q, q < 60 ∨ 71 ≤ q → N2 q = N q := fun q hq => (f2 q (by omega)).trans (f1 q (by omega) (by omega) (by omega))
    obtain ⟨N3, L3, R3, f3, run⟩ := ih (k + 1) _ N2 L2 (by omega) R2 (PoolOk.flow O1 hg) (W.cong (fun q hq => fr q (by omega))) (P.cong (fun q hq => fr q (by omega))) (by rw [fr 54 (by omega)]; exact h7)
    refine ⟨N3, L3, R3, fun q hq => (f3 q hq).trans (fr q hq), fun F hF => ?_⟩
    obtain ⟨F, rfl⟩ : ∃ F', F = F' + 1 := ⟨F - 1, by omega⟩
    have hkH : k < H := by omega
    have r1' : f_Race_drawAll 54 (1 + 17) 33 (nI set) (N, L) = some (N1, L) := r1
    have r2' : f_Currents_measure (54 + 8) (54 + 1) (N1, L) = some m5 := r2
    have r3' : f_Currents_movePool (54 + 8) (54 + 1) m5 = some (N2, L2) := r3
    rw [L_Race_run_25_s]
    simp (disch := omega) only [gfd_eq, glet_eq, gbind_eq, nI_ltI, nI_1, gok_nI, grd_nI, nI_clamp, if_true, if_false, Nat.lt_irrefl, h7, hkH, r1', r2', r3', i10, gokT]
    exact run F (by omega)
/-- what one has gained -/
def rG (cost set : Nat) (cm : Nat → Int32) (p : Nat) : Int32 := if set / 2 ^ p % 2 = 1 then cm p - nI cost else cm p
def rGr (f : Nat → Int32) (set : Nat) (g : Nat → Int32) (j : Nat) : Nat → Int32 := fun q => if 4 * set ≤ q ∧ q < 4 * set + j then g (q - 4 * set) else f q
theorem rGr_0 (f : Nat → Int32) (set : Nat) (g : Nat → Int32) : rGr f set g 0 = f := by
  funext q
  exact if_neg (by omega)
theorem rGr_s (N : gN) (a set : Nat) (f g : Nat → Int32) (j : Nat) : gup (grw N a (rGr f set g j)) a (4 * set + j) (g j) = grw N a (rGr f set g (j + 1)) := by
  rw [gup_grw, grw_grw, grw_eq]
  congr 1
  funext q
  unfold rGr
  by_cases h : q = 4 * set + j
  · rw [if_pos h, if_pos (by omega), h, show 4 * set + j - 4 * set = j by omega]
  · rw [if_neg h]
    by_cases h2 : 4 * set ≤ q ∧ q < 4 * set + j
    · rw [if_pos h2, if_pos (by omega)]
    · rw [if_neg h2, if_neg (by omega)]
theorem n4c : (4 : Int32) = nI 4 := rfl
theorem cl_rGains {cost : Nat} {N : gN} {L : Nat → Nat → Int64} {cm : Nat → Int32} (hs : set < 16) (hn : n ≤ 4) (h4 : N 54 4 = nI n) (h6 : N 54 6 = nI cost) (h70 : ∀ p, p < 6 → N 70 p = cm p) : L_Race_run_75 54 (nI set) 1000 0 (N, L) = some (grw N 71 (rGr (N 71) set (rG cost set cm) n), L) := by
  unfold L_Race_run_75
  refine gloopS0 (fun (g : Int32 → gM → Option gM) j (s : gM) => g (nI j) s) n (fun j => (grw N 71 (rGr (N 71) set (rG cost set cm) j), L)) _ ?_ ?_ ?_ 1000 (by omega)
  · show (grw N 71 (rGr (N 71) set (rG cost set cm) 0), L) = _
    rw [rGr_0, grw_id]
  · intro g j hj
    have e4 : grw N 71 (rGr (N 71) set (rG cost set cm) j) 54 4 = nI n := by rw [grw_ne (by decide)]; exact h4
    have e6 : grw N 71 (rGr (N 71) set (rG cost set cm) j) 54 6 = nI cost := by rw [grw_ne (by decide)]; exact h6
    have e70 : grw N 71 (rGr (N 71) set (rG cost set cm) j) 70 j = cm j := by rw [grw_ne (by decide)]; exact h70 j (by omega)
    have dl := fun m => cl_drills (set := set) (p := j) m hs (by omega)
    have n1 : ¬ (1 : Int32) = 0 := by decide
    have z0 : ∀ x : Int32, x - 0 = x := fun x => by simp
    have st := rGr_s N 71 set (N 71) (rG cost set cm) j
    unfold J_Race_run_118
    by_cases c0 : set / 2 ^ j % 2 = 1
    · have eg : rG cost set cm j = cm j - nI cost := if_pos c0
      rw [eg] at st
      simp (disch := omega) only [gfd_eq, glet_eq, gbind_eq, nI_ltI, nI_1, gok_nI, grd_nI, nI_clamp, if_true, if_false, Nat.lt_irrefl, e4, hj, dl, c0, n1, e6, e70, n4c, pk_mul, nI_add, gst_nI, Nat.reduceAdd, i10, gokT]
      rw [Nat.mul_comm set 4, st]
    · have eg : rG cost set cm j = cm j := if_neg c0
      rw [eg] at st
      simp (disch := omega) only [gfd_eq, glet_eq, gbind_eq, nI_ltI, nI_1, gok_nI, grd_nI, nI_clamp, if_true, if_false, Nat.lt_irrefl, e4, hj, dl, c0, e70, n4c, pk_mul, nI_add, gst_nI, z0, Nat.reduceAdd, i10, gokT]
      rw [Nat.mul_comm set 4, st]
  · intro g
    have e4 : grw N 71 (rGr (N 71) set (rG cost set cm) n) 54 4 = nI n := by rw [grw_ne (by decide)]; exact h4
    simp (disch := omega) only [gfd_eq, glet_eq, gbind_eq, nI_ltI, nI_1, gok_nI, grd_nI, nI_clamp, if_true, if_false, Nat.lt_irrefl, e4, i10, gokT]
/-- one race, whole: the class's side -/
theorem cl_rRun {H cost : Nat} {N : gN} {L : Nat → Nat → Int64} {wt ol : Nat → Nat} (hs : set < 16) (hH : H ≤ 24) (hg : ∀ c, gs c ≤ 999) (A : PoolAt N 3 w h sd gs wt (osum ol)) (O : PoolOk w h sd gs wt (osum ol)) (h8 : N 8 = fun c => nI (wt c)) (h9 : N 9 = fun c => nI (osum ol c)) (W : RWl N w h we wp wc ww wo) (P : RRc N w h n v sp) (h6 : N 54 6 = nI cost) (h7 : N 54 7 = nI H) :
    ∃ (N' : gN) (L' : Nat → Nat → Int64) (s : rT), f_Race_run 54 1 33 (nI set) (N, L) = some (N', L') ∧ (∀ q, q < 55 ∨ 72 ≤ q → N' q = N q) ∧ N' 71 = rGr (N 71) set (rG cost set (rIt (rH w h sd gs we wp wc ww wo n sp v set) H s).2.2) n ∧ (∀ c, c < w * h → s.1 c = osum ol c ∧ s.2.1 c = wt c) ∧ ∀ p, p < 6 → s.2.2 p = 0 := by
  have h36 := O.n36
  obtain ⟨g60, e60⟩ := row_nat (N 60)
  obtain ⟨g61, e61⟩ := row_nat (N 61)
  have cp := pool_copy 55 3 (N, L)
  let N1 : gN := (gcpL (gcpL (gcpL (gcpL (gcpL (gcpL (glet (gsf (N, L) 55 0 (gfd (N, L) 3 0)) fun m1 => glet (gsf m1 55 1 (gfd m1 3 1)) fun m2 => gsf m2 55 2 (gfd m2 3 2)) (3 + 1) (55 + 1) 36) (3 + 2) (55 + 2) 36) (3 + 3) (55 + 3) 36) (3 + 4) (55 + 4) 36) (3 + 5) (55 + 5) 36) (3 + 6) (55 + 6) 36).1
  have cp : f_Pool_copyFrom 55 3 (N, L) = some (N1, L) := cp
  have y0 : N1 55 0 = N 3 0 := rfl
  have y1 : N1 55 1 = N 3 1 := rfl
  have y2 : N1 55 2 = N 3 2 := rfl
  have yr : ∀ j q, 1 ≤ j → j ≤ 6 → N1 (55 + j) q = if q < 36 then N (3 + j) q else N (55 + j) q := by
    intro j q h1 h2
    match j, h1, h2 with
    | 1, _, _ => show (if 56 = 56 ∧ q < 36 then N 4 q else N 56 q) = _; simp
    | 2, _, _ => show (if 57 = 57 ∧ q < 36 then N 5 q else N 57 q) = _; simp
    | 3, _, _ => show (if 58 = 58 ∧ q < 36 then N 6 q else N 58 q) = _; simp
    | 4, _, _ => show (if 59 = 59 ∧ q < 36 then N 7 q else N 59 q) = _; simp
    | 5, _, _ => show (if 60 = 60 ∧ q < 36 then N 8 q else N 60 q) = _; simp
    | 6, _, _ => show (if 61 = 61 ∧ q < 36 then N 9 q else N 61 q) = _; simp
  have yo : ∀ q, q < 55 ∨ 62 ≤ q → N1 q = N q := by
    intro q hq
    funext i
    have z : ∀ (m : gM) (b a : Nat), q ≠ a → (gcpL m b a 36).1 q i = m.1 q i := fun m b a hne => if_neg (fun y => hne y.1)
    show (gcpL _ 9 61 36).1 q i = _
    rw [z _ 9 61 (by omega), z _ (3 + 5) (55 + 5) (by omega), z _ (3 + 4) (55 + 4) (by omega), z _ (3 + 3) (55 + 3) (by omega), z _ (3 + 2) (55 + 2) (by omega), z _ (3 + 1) (55 + 1) (by omega)]
    show gup (gup (gup N 55 0 _) 55 1 _) 55 2 _ q i = N q i
    rw [gup_row (by omega), gup_row (by omega), gup_row (by omega)]
  clear_value N1
  let s0 : rT := (fun c => if c < 36 then osum ol c else g61 c, fun c => if c < 36 then wt c else g60 c, fun _ => 0)
  have fl := f_fill_eq 70 6 0 (N1, L) (by decide)
  have N2e : gfil (N1, L) 70 6 0 = ((gfil (N1, L) 70 6 0).1, L) := rfl
  rw [N2e] at fl
  have f2 : ∀ q, q ≠ 70 → (gfil (N1, L) 70 6 0).1 q = N1 q := fun q hq => gfil_ne hq
  have f70 : ∀ q, q < 6 → (gfil (N1, L) 70 6 0).1 70 q = 0 := fun q hq => by rw [gfil_at, if_pos hq]
  generalize (gfil (N1, L) 70 6 0).1 = N2 at fl f2 f70
  have R0 : RCl N2 w h sd gs s0 := by
    obtain ⟨⟨a1, a2, a3⟩, a4, a5⟩ := A
    refine ⟨?_, fun c hc => ?_, fun c hc => ?_, ?_, ?_, fun q hq => f70 q hq⟩
    · rw [f2 55 (by decide), y0, y1, y2]; exact ⟨a1, a2, a3⟩
    · have := a4 c hc
      rw [f2 56 (by decide), f2 57 (by decide), yr 1 c (by decide) (by decide), yr 2 c (by decide) (by decide), if_pos (by omega), if_pos (by omega)]
      exact this
    · have := a5 c hc
      rw [f2 58 (by decide), f2 59 (by decide), yr 3 c (by decide) (by decide), yr 4 c (by decide) (by decide), if_pos (by omega), if_pos (by omega)]
      exact ⟨this.1, this.2.1⟩
    · rw [f2 60 (by decide)]
      funext c
      rw [yr 5 c (by decide) (by decide), show 3 + 5 = 8 from rfl, show 55 + 5 = 60 from rfl, h8, e60]
      show _ = nI (if c < 36 then wt c else g60 c)
      split <;> rfl
    · rw [f2 61 (by decide)]
      funext c
      rw [yr 6 c (by decide) (by decide), show 3 + 6 = 9 from rfl, show 55 + 6 = 61 from rfl, h9, e61]
      show _ = nI (if c < 36 then osum ol c else g61 c)
      split <;> rfl
  have es : ∀ c, c < w * h → s0.1 c = osum ol c ∧ s0.2.1 c = wt c := fun c hc => ⟨if_pos (by omega), if_pos (by omega)⟩
  have O0 : rOk w h sd gs s0 := ⟨O.1, O.2.1, fun c hc => by rw [(es c hc).1, (es c hc).2]; exact O.2.2 c hc⟩
  have fr2 : ∀ q, q < 55 ∨ 71 ≤ q → N2 q = N q := fun q hq => (f2 q (by omega)).trans (yo q (by omega))
  have n54 : N2 54 = N 54 := fr2 54 (by omega)
  obtain ⟨N3, L3, R3, f3, run⟩ := cl_rHours hs hH hg (fun v7 m5 => J_Race_run_72 54 (nI set) v7 m5) H 0 s0 N2 L (by omega) R0 O0 (W.cong (fun q hq => fr2 q (by omega))) (P.cong (fun q hq => fr2 q (by omega))) (by rw [n54]; exact h7)
  have run : L_Race_run_25 54 1 33 (nI set) (fun v7 m5 => J_Race_run_72 54 (nI set) v7 m5) 1000 0 (N2, L) = J_Race_run_72 54 (nI set) (nI H) (N3, L3) := run 1000 (by omega)
  have e71 : N3 71 = N 71 := (f3 71 (by omega)).trans (fr2 71 (by omega))
  have e54 : N3 54 = N 54 := (f3 54 (by omega)).trans n54
  have gg := cl_rGains (cost := cost) (N := N3) (L := L3) (n := n) (cm := (rIt (rH w h sd gs we wp wc ww wo n sp v set) H s0).2.2) hs P.2.2.1 (by rw [e54]; exact P.1) (by rw [e54]; exact h6) R3.2.2.2.2.2
  rw [e71] at gg
  refine ⟨grw N3 71 (rGr (N 71) set (rG cost set (rIt (rH w h sd gs we wp wc ww wo n sp v set) H s0).2.2) n), L3, s0, ?_, fun q hq => ?_, grw_eq _ _ _, es, fun p _ => rfl⟩
  · unfold f_Race_run
    have cp' : f_Pool_copyFrom (54 + 1) (1 + 2) (N, L) = some (N1, L) := cp
    have fl' : f_fill (54 + 16) 6 0 (N1, L) = some (N2, L) := fl
    rw [cp', gbind_eq, fl', gbind_eq, run]
    unfold J_Race_run_72
    exact gg
  · rw [grw_ne (by omega), f3 q (by omega), fr2 q (by omega)]
end RCB
