/-! ===== a race: the class's side ===== -/
theorem L_Race_drawAll_3_s (a : Nat) (p1 : Nat) (k_3 : Int32 → gM → Option (gM)) (F : Nat) (v4 : Int32) (m5 : gM) : L_Race_drawAll_3 a p1 k_3 (F + 1) v4 m5 = (if v4 < (gfd m5 p1 0) then (gok (gib v4 10) (if (grd m5 (p1 + 4) v4) = 0 then (J_Race_drawAll_55 (L_Race_drawAll_3 a p1 k_3 F) v4 m5) else (gok (gib v4 10) (gok (gib (grd m5 (p1 + 1) v4) 6) (gok (gib v4 10) (gok (gib v4 10) ((f_Race_drawFrom a (grd m5 (p1 + 2) v4) (grd m5 (p1 + 3) v4) m5).bind fun (r3 : Int32 × gM) => gok (gib (grd m5 (p1 + 1) v4) 6) (glet (gst r3.2 (a + 16) (grd m5 (p1 + 1) v4) ((grd m5 (a + 16) (grd m5 (p1 + 1) v4)) + r3.1)) fun (m7 : gM) => J_Race_drawAll_55 (L_Race_drawAll_3 a p1 k_3 F) v4 m7)))))))) else (k_3 v4 m5)) := rfl
theorem L_Race_drawAll_64_s (a : Nat) (p2 : Nat) (x3 : Int32) (F : Nat) (v2 : Int32) (m2 : gM) : L_Race_drawAll_64 a p2 x3 (F + 1) v2 m2 = (if v2 < (gfd m2 a 4) then ((f_Race_drills x3 v2 m2).bind fun (r1 : Int32 × gM) => if r1.1 = 0 then (J_Race_drawAll_104 (L_Race_drawAll_64 a p2 x3 F) v2 r1.2) else (gok (gib v2 6) (gok (gib v2 6) ((f_Race_drawFrom a (grd r1.2 p2 v2) (gfd r1.2 a 5) r1.2).bind fun (r2 : Int32 × gM) => gok (gib v2 6) (glet (gst r2.2 (a + 16) v2 ((grd r1.2 (a + 16) v2) + r2.1)) fun (m4 : gM) => J_Race_drawAll_104 (L_Race_drawAll_64 a p2 x3 F) v2 m4))))) else (some m2)) := rfl
theorem L_Race_run_25_s (a : Nat) (p1 : Nat) (p2 : Nat) (x3 : Int32) (k_25 : Int32 → gM → Option (gM)) (F : Nat) (v7 : Int32) (m5 : gM) : L_Race_run_25 a p1 p2 x3 k_25 (F + 1) v7 m5 = (if v7 < (gfd m5 a 7) then ((f_Race_drawAll a (p1 + 17) p2 x3 m5).bind fun (r4 : gM) => (f_Currents_measure (a + 8) (a + 1) r4).bind fun (r5 : gM) => (f_Currents_movePool (a + 8) (a + 1) r5).bind fun (r6 : gM) => (L_Race_run_25 a p1 p2 x3 k_25 F) (v7 + 1) r6) else (k_25 v7 m5)) := rfl
theorem L_Race_run_75_s (a : Nat) (x3 : Int32) (F : Nat) (v2 : Int32) (m2 : gM) : L_Race_run_75 a x3 (F + 1) v2 m2 = (if v2 < (gfd m2 a 4) then (gok (gib v2 6) ((f_Race_drills x3 v2 m2).bind fun (r1 : Int32 × gM) => if r1.1 = 0 then (J_Race_run_118 a (L_Race_run_75 a x3 F) v2 ((x3 * 4) + v2) (grd m2 (a + 16) v2) 0 r1.2) else (J_Race_run_118 a (L_Race_run_75 a x3 F) v2 ((x3 * 4) + v2) (grd m2 (a + 16) v2) (gfd r1.2 a 6) r1.2))) else (some m2)) := rfl
theorem nI_every (x : Int32) : ∃ n, nI n = x := ⟨x.toBitVec.toNat, Int32.toBitVec_inj.mp (by show BitVec.ofNat 32 x.toBitVec.toNat = x.toBitVec; simp)⟩
theorem row_nat (f : Nat → Int32) : ∃ g : Nat → Nat, f = fun q => nI (g q) := ⟨fun q => Classical.choose (nI_every (f q)), funext fun q => (Classical.choose_spec (nI_every (f q))).symm⟩
/-- the race's rows hold these numbers -/
def RCl (N : gN) (w h : Nat) (sd gs : Nat → Nat) (s : rT) : Prop := (N 55 0 = nI w ∧ N 55 1 = nI h ∧ N 55 2 = nI (w * h)) ∧ (∀ c, c < w * h → N 56 c = nI (c % w) ∧ N 57 c = nI (c / w)) ∧ (∀ c, c < w * h → N 58 c = nI (sd c) ∧ N 59 c = nI (gs c)) ∧ N 60 = (fun c => nI (s.2.1 c)) ∧ N 61 = (fun c => nI (s.1 c)) ∧ ∀ p, p < 6 → N 70 p = s.2.2 p
theorem RCl.pool {N : gN} {w h : Nat} {sd gs : Nat → Nat} {s : rT} (R : RCl N w h sd gs s) : PoolAt N 55 w h sd gs s.2.1 s.1 := ⟨R.1, R.2.1, fun c hc => ⟨(R.2.2.1 c hc).1, (R.2.2.1 c hc).2, congrFun R.2.2.2.1 c, congrFun R.2.2.2.2.1 c⟩⟩
theorem RCl.cong {N N' : gN} {w h : Nat} {sd gs : Nat → Nat} {s s' : rT} (R : RCl N w h sd gs s) (e : ∀ q, 55 ≤ q → q ≤ 59 → N' q = N q) (e60 : N' 60 = fun c => nI (s'.2.1 c)) (e61 : N' 61 = fun c => nI (s'.1 c)) (e70 : ∀ p, p < 6 → N' 70 p = s'.2.2 p) : RCl N' w h sd gs s' := by
  refine ⟨?_, ?_, ?_, e60, e61, e70⟩
  · rw [e 55 (by decide) (by decide)]; exact R.1
  · rw [e 56 (by decide) (by decide), e 57 (by decide) (by decide)]; exact R.2.1
  · rw [e 58 (by decide) (by decide), e 59 (by decide) (by decide)]; exact R.2.2.1
/-- the wells that were there; who races -/
def RWl (N : gN) (w h we : Nat) (wp wc ww wo : Nat → Nat) : Prop := N 18 0 = nI we ∧ we ≤ 10 ∧ ∀ k, k < we → N 19 k = nI (wp k) ∧ N 20 k = nI (wc k) ∧ N 21 k = nI (ww k) ∧ N 22 k = nI (wo k) ∧ wp k < 6 ∧ wc k < w * h ∧ ww k ≤ 60 ∧ wo k ≤ 1
def RRc (N : gN) (w h n v : Nat) (sp : Nat → Nat) : Prop := N 54 4 = nI n ∧ N 54 5 = nI v ∧ n ≤ 4 ∧ v ≤ 60 ∧ ∀ p, p < n → N 33 p = nI (sp p) ∧ sp p < w * h
theorem RWl.cong {N N' : gN} {w h we : Nat} {wp wc ww wo : Nat → Nat} (R : RWl N w h we wp wc ww wo) (e : ∀ q, q < 54 → N' q = N q) : RWl N' w h we wp wc ww wo := by
  unfold RWl at R ⊢
  rw [e 18 (by decide), e 19 (by decide), e 20 (by decide), e 21 (by decide), e 22 (by decide)]
  exact R
theorem RRc.cong {N N' : gN} {w h n v : Nat} {sp : Nat → Nat} (R : RRc N w h n v sp) (e : ∀ q, q ≤ 54 → N' q = N q) : RRc N' w h n v sp := by
  unfold RRc at R ⊢
  rw [e 54 (by decide), e 33 (by decide)]
  exact R
section RC
variable {w h we n v set : Nat} {sd gs wp wc ww wo sp : Nat → Nat}
theorem cl_rDraw {N : gN} {L : Nat → Nat → Int64} {c y : Nat} {s : rT} (R : RCl N w h sd gs s) (O : rOk w h sd gs s) (hc : c < w * h) (hv : y ≤ 60) : f_Race_drawFrom 54 (nI c) (nI y) (N, L) = some (nI (dwO y (s.1 c) (s.2.1 c)), (gup (gup N 61 c (nI (s.1 c - dwO y (s.1 c) (s.2.1 c)))) 60 c (nI (s.2.1 c - (dwD y (s.1 c) (s.2.1 c) - dwO y (s.1 c) (s.2.1 c)))), L)) := by
  obtain ⟨w1, w2, w3, w4, w5⟩ := dw_le y (s.1 c) (s.2.1 c)
  have h36 := PoolOk.n36 O
  have hb := O.2.2 c hc
  have hc36 : c < 36 := by omega
  have l1 := cl_liquid (m := (N, L)) R.pool hc h36
  have l2 : f_Pool_barrelsUnder 55 (nI c) (nI y) (N, L) = some (nI (dwD y (s.1 c) (s.2.1 c)), (N, L)) := by
    unfold f_Pool_barrelsUnder
    simp (disch := omega) only [gfd_eq, glet_eq, gbind_eq, nI_ltI, nI_1, gok_nI, grd_nI, nI_clamp, if_true, if_false, Nat.lt_irrefl, l1, i10, gokT]
    rw [gmin_nI (by omega) (by omega)]
    rfl
  have e61 : N 61 c = nI (s.1 c) := congrFun R.2.2.2.2.1 c
  have e60 : N 60 c = nI (s.2.1 c) := congrFun R.2.2.2.1 c
  have l3 : f_Pool_oilAmong 55 (nI c) (nI (dwD y (s.1 c) (s.2.1 c))) (N, L) = some (nI (dwO y (s.1 c) (s.2.1 c)), (N, L)) := by
    unfold f_Pool_oilAmong
    by_cases h0 : 0 < s.1 c + s.2.1 c
    · have ep : Int64.toInt32 ((nI (dwD y (s.1 c) (s.2.1 c))).toInt64 * (nI (s.1 c)).toInt64 / (nI (s.1 c + s.2.1 c)).toInt64) = nI (dwO y (s.1 c) (s.2.1 c)) := long_div (by omega) (by omega) (by omega) h0
      simp (disch := omega) only [gfd_eq, glet_eq, gbind_eq, nI_ltI, nI_1, gok_nI, grd_nI, nI_clamp, if_true, if_false, Nat.lt_irrefl, l1, lt0_nI, h0, gnzL_ok, e61, ep, Nat.reduceAdd, i10, gokT]
    · have ep : dwO y (s.1 c) (s.2.1 c) = 0 := by unfold dwO; rw [show s.1 c + s.2.1 c = 0 by omega, Nat.div_zero]
      simp (disch := omega) only [gfd_eq, glet_eq, gbind_eq, nI_ltI, nI_1, gok_nI, grd_nI, nI_clamp, if_true, if_false, Nat.lt_irrefl, l1, lt0_nI, h0, ep, i10, gokT]
      rfl
  generalize dwD y (s.1 c) (s.2.1 c) = d at *
  generalize dwO y (s.1 c) (s.2.1 c) = o at *
  have e60' : gup N 61 c (nI (s.1 c - o)) 60 c = nI (s.2.1 c) := (gup_row (by decide)).trans e60
  unfold f_Race_drawFrom
  simp (disch := omega) only [gfd_eq, glet_eq, gbind_eq, nI_ltI, nI_1, gok_nI, grd_nI, nI_clamp, if_true, if_false, Nat.lt_irrefl, l2, l3, e61, pk_sub, gst_nI, e60', Nat.reduceAdd, i10, gokT]
theorem RCl.draw {N : gN} {c y p : Nat} {s : rT} (R : RCl N w h sd gs s) : RCl (gup (gup (gup N 61 c (nI (s.1 c - dwO y (s.1 c) (s.2.1 c)))) 60 c (nI (s.2.1 c - (dwD y (s.1 c) (s.2.1 c) - dwO y (s.1 c) (s.2.1 c))))) 70 p (s.2.2 p + nI (dwO y (s.1 c) (s.2.1 c)))) w h sd gs (rD c y p s) := by
  refine R.cong (fun q h1 h2 => by rw [gup_ne (by omega), gup_ne (by omega), gup_ne (by omega)]) ?_ ?_ (fun q hq => ?_)
  · rw [gup_ne (by decide), gup_eq, gup_ne (by decide), R.2.2.2.1]
    funext q
    show (if q = c then nI _ else nI (s.2.1 q)) = nI (if q = c then _ else s.2.1 q)
    by_cases e : q = c
    · rw [if_pos e, if_pos e]
    · rw [if_neg e, if_neg e]
  · rw [gup_ne (by decide), gup_ne (by decide), gup_eq, R.2.2.2.2.1]
    funext q
    show (if q = c then nI _ else nI (s.1 q)) = nI (if q = c then _ else s.1 q)
    by_cases e : q = c
    · rw [if_pos e, if_pos e]
    · rw [if_neg e, if_neg e]
  · rw [gup_eq, gup_ne (by decide), gup_ne (by decide)]
    show (if q = p then _ else N 70 q) = if q = p then _ else s.2.2 q
    rw [R.2.2.2.2.2 q hq]
theorem cl_rWells {L : Nat → Nat → Int64} (K : Int32 → gM → Option gM) : ∀ (r k : Nat) (s : rT) (N : gN), k + r = we → RCl N w h sd gs s → rOk w h sd gs s → RWl N w h we wp wc ww wo → ∃ N' : gN, RCl N' w h sd gs (rFold (rW wp wc ww wo) r k s) ∧ (∀ q, q ≠ 60 → q ≠ 61 → q ≠ 70 → N' q = N q) ∧ ∀ F, r < F → L_Race_drawAll_3 54 18 K F (nI k) (N, L) = K (nI we) (N', L) := by
  intro r
  induction r with
  | zero =>
    intro k s N hk R O W
    refine ⟨N, R, fun q _ _ _ => rfl, fun F hF => ?_⟩
    obtain ⟨F, rfl⟩ : ∃ F', F = F' + 1 := ⟨F - 1, by omega⟩
    have e : k = we := by omega
    subst e
    have W1 := W.1
    have W2 := W.2.1
    rw [L_Race_drawAll_3_s]
    simp (disch := omega) only [gfd_eq, glet_eq, gbind_eq, nI_ltI, nI_1, gok_nI, grd_nI, nI_clamp, if_true, if_false, Nat.lt_irrefl, W1, i10, gokT]
  | succ r ih =>
    intro k s N hk R O W
    obtain ⟨W1, W2, W3⟩ := id W
    have hkw : k < we := by omega
    obtain ⟨a1, a2, a3, a4, a5, a6, a7, a8⟩ := W3 k hkw
    have eo : (nI (wo k) = 0) ↔ wo k = 0 := eqn0 (by omega)
    by_cases c0 : wo k = 0
    · obtain ⟨N', R', f', run⟩ := ih (k + 1) s N (by omega) R O W
      refine ⟨N', ?_, f', fun F hF => ?_⟩
      · have : rFold (rW wp wc ww wo) (r + 1) k s = rFold (rW wp wc ww wo) r (k + 1) s := by
          show rFold _ r (k + 1) (rW wp wc ww wo k s) = _
          rw [show rW wp wc ww wo k s = s from if_pos c0]
        rw [this]
        exact R'
      · obtain ⟨F, rfl⟩ : ∃ F', F = F' + 1 := ⟨F - 1, by omega⟩
        rw [L_Race_drawAll_3_s]
        unfold J_Race_drawAll_55
        simp (disch := omega) only [gfd_eq, glet_eq, gbind_eq, nI_ltI, nI_1, gok_nI, grd_nI, nI_clamp, if_true, if_false, Nat.lt_irrefl, W1, hkw, a4, eo, c0, Nat.reduceAdd, i10, gokT]
        rw [if_pos (show nI 0 = 0 from rfl)]
        exact run F (by omega)
    · have dr := cl_rDraw (L := L) (y := ww k) R O a6 a7
      have e70 : N 70 (wp k) = s.2.2 (wp k) := R.2.2.2.2.2 _ a5
      have R1 := R.draw (c := wc k) (y := ww k) (p := wp k)
      have es : rW wp wc ww wo k s = rD (wc k) (ww k) (wp k) s := if_neg c0
      have O1 : rOk w h sd gs (rD (wc k) (ww k) (wp k) s) := O.draw
      generalize dwO (ww k) (s.1 (wc k)) (s.2.1 (wc k)) = o at *
      generalize dwD (ww k) (s.1 (wc k)) (s.2.1 (wc k)) = d at *
      obtain ⟨N', R', f', run⟩ := ih (k + 1) _ (gup (gup (gup N 61 (wc k) (nI (s.1 (wc k) - o))) 60 (wc k) (nI (s.2.1 (wc k) - (d - o)))) 70 (wp k) (s.2.2 (wp k) + nI o)) (by omega) R1 O1 (W.cong (fun q hq => by rw [gup_ne (by omega), gup_ne (by omega), gup_ne (by omega)]))
      refine ⟨N', ?_, fun q h1 h2 h3 => ?_, fun F hF => ?_⟩
      · show RCl N' w h sd gs (rFold _ r (k + 1) (rW wp wc ww wo k s))
        rw [es]
        exact R'
      · rw [f' q h1 h2 h3, gup_ne h3, gup_ne h1, gup_ne h2]
      · obtain ⟨F, rfl⟩ : ∃ F', F = F' + 1 := ⟨F - 1, by omega⟩
        have c1 : wo k = 1 := by omega
        have a4' : N 22 k = nI 1 := by rw [a4, c1]
        have n1 : ¬ nI 1 = 0 := by decide
        rw [L_Race_drawAll_3_s]
        unfold J_Race_drawAll_55
        simp (disch := omega) only [gfd_eq, glet_eq, gbind_eq, nI_ltI, nI_1, gok_nI, grd_nI, nI_clamp, if_true, if_false, Nat.lt_irrefl, W1, hkw, a4', n1, a1, a2, a3, dr, e70, gst_nI, Nat.reduceAdd, i10, gokT]
        exact run F (by omega)
theorem bit_ok : ∀ set, set < 16 → ∀ p, p < 4 → (((nI set >>> (nI p &&& 31)) &&& 1 = 1) ↔ set / 2 ^ p % 2 = 1) := by decide
theorem cl_drills {p : Nat} (m : gM) (hs : set < 16) (hp : p < 4) : f_Race_drills (nI set) (nI p) m = some (if set / 2 ^ p % 2 = 1 then 1 else 0, m) := by
  unfold f_Race_drills
  have := bit_ok set hs p hp
  by_cases e : set / 2 ^ p % 2 = 1
  · rw [if_pos (this.mpr e), if_pos e]
  · rw [if_neg (fun z => e (this.mp z)), if_neg e]
theorem cl_rRacers {L : Nat → Nat → Int64} (hs : set < 16) : ∀ (r p : Nat) (s : rT) (N : gN), p + r = n → RCl N w h sd gs s → rOk w h sd gs s → RRc N w h n v sp → ∃ N' : gN, RCl N' w h sd gs (rFold (rP sp v set) r p s) ∧ (∀ q, q ≠ 60 → q ≠ 61 → q ≠ 70 → N' q = N q) ∧ ∀ F, r < F → L_Race_drawAll_64 54 33 (nI set) F (nI p) (N, L) = some (N', L) := by
  intro r
  induction r with
  | zero =>
    intro k s N hk R O W
    refine ⟨N, R, fun q _ _ _ => rfl, fun F hF => ?_⟩
    obtain ⟨F, rfl⟩ : ∃ F', F = F' + 1 := ⟨F - 1, by omega⟩
    have e : k = n := by omega
    subst e
    have W1 := W.1
    have W2 := W.2.2.1
    rw [L_Race_drawAll_64_s]
    simp (disch := omega) only [gfd_eq, glet_eq, gbind_eq, nI_ltI, nI_1, gok_nI, grd_nI, nI_clamp, if_true, if_false, Nat.lt_irrefl, W1, i10, gokT]
  | succ r ih =>
    intro k s N hk R O W
    obtain ⟨W1, W2, W3, W4, W5⟩ := id W
    have hkw : k < n := by omega
    obtain ⟨a1, a2⟩ := W5 k hkw
    have dl := fun m => cl_drills (set := set) (p := k) m hs (by omega)
    have n1 : ¬ (1 : Int32) = 0 := by decide
    by_cases c0 : set / 2 ^ k % 2 = 1
    · have dr := cl_rDraw (L := L) (y := v) R O a2 W4
      have e70 : N 70 k = s.2.2 k := R.2.2.2.2.2 _ (by omega)
      have R1 := R.draw (c := sp k) (y := v) (p := k)
      have es : rP sp v set k s = rD (sp k) v k s := if_pos c0
      have O1 : rOk w h sd gs (rD (sp k) v k s) := O.draw
      generalize dwO v (s.1 (sp k)) (s.2.1 (sp k)) = o at *
      generalize dwD v (s.1 (sp k)) (s.2.1 (sp k)) = d at *
      obtain ⟨N', R', f', run⟩ := ih (k + 1) _ (gup (gup (gup N 61 (sp k) (nI (s.1 (sp k) - o))) 60 (sp k) (nI (s.2.1 (sp k) - (d - o)))) 70 k (s.2.2 k + nI o)) (by omega) R1 O1 (W.cong (fun q hq => by rw [gup_ne (by omega), gup_ne (by omega), gup_ne (by omega)]))
      refine ⟨N', ?_, fun q h1 h2 h3 => ?_, fun F hF => ?_⟩
      · show RCl N' w h sd gs (rFold _ r (k + 1) (rP sp v set k s))
        rw [es]
        exact R'
      · rw [f' q h1 h2 h3, gup_ne h3, gup_ne h1, gup_ne h2]
      · obtain ⟨F, rfl⟩ : ∃ F', F = F' + 1 := ⟨F - 1, by omega⟩
        rw [L_Race_drawAll_64_s]
        unfold J_Race_drawAll_104
        simp (disch := omega) only [gfd_eq, glet_eq, gbind_eq, nI_ltI, nI_1, gok_nI, grd_nI, nI_clamp, if_true, if_false, Nat.lt_irrefl, W1, hkw, dl, c0, n1, W2, a1, dr, e70, gst_nI, Nat.reduceAdd, i10, gokT]
        exact run F (by omega)
    · obtain ⟨N', R', f', run⟩ := ih (k + 1) s N (by omega) R O W
      refine ⟨N', ?_, f', fun F hF => ?_⟩
      · have : rFold (rP sp v set) (r + 1) k s = rFold (rP sp v set) r (k + 1) s := by
          show rFold _ r (k + 1) (rP sp v set k s) = _
          rw [show rP sp v set k s = s from if_neg c0]
        rw [this]
        exact R'
      · obtain ⟨F, rfl⟩ : ∃ F', F = F' + 1 := ⟨F - 1, by omega⟩
        rw [L_Race_drawAll_64_s]
        unfold J_Race_drawAll_104
        simp (disch := omega) only [gfd_eq, glet_eq, gbind_eq, nI_ltI, nI_1, gok_nI, grd_nI, nI_clamp, if_true, if_false, Nat.lt_irrefl, W1, hkw, dl, c0, i10, gokT]
        exact run F (by omega)
theorem cl_rAll {N : gN} {L : Nat → Nat → Int64} {s : rT} (hs : set < 16) (R : RCl N w h sd gs s) (O : rOk w h sd gs s) (W : RWl N w h we wp wc ww wo) (P : RRc N w h n v sp) : ∃ N' : gN, RCl N' w h sd gs (rFold (rP sp v set) n 0 (rFold (rW wp wc ww wo) we 0 s)) ∧ (∀ q, q ≠ 60 → q ≠ 61 → q ≠ 70 → N' q = N q) ∧ f_Race_drawAll 54 18 33 (nI set) (N, L) = some (N', L) := by
  obtain ⟨N1, R1, f1, run1⟩ := cl_rWells (L := L) (fun v4 m5 => J_Race_drawAll_61 54 33 (nI set) v4 m5) we 0 s N (by omega) R O W
  have O1 := rOk.fold (fun k s => rOk.well (wp := wp) (wc := wc) (ww := ww) (wo := wo) k s) we 0 s O
  obtain ⟨N2, R2, f2, run2⟩ := cl_rRacers (L := L) hs n 0 _ N1 (by omega) R1 O1 (P.cong (fun q hq => f1 q (by omega) (by omega) (by omega)))
  refine ⟨N2, R2, fun q h1 h2 h3 => (f2 q h1 h2 h3).trans (f1 q h1 h2 h3), ?_⟩
  have W2 := W.2.1
  have P3 := P.2.2.1
  have r1 : L_Race_drawAll_3 54 18 (fun v4 m5 => J_Race_drawAll_61 54 33 (nI set) v4 m5) 1000 0 (N, L) = J_Race_drawAll_61 54 33 (nI set) (nI we) (N1, L) := run1 1000 (by omega)
  unfold f_Race_drawAll
  rw [r1]
  unfold J_Race_drawAll_61
  exact run2 1000 (by omega)
end RC
