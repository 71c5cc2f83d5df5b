/-! ===== a race, whole: the reference's side ===== -/
theorem L_MO_race_9_s (x1 : Int32) (x2 : Int32) (x3 : Int32) (x5 : Int32) (k_9 : Int32 → gM → Option (gM)) (F : Nat) (v6 : Int32) (m7 : gM) : L_MO_race_9 x1 x2 x3 x5 k_9 (F + 1) v6 m7 = (if v6 < x1 then (gok (gib v6 6) (gok (gib ((4 * x5) + v6) 64) (glet (gst m7 124 ((4 * x5) + v6) (-(grd m7 100 v6))) fun (m9 : gM) => if ((x5 >>> (v6 &&& 31)) &&& 1) = 1 then (gok (gib v6 6) ((f_MO_addWell v6 (grd m9 104 v6) x2 m9).bind fun (r4 : gM) => gok (gib ((4 * x5) + v6) 64) (gok (gib ((4 * x5) + v6) 64) (glet (gst r4 124 ((4 * x5) + v6) ((grd r4 124 ((4 * x5) + v6)) - x3)) fun (m10 : gM) => J_MO_race_76 (L_MO_race_9 x1 x2 x3 x5 k_9 F) v6 m10)))) else (J_MO_race_76 (L_MO_race_9 x1 x2 x3 x5 k_9 F) v6 m9)))) else (k_9 v6 m7)) := rfl
theorem L_MO_race_85_s (x4 : Int32) (k_85 : Int32 → gM → Option (gM)) (F : Nat) (v5 : Int32) (m6 : gM) : L_MO_race_85 x4 k_85 (F + 1) v5 m6 = (if v5 < x4 then ((f_MO_step m6).bind fun (r2 : Int32 × gM) => (L_MO_race_85 x4 k_85 F) (v5 + 1) r2.2) else (k_85 v5 m6)) := rfl
theorem L_MO_race_106_s (x1 : Int32) (x5 : Int32) (k_106 : Int32 → gM → Option (gM)) (F : Nat) (v3 : Int32) (m3 : gM) : L_MO_race_106 x1 x5 k_106 (F + 1) v3 m3 = (if v3 < x1 then (gok (gib ((4 * x5) + v3) 64) (gok (gib v3 6) (gok (gib ((4 * x5) + v3) 64) (glet (gst m3 124 ((4 * x5) + v3) ((grd m3 124 ((4 * x5) + v3)) + (grd m3 100 v3))) fun (m4 : gM) => (L_MO_race_106 x1 x5 k_106 F) (v3 + 1) m4)))) else (k_106 v3 m3)) := rfl
theorem pg_big (p q : Nat) : pgOff p q < 1647 ∨ pgOff p q = 5000 := by
  by_cases h0 : p = 81 ∧ q < 3
  · rw [pg_o0 h0]; omega
  by_cases h1 : (82 ≤ p ∧ p < 86) ∧ q < 36
  · rw [pg_o1 h1]; omega
  by_cases h2 : p = 86 ∧ q < 324
  · rw [pg_o2 h2]; omega
  by_cases h3 : p = 103 ∧ q < 50
  · rw [pg_o3 h3]; omega
  by_cases h4 : (100 ≤ p ∧ p < 103) ∧ q < 6
  · rw [pg_o4 h4]; omega
  by_cases h5 : p = 87 ∧ q < 8
  · rw [pg_o5 h5]; omega
  by_cases h6 : p = 81 ∧ q = 10
  · rw [pg_o6 h6]; omega
  by_cases h7 : (88 ≤ p ∧ p < 92) ∧ q < 12
  · rw [pg_o7 h7]; omega
  by_cases h8 : p = 81 ∧ q = 15
  · rw [pg_o8 h8]; omega
  by_cases h9 : (92 ≤ p ∧ p < 98) ∧ q < 14
  · rw [pg_o9 h9]; omega
  by_cases h10 : p = 98 ∧ q < 126
  · rw [pg_o10 h10]; omega
  by_cases h11 : p = 99 ∧ q < 840
  · rw [pg_o11 h11]; omega
  exact Or.inr (by unfold pgOff; rw [if_neg h0, if_neg h1, if_neg h2, if_neg h3, if_neg h4, if_neg h5, if_neg h6, if_neg h7, if_neg h8, if_neg h9, if_neg h10, if_neg h11])
section RMB
variable {w h we n v set : Nat} {sd gs wp wc ww wo sp : Nat → Nat} {t0 : Nat → Int32}
theorem mo_rHours {H : Nat} {L : Nat → Nat → Int64} (hH : H ≤ 24) (hg : ∀ c, gs c ≤ 999) (K : Int32 → gM → Option gM) : ∀ (r k hr : Nat) (s : rT) (N : gN), k + r = H → hr + r ≤ 230 → RMo N w h sd gs t0 hr s → rOk w h sd gs s → RMw N w h we n v set wp wc ww wo sp → ∃ N' : gN, RMo N' w h sd gs t0 (hr + r) (rIt (rH w h sd gs we wp wc ww wo n sp v set) r s) ∧ MFr N N' ∧ RMw N' w h we n v set wp wc ww wo sp ∧ ∀ F, r < F → L_MO_race_85 (nI H) K F (nI k) (N, L) = K (nI H) (N', L) := by
  intro r
  induction r with
  | zero =>
    intro k hr s N hk hb M O W
    refine ⟨N, M, MFr.id N, W, fun F hF => ?_⟩
    obtain ⟨F, rfl⟩ : ∃ F', F = F' + 1 := ⟨F - 1, by omega⟩
    have e : k = H := by omega
    subst e
    rw [L_MO_race_85_s]
    simp (disch := omega) only [gfd_eq, glet_eq, gbind_eq, nI_ltI, nI_1, gok_nI, grd_nI, nI_clamp, if_true, if_false, Nat.lt_irrefl, i10, gokT]
  | succ r ih =>
    intro k hr s N hk hb M O W
    obtain ⟨x, N1, r1, M1, f1, W1⟩ := mo_rStep (L := L) (show hr ≤ 230 by omega) M O W
    obtain ⟨N2, M2, f2, W2, run⟩ := ih (k + 1) (hr + 1) _ N1 (by omega) (by omega) M1 (O.hour hg) W1
    refine ⟨N2, ?_, f1.trans f2, W2, fun F hF => ?_⟩
    · rw [show hr + (r + 1) = hr + 1 + r by omega]
      exact M2
    · obtain ⟨F, rfl⟩ : ∃ F', F = F' + 1 := ⟨F - 1, by omega⟩
      have hkH : k < H := by omega
      rw [L_MO_race_85_s]
      simp (disch := omega) only [gfd_eq, glet_eq, gbind_eq, nI_ltI, nI_1, gok_nI, grd_nI, nI_clamp, if_true, if_false, Nat.lt_irrefl, hkH, r1, i10, gokT]
      exact run F (by omega)
/-- while the racers' wells are dug: racers before p have theirs -/
def RSu (N0 N : gN) (w h we v set cost : Nat) (wp wc ww wo sp : Nat → Nat) (p : Nat) : Prop := N 81 15 = nI (we + cnt (rB set) p) ∧ (∀ k, k < we → N 92 k = nI (wp k) ∧ N 93 k = nI (wc k) ∧ N 94 k = nI (ww k) ∧ N 95 k = nI (wo k) ∧ wp k < 6 ∧ wc k < w * h ∧ ww k ≤ 60 ∧ wo k ≤ 1) ∧ (∀ j, j < p → rB set j = true → N 92 (we + cnt (rB set) j) = nI j ∧ N 93 (we + cnt (rB set) j) = nI (sp j) ∧ N 94 (we + cnt (rB set) j) = nI v ∧ N 95 (we + cnt (rB set) j) = nI 1 ∧ sp j < w * h) ∧ N 124 = rGr (N0 124) set (rG cost set (fun j => -(N0 100 j))) p ∧ (∀ q, q ≠ 81 → ¬ (92 ≤ q ∧ q ≤ 99) → q ≠ 124 → N q = N0 q) ∧ (∀ q, q ≠ 15 → N 81 q = N0 81 q) ∧ ∀ a q, a ≠ 124 → pgOff a q = 5000 → N a q = N0 a q
theorem gMw_row (N : gN) (W : Nat) (p c y : Int32) : (∀ q, q ≠ 81 → ¬ (92 ≤ q ∧ q ≤ 99) → gMw N W p c y q = N q) ∧ (∀ q, q ≠ 15 → gMw N W p c y 81 q = N 81 q) ∧ gMw N W p c y 81 15 = nI (W + 1) ∧ (∀ q, gMw N W p c y 92 q = if q = W then p else N 92 q) ∧ (∀ q, gMw N W p c y 93 q = if q = W then c else N 93 q) ∧ (∀ q, gMw N W p c y 94 q = if q = W then y else N 94 q) ∧ (∀ q, gMw N W p c y 95 q = if q = W then 1 else N 95 q) ∧ (∀ q, gMw N W p c y 96 q = if q = W then 0 else N 96 q) ∧ (∀ q, gMw N W p c y 97 q = if q = W then 0 else N 97 q) ∧ (∀ q, gMw N W p c y 98 q = gst_ (N 98) (9 * W) 9 0 q) ∧ ∀ q, gMw N W p c y 99 q = gst_ (N 99) (60 * W) 60 0 q := by
  unfold gMw
  refine ⟨fun q h1 h2 => ?_, fun q hq => ?_, gup_at _ _ _ _, fun q => ?_, fun q => ?_, fun q => ?_, fun q => ?_, fun q => ?_, fun q => ?_, fun q => ?_, fun q => ?_⟩
  · rw [gup_ne h1, grw_ne (by omega), grw_ne (by omega), gup_ne (by omega), gup_ne (by omega), gup_ne (by omega), gup_ne (by omega), gup_ne (by omega), gup_ne (by omega)]
  · rw [gup_col hq, grw_ne (by decide), grw_ne (by decide), gup_ne (by decide), gup_ne (by decide), gup_ne (by decide), gup_ne (by decide), gup_ne (by decide), gup_ne (by decide)]
  · rw [gup_row (by decide), grw_ne (by decide), grw_ne (by decide), gup_row (by decide), gup_row (by decide), gup_row (by decide), gup_row (by decide), gup_row (by decide), gup_eq]
  · rw [gup_row (by decide), grw_ne (by decide), grw_ne (by decide), gup_row (by decide), gup_row (by decide), gup_row (by decide), gup_row (by decide), gup_eq, gup_ne (by decide)]
  · rw [gup_row (by decide), grw_ne (by decide), grw_ne (by decide), gup_row (by decide), gup_row (by decide), gup_row (by decide), gup_eq, gup_ne (by decide), gup_ne (by decide)]
  · rw [gup_row (by decide), grw_ne (by decide), grw_ne (by decide), gup_row (by decide), gup_row (by decide), gup_eq, gup_ne (by decide), gup_ne (by decide), gup_ne (by decide)]
  · rw [gup_row (by decide), grw_ne (by decide), grw_ne (by decide), gup_row (by decide), gup_eq, gup_ne (by decide), gup_ne (by decide), gup_ne (by decide), gup_ne (by decide)]
  · rw [gup_row (by decide), grw_ne (by decide), grw_ne (by decide), gup_eq, gup_ne (by decide), gup_ne (by decide), gup_ne (by decide), gup_ne (by decide), gup_ne (by decide)]
  · rw [gup_row (by decide), grw_ne (by decide), grw_eq]
  · rw [gup_row (by decide), grw_eq]
theorem mo_rSetup {N0 : gN} {L : Nat → Nat → Int64} {cost : Nat} (hs : set < 16) (hn : n ≤ 4) (hwe : we ≤ 10) (hsp : ∀ p, p < n → N0 104 p = nI (sp p) ∧ sp p < w * h) (K : Int32 → gM → Option gM) : ∀ (r p : Nat) (N : gN), p + r = n → RSu N0 N w h we v set cost wp wc ww wo sp p → ∃ N' : gN, RSu N0 N' w h we v set cost wp wc ww wo sp n ∧ ∀ F, r < F → L_MO_race_9 (nI n) (nI v) (nI cost) (nI set) K F (nI p) (N, L) = K (nI n) (N', L) := by
  intro r
  induction r with
  | zero =>
    intro p N hk S
    have e : p = n := by omega
    subst e
    refine ⟨N, S, fun F hF => ?_⟩
    obtain ⟨F, rfl⟩ : ∃ F', F = F' + 1 := ⟨F - 1, by omega⟩
    rw [L_MO_race_9_s]
    simp (disch := omega) only [gfd_eq, glet_eq, gbind_eq, nI_ltI, nI_1, gok_nI, grd_nI, nI_clamp, if_true, if_false, Nat.lt_irrefl, i10, gokT]
  | succ r ih =>
    intro p N hk S
    obtain ⟨s1, s2, s3, s4, s5, s6, s7⟩ := id S
    have hpn : p < n := by omega
    have hcp := cnt_le (rB set) p
    have hb := bit_ok set hs p (by omega)
    have e100 : N 100 p = N0 100 p := congrFun (s5 100 (by decide) (by decide) (by decide)) p
    have gid : grw N 124 (rGr (N0 124) set (rG cost set (fun j => -(N0 100 j))) p) = N := by rw [← s4, grw_id]
    have st := rGr_s N 124 set (N0 124) (rG cost set (fun j => -(N0 100 j))) p
    rw [gid] at st
    by_cases c0 : set / 2 ^ p % 2 = 1
    · have ce : cnt (rB set) (p + 1) = cnt (rB set) p + 1 := if_pos (rB_t c0)
      have eg : rG cost set (fun j => -(N0 100 j)) p = -(N0 100 p) - nI cost := if_pos c0
      rw [eg] at st
      have g9 : gup N 124 (4 * set + p) (-(N0 100 p)) 104 p = nI (sp p) := (gup_row (by decide)).trans ((congrFun (s5 104 (by decide) (by decide) (by decide)) p).trans (hsp p hpn).1)
      have a15 : gup N 124 (4 * set + p) (-(N0 100 p)) 81 15 = nI (we + cnt (rB set) p) := (gup_row (by decide)).trans s1
      have ad := mo_addWell (p := nI p) (c := nI (sp p)) (v := nI v) (m := (gup N 124 (4 * set + p) (-(N0 100 p)), L)) a15 (by omega)
      have ad : f_MO_addWell (nI p) (nI (sp p)) (nI v) (gup N 124 (4 * set + p) (-(N0 100 p)), L) = some (gMw (gup N 124 (4 * set + p) (-(N0 100 p))) (we + cnt (rB set) p) (nI p) (nI (sp p)) (nI v), L) := ad
      have R := gMw_row (gup N 124 (4 * set + p) (-(N0 100 p))) (we + cnt (rB set) p) (nI p) (nI (sp p)) (nI v)
      generalize hM : gMw (gup N 124 (4 * set + p) (-(N0 100 p))) (we + cnt (rB set) p) (nI p) (nI (sp p)) (nI v) = M at *
      obtain ⟨q1, q2, q3, q4, q5, q6, q7, q8, q9', q10', q11⟩ := R
      have m124 : M 124 = gup N 124 (4 * set + p) (-(N0 100 p)) 124 := q1 124 (by decide) (by decide)
      have e124 : M 124 (4 * set + p) = -(N0 100 p) := by rw [m124]; exact gup_at _ _ _ _
      have cmn : ∀ j, j < p → rB set j = true → cnt (rB set) j ≠ cnt (rB set) p := by
        intro j hj hbj
        have c1 : cnt (rB set) (j + 1) = cnt (rB set) j + 1 := if_pos hbj
        have c2 := cnt_mono (rB set) (t := j + 1) (p - (j + 1))
        rw [show j + 1 + (p - (j + 1)) = p by omega] at c2
        omega
      have S' : RSu N0 (gup M 124 (4 * set + p) (-(N0 100 p) - nI cost)) w h we v set cost wp wc ww wo sp (p + 1) := by
        refine ⟨?_, fun k hk' => ?_, fun j hj hbj => ?_, ?_, fun q h1 h2 h3 => ?_, fun q hq => ?_, fun a q ha e => ?_⟩
        · rw [gup_row (by decide), q3, ce, Nat.add_assoc]
        · rw [gup_row (by decide), gup_row (by decide), gup_row (by decide), gup_row (by decide), q4, q5, q6, q7, if_neg (by omega), if_neg (by omega), if_neg (by omega), if_neg (by omega), gup_row (by decide), gup_row (by decide), gup_row (by decide), gup_row (by decide)]
          exact s2 k hk'
        · by_cases hjp : j = p
          · subst hjp
            rw [gup_row (by decide), gup_row (by decide), gup_row (by decide), gup_row (by decide), q4, q5, q6, q7, if_pos rfl, if_pos rfl, if_pos rfl, if_pos rfl]
            exact ⟨rfl, rfl, rfl, rfl, (hsp j hpn).2⟩
          · have := cmn j (by omega) hbj
            rw [gup_row (by decide), gup_row (by decide), gup_row (by decide), gup_row (by decide), q4, q5, q6, q7, if_neg (by omega), if_neg (by omega), if_neg (by omega), if_neg (by omega), gup_row (by decide), gup_row (by decide), gup_row (by decide), gup_row (by decide)]
            exact s3 j (by omega) hbj
        · have := congrFun st 124
          rw [grw_eq] at this
          rw [← this, gup_eq, gup_eq, m124, gup_eq]
          funext q
          show (if q = 4 * set + p then _ else if q = 4 * set + p then _ else N 124 q) = if q = 4 * set + p then _ else N 124 q
          by_cases z : q = 4 * set + p
          · rw [if_pos z, if_pos z]
          · rw [if_neg z, if_neg z, if_neg z]
        · rw [gup_ne h3, q1 q h1 h2, gup_ne h3, s5 q h1 h2 h3]
        · rw [gup_row (by decide), q2 q hq, gup_row (by decide), s6 q hq]
        · rw [gup_row ha]
          by_cases a81 : a = 81
          · subst a81
            rw [q2 q (pgx81 e).2.2.2.2, gup_row (by decide), s7 81 q ha e]
          by_cases a92 : a = 92
          · subst a92
            have := pgx9 (by decide) e
            rw [q4, if_neg (by omega), gup_row (by decide), s7 _ q ha e]
          by_cases a93 : a = 93
          · subst a93
            have := pgx9 (by decide) e
            rw [q5, if_neg (by omega), gup_row (by decide), s7 _ q ha e]
          by_cases a94 : a = 94
          · subst a94
            have := pgx9 (by decide) e
            rw [q6, if_neg (by omega), gup_row (by decide), s7 _ q ha e]
          by_cases a95 : a = 95
          · subst a95
            have := pgx9 (by decide) e
            rw [q7, if_neg (by omega), gup_row (by decide), s7 _ q ha e]
          by_cases a96 : a = 96
          · subst a96
            have := pgx9 (by decide) e
            rw [q8, if_neg (by omega), gup_row (by decide), s7 _ q ha e]
          by_cases a97 : a = 97
          · subst a97
            have := pgx9 (by decide) e
            rw [q9', if_neg (by omega), gup_row (by decide), s7 _ q ha e]
          by_cases a98 : a = 98
          · subst a98
            have := pgx10 e
            rw [q10']
            show (if 9 * (we + cnt (rB set) p) ≤ q ∧ q < 9 * (we + cnt (rB set) p) + 9 then _ else gup N 124 _ _ 98 q) = _
            rw [if_neg (by omega), gup_row (by decide), s7 _ q ha e]
          by_cases a99 : a = 99
          · subst a99
            have := pgx11 e
            rw [q11]
            show (if 60 * (we + cnt (rB set) p) ≤ q ∧ q < 60 * (we + cnt (rB set) p) + 60 then _ else gup N 124 _ _ 99 q) = _
            rw [if_neg (by omega), gup_row (by decide), s7 _ q ha e]
          rw [q1 a a81 (by omega), gup_row ha, s7 a q ha e]
      obtain ⟨N', S2, run⟩ := ih (p + 1) _ (by omega) S'
      refine ⟨N', S2, fun F hF => ?_⟩
      obtain ⟨F, rfl⟩ : ∃ F', F = F' + 1 := ⟨F - 1, by omega⟩
      have hb1 := hb.mpr c0
      rw [L_MO_race_9_s]
      unfold J_MO_race_76
      simp (disch := omega) only [gfd_eq, glet_eq, gbind_eq, nI_ltI, nI_1, gok_nI, grd_nI, nI_clamp, if_true, if_false, Nat.lt_irrefl, hpn, n4c, pk_mul, nI_add, gst_nI, e100, hb1, g9, ad, e124, i10, gokT]
      exact run F (by omega)
    · have ce : cnt (rB set) (p + 1) = cnt (rB set) p := if_neg (by rw [rB_f c0]; decide)
      have eg : rG cost set (fun j => -(N0 100 j)) p = -(N0 100 p) := if_neg c0
      rw [eg] at st
      have S' : RSu N0 (gup N 124 (4 * set + p) (-(N0 100 p))) w h we v set cost wp wc ww wo sp (p + 1) := by
        refine ⟨?_, fun k hk' => ?_, fun j hj hbj => ?_, ?_, fun q h1 h2 h3 => ?_, fun q hq => ?_, fun a q ha e => ?_⟩
        · rw [gup_row (by decide), ce]; exact s1
        · rw [gup_row (by decide), gup_row (by decide), gup_row (by decide), gup_row (by decide)]
          exact s2 k hk'
        · rw [gup_row (by decide), gup_row (by decide), gup_row (by decide), gup_row (by decide)]
          have : j ≠ p := fun z => by rw [z, rB_f c0] at hbj; cases hbj
          exact s3 j (by omega) hbj
        · have := congrFun st 124
          rw [grw_eq] at this
          exact this
        · rw [gup_ne h3, s5 q h1 h2 h3]
        · rw [gup_row (by decide), s6 q hq]
        · rw [gup_row ha, s7 a q ha e]
      obtain ⟨N', S2, run⟩ := ih (p + 1) _ (by omega) S'
      refine ⟨N', S2, fun F hF => ?_⟩
      obtain ⟨F, rfl⟩ : ∃ F', F = F' + 1 := ⟨F - 1, by omega⟩
      have hb1 : ((nI set >>> (nI p &&& 31)) &&& 1 = 1) = False := eq_false (fun z => c0 (hb.mp z))
      rw [L_MO_race_9_s]
      unfold J_MO_race_76
      simp (disch := omega) only [gfd_eq, glet_eq, gbind_eq, nI_ltI, nI_1, gok_nI, grd_nI, nI_clamp, if_true, if_false, Nat.lt_irrefl, hpn, n4c, pk_mul, nI_add, gst_nI, e100, hb1, i10, gokT]
      exact run F (by omega)
theorem neg_turn (a b c : Int32) : (-a - c) + (a + b) = b - c := by
  have e : -a + -c + (a + b) = -a + a + (b + -c) := by ac_rfl
  rw [Int32.sub_eq_add_neg, Int32.sub_eq_add_neg, e, Int32.add_left_neg, Int32.zero_add]
theorem neg_turn0 (a b : Int32) : -a + (a + b) = b := by
  rw [← Int32.add_assoc, Int32.add_left_neg, Int32.zero_add]
theorem rGr_at (f : Nat → Int32) (set : Nat) (g : Nat → Int32) {j k : Nat} (h : j < k) : rGr f set g k (4 * set + j) = g j := by
  unfold rGr
  rw [if_pos (by omega), show 4 * set + j - 4 * set = j by omega]
/-- gains while tanks are added -/
def rGm (f : Nat → Int32) (set : Nat) (g g2 : Nat → Int32) (n j : Nat) : Nat → Int32 := rGr (rGr f set g n) set g2 j
theorem mo_rGains {cost : Nat} {f : Nat → Int32} {cm : Nat → Int32} {N : gN} {L : Nat → Nat → Int64} (hs : set < 16) (hn : n ≤ 4) (h124 : N 124 = rGr f set (rG cost set (fun j => -(t0 j))) n) (h100 : ∀ p, p < 6 → N 100 p = t0 p + cm p) (K : Int32 → gM → Option gM) : L_MO_race_106 (nI n) (nI set) K 1000 0 (N, L) = K (nI n) (grw N 124 (rGr f set (rG cost set cm) n), L) := by
  have fin : rGm f set (rG cost set (fun j => -(t0 j))) (rG cost set cm) n n = rGr f set (rG cost set cm) n := by
    funext q
    show (if 4 * set ≤ q ∧ q < 4 * set + n then _ else if 4 * set ≤ q ∧ q < 4 * set + n then _ else f q) = if 4 * set ≤ q ∧ q < 4 * set + n then _ else f q
    by_cases z : 4 * set ≤ q ∧ q < 4 * set + n
    · rw [if_pos z, if_pos z]
    · rw [if_neg z, if_neg z, if_neg z]
  rw [← fin]
  unfold L_MO_race_106
  refine gloopS0 (fun (g : Int32 → gM → Option gM) j (s : gM) => g (nI j) s) n (fun j => (grw N 124 (rGm f set (rG cost set (fun j => -(t0 j))) (rG cost set cm) n j), L)) _ ?_ ?_ ?_ 1000 (by omega)
  · show (grw N 124 (rGr (rGr f set _ n) set _ 0), L) = _
    rw [rGr_0, ← h124, grw_id]
  · intro g j hj
    have e100 : grw N 124 (rGm f set (rG cost set (fun j => -(t0 j))) (rG cost set cm) n j) 100 j = t0 j + cm j := by rw [grw_ne (by decide)]; exact h100 j (by omega)
    have e124 : grw N 124 (rGm f set (rG cost set (fun j => -(t0 j))) (rG cost set cm) n j) 124 (4 * set + j) = rG cost set (fun j => -(t0 j)) j := by
      rw [grw_eq]
      show (if 4 * set ≤ 4 * set + j ∧ 4 * set + j < 4 * set + j then _ else rGr f set _ n (4 * set + j)) = _
      rw [if_neg (by omega), rGr_at f set _ hj]
    have es : rG cost set (fun j => -(t0 j)) j + (t0 j + cm j) = rG cost set cm j := by
      unfold rG
      by_cases c0 : set / 2 ^ j % 2 = 1
      · rw [if_pos c0, if_pos c0]; exact neg_turn _ _ _
      · rw [if_neg c0, if_neg c0]; exact neg_turn0 _ _
    have st : gup (grw N 124 (rGm f set (rG cost set (fun j => -(t0 j))) (rG cost set cm) n j)) 124 (4 * set + j) (rG cost set cm j) = grw N 124 (rGm f set (rG cost set (fun j => -(t0 j))) (rG cost set cm) n (j + 1)) := rGr_s N 124 set _ _ j
    simp (disch := omega) only [gfd_eq, glet_eq, gbind_eq, nI_ltI, nI_1, gok_nI, grd_nI, nI_clamp, if_true, if_false, Nat.lt_irrefl, hj, n4c, pk_mul, nI_add, gst_nI, e100, e124, es, st, i10, gokT]
  · intro g
    simp (disch := omega) only [gfd_eq, glet_eq, gbind_eq, nI_ltI, nI_1, gok_nI, grd_nI, nI_clamp, if_true, if_false, Nat.lt_irrefl, i10, gokT]
/-- one race, whole: the reference's side -/
theorem mo_race {H cost hr : Nat} {N : gN} {L : Nat → Nat → Int64} {wt ol : Nat → Nat} {s : rT} (hs : set < 16) (hH : H ≤ 24) (hn : n ≤ 4) (hv : v ≤ 60) (hwe : we ≤ 10) (hhr : hr ≤ 199) (hg : ∀ c, gs c ≤ 999) (O : PoolOk w h sd gs wt (osum ol)) (x0 : N 81 0 = nI w ∧ N 81 1 = nI h ∧ N 81 2 = nI hr ∧ N 81 15 = nI we) (h82 : N 82 = fun c => nI (sd c)) (h83 : N 83 = fun c => nI (gs c)) (h84 : N 84 = fun c => nI (wt c)) (h86 : N 86 = fun i => nI (ol i)) (hw : ∀ k, k < we → N 92 k = nI (wp k) ∧ N 93 k = nI (wc k) ∧ N 94 k = nI (ww k) ∧ N 95 k = nI (wo k) ∧ wp k < 6 ∧ wc k < w * h ∧ ww k ≤ 60 ∧ wo k ≤ 1) (hsp : ∀ p, p < n → N 104 p = nI (sp p) ∧ sp p < w * h) (es : ∀ c, c < w * h → s.1 c = osum ol c ∧ s.2.1 c = wt c) (e0 : ∀ p, p < 6 → s.2.2 p = 0) :
    ∃ N' : gN, f_MO_race (nI n) (nI v) (nI cost) (nI H) (nI set) (N, L) = some (N', L) ∧ (∀ p q, ¬ (105 ≤ p ∧ p ≤ 111) → p ≠ 123 → p ≠ 124 → ¬ (p = 81 ∧ (q = 58 ∨ q = 59)) → N' p q = N p q) ∧ (∀ q, q < 5400 → N' 123 q = N 123 q) ∧ N' 124 = rGr (N 124) set (rG cost set (rIt (rH w h sd gs we wp wc ww wo n sp v set) H s).2.2) n := by
  have P := mo_pageP (k := 3) (by decide) (N, L)
  have P : f_MO_turnPage 3 1 (N, L) = some (tuP (pgN N 3 1) 3 1647, L) := P
  -- the page is put by: nothing else has changed
  have pn : ∀ p q, p ≠ 123 → ¬ (p = 81 ∧ (q = 58 ∨ q = 59)) → tuP (pgN N 3 1) 3 1647 p q = N p q := by
    intro p q h1 h2
    rw [tuP_at _ _ h1 (fun z => h2 ⟨z.1, Or.inl z.2⟩)]
    unfold pgN
    rw [gup_all, gup_all, if_neg (fun z => h2 ⟨z.1, Or.inr z.2⟩), if_neg (fun z => h2 ⟨z.1, Or.inl z.2⟩)]
  have pr : ∀ p, p ≠ 123 → p ≠ 81 → tuP (pgN N 3 1) 3 1647 p = N p := fun p h1 h2 => funext fun q => pn p q h1 (fun z => h2 z.1)
  have pp : ∀ o, o < 1647 → tuP (pgN N 3 1) 3 1647 123 (1800 * 3 + o) = N (pgRow o) (pgIdx o) := by
    intro o ho
    obtain ⟨r1, r2, r3⟩ := pgRow_lt ho
    rw [tuP_pg _ _ ho]
    unfold pgN
    rw [gup_all, gup_all, if_neg (fun z => (r3 z.1).2 z.2), if_neg (fun z => (r3 z.1).1 z.2)]
  have po : ∀ q, q < 5400 → tuP (pgN N 3 1) 3 1647 123 q = N 123 q := by
    intro q hq
    unfold tuP pgN
    rw [if_neg (by omega), if_neg (by omega), gup_row (by decide), gup_row (by decide)]
  generalize tuP (pgN N 3 1) 3 1647 = N1 at P pn pr pp po
  have S1 : RSu N1 N1 w h we v set cost wp wc ww wo sp 0 := by
    refine ⟨?_, fun k hk => ?_, fun j hj => by omega, (rGr_0 _ _ _).symm, fun _ _ _ _ => rfl, fun _ _ => rfl, fun _ _ _ _ => rfl⟩
    · rw [pn 81 15 (by decide) (by decide)]; exact x0.2.2.2
    · rw [pr 92 (by decide) (by decide), pr 93 (by decide) (by decide), pr 94 (by decide) (by decide), pr 95 (by decide) (by decide)]
      exact hw k hk
  obtain ⟨N2, S2, run1⟩ := mo_rSetup (L := L) hs hn hwe (fun p hp => by rw [pr 104 (by decide) (by decide)]; exact hsp p hp) (fun v6 m7 => J_MO_race_82 (nI n) (nI H) (nI set) v6 m7) n 0 N1 (by omega) S1
  have run1 : L_MO_race_9 (nI n) (nI v) (nI cost) (nI set) (fun v6 m7 => J_MO_race_82 (nI n) (nI H) (nI set) v6 m7) 1000 0 (N1, L) = J_MO_race_82 (nI n) (nI H) (nI set) (nI n) (N2, L) := run1 1000 (by omega)
  obtain ⟨s1, s2, s3, s4, s5, s6, s7⟩ := S2
  have W2 : RMw N2 w h we n v set wp wc ww wo sp := ⟨s1, hwe, hn, hv, s2, s3⟩
  have M2 : RMo N2 w h sd gs (N1 100) hr s := by
    refine ⟨⟨?_, ?_, ?_⟩, ?_, ?_, fun p hp => ?_, ol, wt, ?_, ?_, es⟩
    · rw [s6 0 (by decide), pn 81 0 (by decide) (by decide)]; exact x0.1
    · rw [s6 1 (by decide), pn 81 1 (by decide) (by decide)]; exact x0.2.1
    · rw [s6 2 (by decide), pn 81 2 (by decide) (by decide)]; exact x0.2.2.1
    · rw [s5 82 (by decide) (by decide) (by decide), pr 82 (by decide) (by decide)]; exact h82
    · rw [s5 83 (by decide) (by decide) (by decide), pr 83 (by decide) (by decide)]; exact h83
    · rw [s5 100 (by decide) (by decide) (by decide), e0 p hp, Int32.add_zero]
    · rw [s5 86 (by decide) (by decide) (by decide), pr 86 (by decide) (by decide)]; exact h86
    · rw [s5 84 (by decide) (by decide) (by decide), pr 84 (by decide) (by decide)]; exact h84
  have O0 : rOk w h sd gs s := ⟨O.1, O.2.1, fun c hc => by rw [(es c hc).1, (es c hc).2]; exact O.2.2 c hc⟩
  obtain ⟨N3, M3, f3, W3, run2⟩ := mo_rHours (L := L) hH hg (fun v5 m6 => J_MO_race_103 (nI n) (nI set) v5 m6) H 0 hr s N2 (by omega) (by omega) M2 O0 W2
  have run2 : L_MO_race_85 (nI H) (fun v5 m6 => J_MO_race_103 (nI n) (nI set) v5 m6) 1000 0 (N2, L) = J_MO_race_103 (nI n) (nI set) (nI H) (N3, L) := run2 1000 (by omega)
  have n123 : ∀ q, N3 123 q = N1 123 q := fun q => (f3 123 q (pg_no (by omega)) (by omega)).trans (s7 123 q (by decide) (pg_no (by omega)))
  have n124 : N3 124 = N2 124 := funext fun q => f3 124 q (pg_no (by omega)) (by omega)
  have gg := mo_rGains (t0 := N1 100) (cost := cost) (f := N1 124) (cm := (rIt (rH w h sd gs we wp wc ww wo n sp v set) H s).2.2) (N := N3) (L := L) (n := n) (set := set) hs hn (n124.trans s4) M3.2.2.2.1 (fun v3 m3 => J_MO_race_140 v3 m3)
  rw [pr 124 (by decide) (by decide)] at gg
  generalize hN4 : grw N3 124 (rGr (N 124) set (rG cost set (rIt (rH w h sd gs we wp wc ww wo n sp v set) H s).2.2) n) = N4 at gg
  have m124 : N4 124 = rGr (N 124) set (rG cost set (rIt (rH w h sd gs we wp wc ww wo n sp v set) H s).2.2) n := by rw [← hN4]; exact grw_eq _ _ _
  have mo : ∀ q, q ≠ 124 → N4 q = N3 q := fun q hq => by rw [← hN4]; exact grw_ne hq
  have G := mo_pageG (k := 3) (by decide) (N4, L)
  have G : f_MO_turnPage 3 0 (N4, L) = some (tuG (pgN N4 3 0) 3 1647, L) := G
  have gN_ : ∀ p q, ¬ (p = 81 ∧ (q = 58 ∨ q = 59)) → pgN N4 3 0 p q = N4 p q := by
    intro p q h2
    unfold pgN
    rw [gup_all, gup_all, if_neg (fun z => h2 ⟨z.1, Or.inr z.2⟩), if_neg (fun z => h2 ⟨z.1, Or.inl z.2⟩)]
  have out : ∀ p q, pgOff p q = 5000 → ¬ (p = 81 ∧ (q = 58 ∨ q = 59)) → tuG (pgN N4 3 0) 3 1647 p q = N4 p q := by
    intro p q e h2
    rw [tuG_no _ _ e (fun z => h2 ⟨z.1, Or.inl z.2⟩), gN_ p q h2]
  refine ⟨tuG (pgN N4 3 0) 3 1647, ?_, fun p q h1 h2 h3 h4 => ?_, fun q hq => ?_, ?_⟩
  · unfold f_MO_race
    rw [P, gbind_eq, run1]
    unfold J_MO_race_82
    rw [run2]
    unfold J_MO_race_103
    rw [gg]
    unfold J_MO_race_140
    rw [G, gbind_eq]
  · rcases Nat.lt_or_ge (pgOff p q) 1647 with z | z
    · rw [tuG_yes _ _ z, gN_ 123 _ (by omega), mo 123 (by decide), n123, pp _ z, (pg_back z).1, (pg_back z).2]
    · have e : pgOff p q = 5000 := by
        have := pg_big p q
        omega
      rw [out p q e h4, mo p h3, f3 p q e h1, s7 p q h3 e, pn p q h2 h4]
  · rw [out 123 q (pg_no (by omega)) (by omega), mo 123 (by decide), n123, po q hq]
  · funext q
    rw [out 124 q (pg_no (by omega)) (by omega), m124]
end RMB
