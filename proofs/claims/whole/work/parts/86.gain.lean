/-! ===== gain ===== -/
theorem sh_ok : ∀ n, n ≤ 4 → ((1 : Int32) <<< (nI n &&& 31)) = nI (2 ^ n) := by decide
theorem pow16 {n : Nat} (hn : n ≤ 4) : 1 ≤ 2 ^ n ∧ 2 ^ n ≤ 16 := ⟨Nat.pow_pos (by decide), Nat.pow_le_pow_right (n := 2) (by decide) hn⟩
theorem gib_no {x : Int32} {n : Nat} (hn : n < 2 ^ 31) (hg : gib x n = false) : x < 0 ∨ (¬ x < 0 ∧ ¬ x < nI n) := by
  by_cases h0 : x < 0
  · exact Or.inl h0
  · obtain ⟨j, hj, rfl⟩ := nI_of h0
    refine Or.inr ⟨h0, fun z => ?_⟩
    have := (nI_ltI hj hn).mp z
    rw [gib_iff.mpr ⟨j, this, rfl, hj⟩] at hg
    cases hg
theorem nI_nneg {k : Nat} (h : k < 2 ^ 31) : ¬ nI k < 0 := nI_nlt (a := k) (b := 0) (by omega) h
/-- all that a race reads, on both sides -/
def RWo (N : gN) (w h hr we n : Nat) (sd gs wt ol wp wc ww wo sp : Nat → Nat) : Prop := (PoolAt N 3 w h sd gs wt (osum ol) ∧ PoolOk w h sd gs wt (osum ol) ∧ N 8 = (fun c => nI (wt c)) ∧ N 9 = fun c => nI (osum ol c)) ∧ RWl N w h we wp wc ww wo ∧ (∀ p, p < n → N 33 p = nI (sp p) ∧ N 104 p = nI (sp p) ∧ sp p < w * h) ∧ (∀ c, gs c ≤ 999) ∧ (hr ≤ 199 ∧ we ≤ 10 ∧ n ≤ 4) ∧ (N 81 0 = nI w ∧ N 81 1 = nI h ∧ N 81 2 = nI hr ∧ N 81 15 = nI we) ∧ (N 82 = (fun c => nI (sd c)) ∧ N 83 = (fun c => nI (gs c)) ∧ N 84 = (fun c => nI (wt c)) ∧ N 86 = fun i => nI (ol i)) ∧ ∀ k, k < we → N 92 k = nI (wp k) ∧ N 93 k = nI (wc k) ∧ N 94 k = nI (ww k) ∧ N 95 k = nI (wo k) ∧ wp k < 6 ∧ wc k < w * h ∧ ww k ≤ 60 ∧ wo k ≤ 1
section GN
variable {w h hr we n : Nat} {sd gs wt ol wp wc ww wo sp : Nat → Nat}
theorem RWo.cong {N N' : gN} (W : RWo N w h hr we n sd gs wt ol wp wc ww wo sp) (e1 : ∀ q, q < 54 → N' q = N q) (e2 : ∀ q, 82 ≤ q → q ≤ 104 → N' q = N q) (e3 : ∀ q, q ≠ 58 → q ≠ 59 → N' 81 q = N 81 q) : RWo N' w h hr we n sd gs wt ol wp wc ww wo sp := by
  obtain ⟨⟨a1, a2, a3, a4⟩, b, c, d, e, f, g, k⟩ := W
  refine ⟨⟨a1.frame (fun j hj => e1 _ (by omega)), a2, (e1 8 (by decide)).trans a3, (e1 9 (by decide)).trans a4⟩, b.cong e1, fun p hp => ?_, d, e, ?_, ?_, fun i hi => ?_⟩
  · rw [e1 33 (by decide), e2 104 (by decide) (by decide)]; exact c p hp
  · rw [e3 0 (by decide) (by decide), e3 1 (by decide) (by decide), e3 2 (by decide) (by decide), e3 15 (by decide) (by decide)]; exact f
  · rw [e2 82 (by decide) (by decide), e2 83 (by decide) (by decide), e2 84 (by decide) (by decide), e2 86 (by decide) (by decide)]; exact g
  · rw [e2 92 (by decide) (by decide), e2 93 (by decide) (by decide), e2 94 (by decide) (by decide), e2 95 (by decide) (by decide)]; exact k i hi
/-- what racer p gains in a set -/
def rGn (w h : Nat) (sd gs : Nat → Nat) (we : Nat) (wp wc ww wo : Nat → Nat) (n : Nat) (sp : Nat → Nat) (v H cost : Nat) (ol wt : Nat → Nat) (set p : Nat) : Int32 := rG cost set (rIt (rH w h sd gs we wp wc ww wo n sp v set) H (osum ol, wt, fun _ => 0)).2.2 p
theorem mo_one {N : gN} {L : Nat → Nat → Int64} {v H cost set : Nat} (W : RWo N w h hr we n sd gs wt ol wp wc ww wo sp) (hs : set < 16) (hH : H ≤ 24) (hv : v ≤ 60) (s : rT) (es : ∀ c, c < w * h → s.1 c = osum ol c ∧ s.2.1 c = wt c) (e0 : ∀ p, p < 6 → s.2.2 p = 0) : ∃ N' : gN, f_MO_race (nI n) (nI v) (nI cost) (nI H) (nI set) (N, L) = some (N', L) ∧ (∀ p q, ¬ (105 ≤ p ∧ p ≤ 111) → p ≠ 123 → p ≠ 124 → ¬ (p = 81 ∧ (q = 58 ∨ q = 59)) → N' p q = N p q) ∧ (∀ q, q < 5400 → N' 123 q = N 123 q) ∧ N' 124 = rGr (N 124) set (rG cost set (rIt (rH w h sd gs we wp wc ww wo n sp v set) H s).2.2) n := by
  obtain ⟨⟨a1, a2, a3, a4⟩, b, c, d, ⟨e1, e2, e3⟩, f, ⟨g1, g2, g3, g4⟩, k⟩ := W
  exact mo_race hs hH e3 hv e2 e1 d a2 f g1 g2 g3 g4 k (fun p hp => (c p hp).2) es e0
theorem race_uniq {N : gN} {v H cost set p : Nat} (W : RWo N w h hr we n sd gs wt ol wp wc ww wo sp) (hs : set < 16) (hH : H ≤ 24) (hv : v ≤ 60) (s : rT) (es : ∀ c, c < w * h → s.1 c = osum ol c ∧ s.2.1 c = wt c) (e0 : ∀ p, p < 6 → s.2.2 p = 0) (hp : p < n) : rG cost set (rIt (rH w h sd gs we wp wc ww wo n sp v set) H s).2.2 p = rGn w h sd gs we wp wc ww wo n sp v H cost ol wt set p := by
  obtain ⟨N1, r1, -, -, g1⟩ := mo_one (L := fun _ _ => 0) (cost := cost) W hs hH hv s es e0
  obtain ⟨N2, r2, -, -, g2⟩ := mo_one (L := fun _ _ => 0) (cost := cost) W hs hH hv (osum ol, wt, fun _ => 0) (fun c _ => ⟨rfl, rfl⟩) (fun _ _ => rfl)
  have e : N1 = N2 := congrArg (fun x : gM => x.1) (Option.some.inj (r1.symm.trans r2))
  subst e
  have := congrFun (g1.symm.trans g2) (4 * set + p)
  rw [rGr_at _ _ _ hp, rGr_at _ _ _ hp] at this
  exact this
theorem mo_oneRace {N : gN} {L : Nat → Nat → Int64} {v H cost set : Nat} (W : RWo N w h hr we n sd gs wt ol wp wc ww wo sp) (hs : set < 16) (hH : H ≤ 24) (hv : v ≤ 60) : ∃ N' : gN, f_MO_race (nI n) (nI v) (nI cost) (nI H) (nI set) (N, L) = some (N', L) ∧ (∀ p q, ¬ (105 ≤ p ∧ p ≤ 111) → p ≠ 123 → p ≠ 124 → ¬ (p = 81 ∧ (q = 58 ∨ q = 59)) → N' p q = N p q) ∧ (∀ q, q < 5400 → N' 123 q = N 123 q) ∧ (∀ p, p < n → N' 124 (4 * set + p) = rGn w h sd gs we wp wc ww wo n sp v H cost ol wt set p) ∧ ∀ q, q < 4 * set → N' 124 q = N 124 q := by
  obtain ⟨N1, r1, f1, f2, g1⟩ := mo_one (L := L) (cost := cost) W hs hH hv (osum ol, wt, fun _ => 0) (fun c _ => ⟨rfl, rfl⟩) (fun _ _ => rfl)
  refine ⟨N1, r1, f1, f2, fun p hp => ?_, fun q hq => ?_⟩
  · rw [g1, rGr_at _ _ _ hp]; rfl
  · rw [g1]; exact if_neg (by omega)
theorem cl_oneRace {N : gN} {L : Nat → Nat → Int64} {v H cost set : Nat} (W : RWo N w h hr we n sd gs wt ol wp wc ww wo sp) (h54 : N 54 4 = nI n ∧ N 54 5 = nI v ∧ N 54 6 = nI cost ∧ N 54 7 = nI H) (hs : set < 16) (hH : H ≤ 24) (hv : v ≤ 60) : ∃ (N' : gN) (L' : Nat → Nat → Int64), f_Race_run 54 1 33 (nI set) (N, L) = some (N', L') ∧ (∀ q, q < 55 ∨ 72 ≤ q → N' q = N q) ∧ (∀ p, p < n → N' 71 (4 * set + p) = rGn w h sd gs we wp wc ww wo n sp v H cost ol wt set p) ∧ ∀ q, q < 4 * set → N' 71 q = N 71 q := by
  have W0 := W
  obtain ⟨⟨a1, a2, a3, a4⟩, b, c, d, ⟨e1, e2, e3⟩, f, ⟨g1, g2, g3, g4⟩, k⟩ := W
  obtain ⟨N1, L1, s, r1, f1, g, es, e0⟩ := cl_rRun (L := L) (cost := cost) (v := v) (n := n) hs hH d a1 a2 a3 a4 b ⟨h54.1, h54.2.1, e3, hv, fun p hp => ⟨(c p hp).1, (c p hp).2.2⟩⟩ h54.2.2.1 h54.2.2.2
  refine ⟨N1, L1, r1, f1, fun p hp => ?_, fun q hq => ?_⟩
  · rw [g, rGr_at _ _ _ hp]
    exact race_uniq W0 hs hH hv s es e0 hp
  · rw [g]; exact if_neg (by omega)
end GN
/-- what the three calls on races begin with -/
theorem race_pre {n0 K : Nat} {m : gM} (hn0 : n0 < 512) (x1 x2 x3 x4 : Int32) (I : Inv n0 K m.1) :
    (f_OT_isRace x1 x2 x3 x4 m = some (0, m) ∧ f_MO_isRace x1 x2 x3 x4 m = some (0, m)) ∨
    ∃ n v c H : Nat, x1 = nI n ∧ x2 = nI v ∧ x3 = nI c ∧ x4 = nI H ∧ (1 ≤ n ∧ n ≤ 4 ∧ v ≤ 60 ∧ c ≤ 999 ∧ 1 ≤ H ∧ H ≤ 24) ∧ f_OT_isRace x1 x2 x3 x4 m = some (1, m) ∧ (∀ m' : gM, m'.1 81 8 = m.1 81 8 → f_MO_isRace x1 x2 x3 x4 m' = some (1, m')) ∧
      ((f_OT_haveSpots (nI n) m = some (0, m) ∧ f_MO_haveSpots (nI n) m = some (0, m)) ∨ (f_OT_haveSpots (nI n) m = some (1, m) ∧ ∃ (w h hr we : Nat) (sd gs wt ol wp wc ww wo sp : Nat → Nat), RWo m.1 w h hr we n sd gs wt ol wp wc ww wo sp ∧ ∀ m' : gM, RWo m'.1 w h hr we n sd gs wt ol wp wc ww wo sp → f_MO_haveSpots (nI n) m' = some (1, m'))) := by
  obtain ⟨np, hnp, p1, p2, p3, p4⟩ := I.2.1
  rcases race_cases x1 x2 x3 x4 hnp with ⟨ra, rb⟩ | ⟨n, v, c, H, rfl, rfl, rfl, rfl, n1, n4, nn, v1, c1, h1, h2, ra, rb⟩
  · exact Or.inl ⟨ra m p1, rb m p2⟩
  refine Or.inr ⟨n, v, c, H, rfl, rfl, rfl, rfl, ⟨n1, n4, v1, c1, h1, h2⟩, ra m p1, fun m' e => rb m' (e.trans p2), ?_⟩
  obtain ⟨w, h, hr, le, we, sd, gs, wt, ol, wp, wc, ww, wo, ws, X, P⟩ := I.1.frx
  have y1 := X.1
  have h36 : w * h ≤ 6 * 6 := Nat.mul_le_mul y1.2.1 y1.2.2.2.1
  have c32 : m.1 3 2 = nI (w * h) := X.2.2.1.2.2.1
  have m0 : m.1 81 0 = nI w := X.2.1.1
  have m1 : m.1 81 1 = nI h := X.2.1.2.1
  by_cases hv : ∀ p, p < n → gib (m.1 33 p) (w * h) = true
  · have hv2 : ∀ p, p < n → gib (m.1 104 p) (w * h) = true := fun p hp => by rw [← p3]; exact hv p hp
    refine Or.inr ⟨?_, w, h, hr, we, sd, gs, wt, ol, wp, wc, ww, wo, fun p => (m.1 33 p).toNatClampNeg, ?_, fun m' W' => ?_⟩
    · unfold f_OT_haveSpots
      exact cl_have1 (by omega) c32 n4 hv n 0 1000 (by omega) (by omega)
    · have A := X.pool (N := m.1) (fun j => rfl)
      obtain ⟨a1', a2', a3', a4', ⟨d1, d2, d3, d4, d5⟩, ⟨o1, o2, o3, o4, o5⟩, a7', a8', ⟨e1, e2, e3, e4, e5⟩, ⟨f1, f2, f3, f4⟩, ⟨g1, g2, g3, g4⟩, b3', b4', b5', ⟨k1, k2, k3, k4⟩, b7'⟩ := id X
      have wl : ∀ k, k < we → m.1 92 k = nI (wp k) ∧ m.1 93 k = nI (wc k) ∧ m.1 94 k = nI (ww k) ∧ m.1 95 k = nI (wo k) ∧ wp k < 6 ∧ wc k < w * h ∧ ww k ≤ 60 ∧ wo k ≤ 1 := fun k hk => ⟨congrFun g1 k, congrFun g2 k, congrFun g3 k, congrFun g4 k, (b3'.1 k hk).1, (b3'.1 k hk).2.1, (b3'.1 k hk).2.2, b3'.2 k⟩
      refine ⟨⟨A, ⟨⟨y1.1, y1.2.1, y1.2.2.1, y1.2.2.2.1⟩, fun c => (a7' c).1, fun c hc => P.push (by omega) (by omega)⟩, d3.trans o3, o5⟩, ⟨a3'.2.2.2.2.2, y1.2.2.2.2.2.2, fun k hk => ⟨(congrFun f1 k).trans (congrFun g1 k), (congrFun f2 k).trans (congrFun g2 k), (congrFun f3 k).trans (congrFun g3 k), (congrFun f4 k).trans (congrFun g4 k), (wl k hk).2.2.2.2⟩⟩, fun p hp => ?_, fun c => (a7' c).2, ⟨y1.2.2.2.2.1, y1.2.2.2.2.2.2, n4⟩, ⟨m0, m1, a2'.2.2.1, a2'.2.2.2.2⟩, ⟨o1, o2, o3, o4⟩, wl⟩
      obtain ⟨j, hj, ej, hj2⟩ := gib_iff.mp (hv p hp)
      show m.1 33 p = nI (m.1 33 p).toNatClampNeg ∧ m.1 104 p = nI (m.1 33 p).toNatClampNeg ∧ (m.1 33 p).toNatClampNeg < w * h
      rw [← p3, ej, nI_clamp hj2]
      exact ⟨rfl, rfl, hj⟩
    · unfold f_MO_haveSpots
      refine mo_have1 W'.2.2.2.2.2.1.1 W'.2.2.2.2.2.1.2.1 (by omega) n4 (fun p hp => ?_) n 0 1000 (by omega) (by omega)
      obtain ⟨u1, u2, u3⟩ := W'.2.2.1 p hp
      rw [u2]
      exact gib_iff.mpr ⟨_, u3, rfl, by omega⟩
  · obtain ⟨b, hb⟩ := Classical.not_forall.mp hv
    obtain ⟨hbn, hb⟩ := Classical.not_imp.mp hb
    have hg : gib (m.1 33 b) (w * h) = false := by
      cases z : gib (m.1 33 b) (w * h) with
      | false => rfl
      | true => exact (hb z).elim
    refine Or.inl ⟨?_, ?_⟩
    · unfold f_OT_haveSpots
      exact cl_have0 (by omega) c32 n4 hbn hg n 0 1000 (by omega) (by omega) (by omega)
    · unfold f_MO_haveSpots
      exact mo_have0 m0 m1 (by omega) n4 hbn (by rw [← p3]; exact hg) n 0 1000 (by omega) (by omega) (by omega)
/-- the race's own fields told -/
def prepN (N : gN) (n v c H : Nat) : gN := gup (gup (gup (gup N 54 4 (nI n)) 54 5 (nI v)) 54 6 (nI c)) 54 7 (nI H)
theorem cl_prepare (n v c H : Nat) (m : gM) : f_Race_prepare 54 (nI n) (nI v) (nI c) (nI H) m = some (prepN m.1 n v c H, m.2) := rfl
theorem prepN_54 (N : gN) (n v c H : Nat) : prepN N n v c H 54 4 = nI n ∧ prepN N n v c H 54 5 = nI v ∧ prepN N n v c H 54 6 = nI c ∧ prepN N n v c H 54 7 = nI H := by
  unfold prepN
  refine ⟨?_, ?_, ?_, gup_at _ _ _ _⟩
  · rw [gup_col (by decide), gup_col (by decide), gup_col (by decide), gup_at]
  · rw [gup_col (by decide), gup_col (by decide), gup_at]
  · rw [gup_col (by decide), gup_at]
theorem prepN_ne {N : gN} {n v c H q : Nat} (hq : q ≠ 54) : prepN N n v c H q = N q := by
  unfold prepN
  rw [gup_ne hq, gup_ne hq, gup_ne hq, gup_ne hq]
theorem p_gain {n0 K : Nat} {m : gM} (hn0 : n0 < 512) (x1 x2 x3 x4 x5 x6 : Int32) (I : Inv n0 K m.1) : gBoth n0 K (f_OT_gain x1 x2 x3 x4 x5 x6) (f_MO_gain x1 x2 x3 x4 x5 x6) m := by
  rcases race_pre hn0 x1 x2 x3 x4 I with ⟨ra, rb⟩ | ⟨n, v, c, H, rfl, rfl, rfl, rfl, ⟨n1, n4, v1, c1, h1, h2⟩, ra, rb, hsp⟩
  · refine gBoth.same (-100000) I ?_ ?_
    · unfold f_OT_gain
      simp (disch := omega) only [gfd_eq, glet_eq, gbind_eq, nI_ltI, nI_1, gok_nI, grd_nI, nI_clamp, if_true, if_false, Nat.lt_irrefl, ra, i10, gokT]
    · unfold f_MO_gain
      simp (disch := omega) only [gfd_eq, glet_eq, gbind_eq, nI_ltI, nI_1, gok_nI, grd_nI, nI_clamp, if_true, if_false, Nat.lt_irrefl, rb, i10, gokT]
  have hp := pow16 n4
  have sh := sh_ok n n4
  have rb0 := rb m rfl
  have b5 : ∀ (x : Int32) (m : gM), f_MO_in x.toInt64 (Int32.toInt64 0) (Int32.toInt64 (nI (2 ^ n) - 1)) m = _ := fun x m => mo_in0 (x := x) (n := 2 ^ n) (by omega) m
  have b6 : ∀ (x : Int32) (m : gM), f_MO_in x.toInt64 (Int32.toInt64 0) (Int32.toInt64 (nI n - 1)) m = _ := fun x m => mo_in0 (x := x) (n := n) (by omega) m
  rcases gib_cases x5 (2 ^ n) with hg | ⟨set, hset, rfl, hset2⟩
  · refine gBoth.same (-100000) I ?_ ?_
    · unfold f_OT_gain
      simp (disch := omega) only [gfd_eq, glet_eq, gbind_eq, nI_ltI, nI_1, gok_nI, grd_nI, nI_clamp, if_true, if_false, Nat.lt_irrefl, ra, sh, i10, gokT]
      rcases gib_no (by omega) hg with z | ⟨z, z2⟩
      · rw [if_pos z]
      · rw [if_neg z, if_neg z2]
    · unfold f_MO_gain
      simp (disch := omega) only [gfd_eq, glet_eq, gbind_eq, nI_ltI, nI_1, gok_nI, grd_nI, nI_clamp, if_true, if_false, Nat.lt_irrefl, rb0, sh, b5, hg, Bool.false_eq_true, i10, gokT]
  have hgs := gib_iff.mpr ⟨set, hset, rfl, hset2⟩
  have s0 := nI_nneg (k := set) (by omega)
  rcases gib_cases x6 n with hg | ⟨p, hpn, rfl, hp2⟩
  · refine gBoth.same (-100000) I ?_ ?_
    · unfold f_OT_gain
      simp (disch := omega) only [gfd_eq, glet_eq, gbind_eq, nI_ltI, nI_1, gok_nI, grd_nI, nI_clamp, if_true, if_false, Nat.lt_irrefl, ra, sh, s0, hset, i10, gokT]
      rcases gib_no (by omega) hg with z | ⟨z, z2⟩
      · rw [if_pos z]
      · rw [if_neg z, if_neg z2]
    · unfold f_MO_gain
      simp (disch := omega) only [gfd_eq, glet_eq, gbind_eq, nI_ltI, nI_1, gok_nI, grd_nI, nI_clamp, if_true, if_false, Nat.lt_irrefl, rb0, sh, b5, hgs, b6, hg, Bool.false_eq_true, i10, gokT]
  have hgp := gib_iff.mpr ⟨p, hpn, rfl, hp2⟩
  have p0 := nI_nneg (k := p) (by omega)
  rcases hsp with ⟨sa, sb⟩ | ⟨sa, w, h, hr, we, sd, gs, wt, ol, wp, wc, ww, wo, sp, W, sb⟩
  · refine gBoth.same (-100002) I ?_ ?_
    · unfold f_OT_gain
      simp (disch := omega) only [gfd_eq, glet_eq, gbind_eq, nI_ltI, nI_1, gok_nI, grd_nI, nI_clamp, if_true, if_false, Nat.lt_irrefl, ra, sh, s0, hset, p0, hpn, sa, i10, gokT]
    · unfold f_MO_gain
      simp (disch := omega) only [gfd_eq, glet_eq, gbind_eq, nI_ltI, nI_1, gok_nI, grd_nI, nI_clamp, if_true, if_false, Nat.lt_irrefl, rb0, sh, b5, hgs, b6, hgp, sb, i10, gokT]
  have W1 : RWo (prepN m.1 n v c H) w h hr we n sd gs wt ol wp wc ww wo sp := W.cong (fun q hq => prepN_ne (by omega)) (fun q _ _ => prepN_ne (by omega)) (fun q _ _ => by rw [prepN_ne (by decide)])
  obtain ⟨N2, L2, r2, f2, g2, -⟩ := cl_oneRace (L := m.2) W1 (prepN_54 _ _ _ _ _) (show set < 16 by omega) h2 v1
  have W2 : RWo N2 w h hr we n sd gs wt ol wp wc ww wo sp := W1.cong (fun q hq => f2 q (by omega)) (fun q _ _ => f2 q (by omega)) (fun q _ _ => by rw [f2 81 (by omega)])
  obtain ⟨N3, r3, f3, f3b, g3, -⟩ := mo_oneRace (L := L2) (cost := c) W2 (show set < 16 by omega) h2 v1
  have fr2 : ∀ q, q < 54 ∨ 72 ≤ q → N2 q = m.1 q := fun q hq => (f2 q (by omega)).trans (prepN_ne (by omega))
  have rb2 := rb (N2, L2) (by show N2 81 8 = m.1 81 8; rw [fr2 81 (by omega)])
  have sb2 := sb (N2, L2) W2
  have cp := cl_prepare n v c H m
  have ix : set * 4 + p = 4 * set + p := by omega
  refine ⟨rGn w h sd gs we wp wc ww wo n sp v H c ol wt set p, (N2, L2), (N3, L2), ?_, ?_, ?_⟩
  · unfold f_OT_gain f_Race_gainOf
    simp (disch := omega) only [gfd_eq, glet_eq, gbind_eq, nI_ltI, nI_1, gok_nI, grd_nI, nI_clamp, if_true, if_false, Nat.lt_irrefl, ra, sh, s0, hset, p0, hpn, sa, cp, r2, n4c, pk_mul, nI_add, ix, g2, Nat.reduceAdd, i10, gokT]
  · unfold f_MO_gain
    simp (disch := omega) only [gfd_eq, glet_eq, gbind_eq, nI_ltI, nI_1, gok_nI, grd_nI, nI_clamp, if_true, if_false, Nat.lt_irrefl, rb2, sh, b5, hgs, b6, hgp, sb2, r3, n4c, pk_mul, nI_add, g3, i10, gokT]
  · exact (I.mono (Nat.le_succ n0)).race (fun p q h1 h2 h3 h4 h5 => (f3 p q h2 h3 h4 h5).trans (by rw [fr2 p h1])) (fun q hq => (f3b q hq).trans (by rw [fr2 123 (by omega)]))
