/-! ===== a race: the reference's side ===== -/
/-- no place outside a page has changed, but in the rows that serve for reckoning -/
def MFr (N N' : gN) : Prop := ∀ p q, pgOff p q = 5000 → ¬ (105 ≤ p ∧ p ≤ 111) → N' p q = N p q
theorem MFr.id (N : gN) : MFr N N := fun _ _ _ _ => rfl
theorem MFr.trans {N1 N2 N3 : gN} (a : MFr N1 N2) (b : MFr N2 N3) : MFr N1 N3 := fun p q e h => (b p q e h).trans (a p q e h)
theorem pgx1 {a q : Nat} (ha : 82 ≤ a ∧ a < 86) (e : pgOff a q = 5000) : 36 ≤ q := by
  rcases Nat.lt_or_ge q 36 with z | z
  · rw [pg_o1 ⟨ha, z⟩] at e; omega
  · exact z
theorem pgx2 {q : Nat} (e : pgOff 86 q = 5000) : 324 ≤ q := by
  rcases Nat.lt_or_ge q 324 with z | z
  · rw [pg_o2 ⟨rfl, z⟩] at e; omega
  · exact z
theorem pgx4 {q : Nat} (e : pgOff 100 q = 5000) : 6 ≤ q := by
  rcases Nat.lt_or_ge q 6 with z | z
  · rw [pg_o4 ⟨by decide, z⟩] at e; omega
  · exact z
theorem pgx9 {a q : Nat} (ha : 92 ≤ a ∧ a < 98) (e : pgOff a q = 5000) : 14 ≤ q := by
  rcases Nat.lt_or_ge q 14 with z | z
  · rw [pg_o9 ⟨ha, z⟩] at e; omega
  · exact z
theorem pgx10 {q : Nat} (e : pgOff 98 q = 5000) : 126 ≤ q := by
  rcases Nat.lt_or_ge q 126 with z | z
  · rw [pg_o10 ⟨rfl, z⟩] at e; omega
  · exact z
theorem pgx11 {q : Nat} (e : pgOff 99 q = 5000) : 840 ≤ q := by
  rcases Nat.lt_or_ge q 840 with z | z
  · rw [pg_o11 ⟨rfl, z⟩] at e; omega
  · exact z
theorem pgx81 {q : Nat} (e : pgOff 81 q = 5000) : q ≠ 0 ∧ q ≠ 1 ∧ q ≠ 2 ∧ q ≠ 10 ∧ q ≠ 15 := by
  have p := pg_81
  refine ⟨fun z => ?_, fun z => ?_, fun z => ?_, fun z => ?_, fun z => ?_⟩ <;> subst z <;> omega
theorem drM_fr {N : gN} {f : Nat → Nat} {k c p i d o wt : Nat} (h86 : N 86 = fun i => nI (f i)) (hc : c < 36) (hk : k < 14) (hi : i < 840) (hp : p < 6) : MFr N (drM N f k c p i d o wt) := by
  intro a q e ha
  obtain ⟨r84, r86, r96, r97, r98, r99, r100, ro⟩ := drM_row N f k c p i d o wt
  by_cases a84 : a = 84
  · subst a84; rw [r84]; exact if_neg (fun z => by have := pgx1 (by decide) e; omega)
  by_cases a86 : a = 86
  · subst a86
    rw [r86, h86]
    show nI (tkO f c o q) = nI (f q)
    unfold tkO
    rw [if_neg (by have := pgx2 e; omega)]
  by_cases a96 : a = 96
  · subst a96; rw [r96]; exact if_neg (fun z => by have := pgx9 (by decide) e; omega)
  by_cases a97 : a = 97
  · subst a97; rw [r97]; exact if_neg (fun z => by have := pgx9 (by decide) e; omega)
  by_cases a98 : a = 98
  · subst a98; rw [r98]; exact if_neg (fun z => by have := pgx10 e; omega)
  by_cases a99 : a = 99
  · subst a99; rw [r99]; exact if_neg (fun z => by have := pgx11 e; omega)
  by_cases a100 : a = 100
  · subst a100; rw [r100]; exact if_neg (fun z => by have := pgx4 e; omega)
  rw [ro a ⟨a84, a86, a96, a97, a98, a99, a100, by omega⟩]
/-- the reference's rows hold these numbers -/
def RMo (N : gN) (w h : Nat) (sd gs : Nat → Nat) (t0 : Nat → Int32) (hr : Nat) (s : rT) : Prop := (N 81 0 = nI w ∧ N 81 1 = nI h ∧ N 81 2 = nI hr) ∧ N 82 = (fun c => nI (sd c)) ∧ N 83 = (fun c => nI (gs c)) ∧ (∀ p, p < 6 → N 100 p = t0 p + s.2.2 p) ∧ ∃ ol wt : Nat → Nat, N 86 = (fun i => nI (ol i)) ∧ N 84 = (fun c => nI (wt c)) ∧ ∀ c, c < w * h → s.1 c = osum ol c ∧ s.2.1 c = wt c
def rB (set p : Nat) : Bool := decide (set / 2 ^ p % 2 = 1)
theorem rB_t {set p : Nat} (h : set / 2 ^ p % 2 = 1) : rB set p = true := decide_eq_true h
theorem rB_f {set p : Nat} (h : ¬ set / 2 ^ p % 2 = 1) : rB set p = false := decide_eq_false h
def RMw (N : gN) (w h we n v set : Nat) (wp wc ww wo sp : Nat → Nat) : Prop := N 81 15 = nI (we + cnt (rB set) n) ∧ we ≤ 10 ∧ n ≤ 4 ∧ v ≤ 60 ∧ (∀ k, k < we → N 92 k = nI (wp k) ∧ N 93 k = nI (wc k) ∧ N 94 k = nI (ww k) ∧ N 95 k = nI (wo k) ∧ wp k < 6 ∧ wc k < w * h ∧ ww k ≤ 60 ∧ wo k ≤ 1) ∧ ∀ p, p < n → rB set p = true → N 92 (we + cnt (rB set) p) = nI p ∧ N 93 (we + cnt (rB set) p) = nI (sp p) ∧ N 94 (we + cnt (rB set) p) = nI v ∧ N 95 (we + cnt (rB set) p) = nI 1 ∧ sp p < w * h
theorem RMw.cong {N N' : gN} {w h we n v set : Nat} {wp wc ww wo sp : Nat → Nat} (R : RMw N w h we n v set wp wc ww wo sp) (e15 : N' 81 15 = N 81 15) (e : ∀ q, 92 ≤ q → q < 96 → N' q = N q) : RMw N' w h we n v set wp wc ww wo sp := by
  unfold RMw at R ⊢
  rw [e15, e 92 (by decide) (by decide), e 93 (by decide) (by decide), e 94 (by decide) (by decide), e 95 (by decide) (by decide)]
  exact R
section RM
variable {w h we n v set : Nat} {sd gs wp wc ww wo sp : Nat → Nat} {t0 : Nat → Int32}
theorem mo_rDraw {N : gN} {L : Nat → Nat → Int64} {k W c p y ok hr : Nat} {s : rT} (M : RMo N w h sd gs t0 hr s) (O : rOk w h sd gs s) (h15 : N 81 15 = nI W) (hk : k < W) (hW : W ≤ 14) (hc : c < w * h) (hp : p < 6) (hy : y ≤ 60) (h92 : N 92 k = nI p) (h93 : N 93 k = nI c) (h94 : N 94 k = nI y) (h95 : N 95 k = nI ok) (hok : ok ≤ 1) (hhr : hr ≤ 230) : ∃ N' : gN, RMo N' w h sd gs t0 hr (if ok = 0 then s else rD c y p s) ∧ MFr N N' ∧ (∀ q, outM q → N' q = N q) ∧ ∀ (x : Int32) (F : Nat), ∃ x' : Int32, L_MO_draws_4 (F + 1) x (nI k) (N, L) = L_MO_draws_4 F x' (nI (k + 1)) (N', L) := by
  have h36 := PoolOk.n36 O
  have M0 := M
  obtain ⟨⟨m1, m2, m3⟩, m4, m5, m6, ol, wt, h86, h84, es⟩ := M
  obtain ⟨ea, eb⟩ := es c hc
  have hb := O.2.2 c hc
  have st := fun (x : Int32) (F : Nat) => mo_drawStep (L := L) (F := F) (s := x) h15 hk hW (by omega) hp hy h93 h94 h95 hok h92 h86 (congrFun h84 c) (by omega) m3 hhr
  by_cases c0 : ok = 0
  · exact ⟨N, by rw [if_pos c0]; exact M0, MFr.id N, fun _ _ => rfl, fun x F => ⟨x, by rw [st x F, if_neg (by omega)]⟩⟩
  obtain ⟨w1, w2, w3, w4, w5⟩ := dw_le y (osum ol c) (wt c)
  have ed : dwD y (s.1 c) (s.2.1 c) = dwD y (osum ol c) (wt c) := by rw [ea, eb]
  have eo : dwO y (s.1 c) (s.2.1 c) = dwO y (osum ol c) (wt c) := by rw [ea, eb]
  rw [if_neg c0]
  generalize hd : dwD y (osum ol c) (wt c) = d at *
  generalize ho : dwO y (osum ol c) (wt c) = o at *
  have sums : ∀ q, q < w * h → (rD c y p s).1 q = osum (tkO ol c o) q ∧ (rD c y p s).2.1 q = if q = c then wt c - (d - o) else wt q := by
    intro q hq
    obtain ⟨fa, fb⟩ := es q hq
    rw [tkO_sum w1]
    show (if q = c then s.1 c - dwO y (s.1 c) (s.2.1 c) else s.1 q) = _ ∧ (if q = c then s.2.1 c - (dwD y (s.1 c) (s.2.1 c) - dwO y (s.1 c) (s.2.1 c)) else s.2.1 q) = _
    rw [eo, ed, ea, eb, fa, fb]
    exact ⟨rfl, rfl⟩
  have tank : ∀ q, (rD c y p s).2.2 q = if q = p then s.2.2 p + nI o else s.2.2 q := by
    intro q
    show (if q = p then s.2.2 p + nI (dwO y (s.1 c) (s.2.1 c)) else s.2.2 q) = _
    rw [eo]
  by_cases c2 : 0 < d
  · obtain ⟨r84, r86, r96, r97, r98, r99, r100, ro⟩ := drM_row N ol k c p (60 * k + hr / 4) d o (wt c)
    have r81 := ro 81 (by decide)
    refine ⟨drM N ol k c p (60 * k + hr / 4) d o (wt c), ⟨?_, ?_, ?_, fun q hq => ?_, tkO ol c o, fun q => if q = c then wt c - (d - o) else wt q, r86, ?_, sums⟩, drM_fr h86 (by omega) (by omega) (by omega) hp, fun q hq => ro q hq, fun x F => ⟨x + nI o, by rw [st x F, if_pos ⟨by omega, c2⟩]⟩⟩
    · rw [r81]; exact ⟨m1, m2, m3⟩
    · rw [ro 82 (by decide)]; exact m4
    · rw [ro 83 (by decide)]; exact m5
    · rw [r100, tank]
      show (if q = p then N 100 p + nI o else N 100 q) = _
      by_cases e : q = p
      · rw [if_pos e, if_pos e, m6 p hp, e, Int32.add_assoc]
      · rw [if_neg e, if_neg e, m6 q hq]
    · rw [r84, h84]
      funext q
      show (if q = c then nI (wt c - (d - o)) else nI (wt q)) = nI (if q = c then wt c - (d - o) else wt q)
      by_cases e : q = c
      · rw [if_pos e, if_pos e]
      · rw [if_neg e, if_neg e]
  · have d0 : d = 0 := by omega
    have o0 : o = 0 := by omega
    subst d0
    subst o0
    refine ⟨N, ⟨⟨m1, m2, m3⟩, m4, m5, fun q hq => ?_, ol, wt, h86, h84, fun q hq => ?_⟩, MFr.id N, fun _ _ => rfl, fun x F => ⟨x, by rw [st x F, if_neg (by omega)]⟩⟩
    · rw [tank, m6 q hq]
      by_cases e : q = p
      · rw [if_pos e, e, show nI 0 = 0 from rfl, Int32.add_zero]
      · rw [if_neg e]
    · have := sums q hq
      rw [tkO_zero] at this
      refine ⟨this.1, this.2.trans ?_⟩
      by_cases e : q = c
      · rw [if_pos e, e, Nat.sub_zero]
      · rw [if_neg e]
theorem mo_rWells {L : Nat → Nat → Int64} {hr : Nat} (hhr : hr ≤ 230) : ∀ (r k : Nat) (s : rT) (N : gN), k + r = we → RMo N w h sd gs t0 hr s → rOk w h sd gs s → RMw N w h we n v set wp wc ww wo sp → ∃ N' : gN, RMo N' w h sd gs t0 hr (rFold (rW wp wc ww wo) r k s) ∧ MFr N N' ∧ (∀ q, outM q → N' q = N q) ∧ ∀ (x : Int32) (F : Nat), ∃ x' : Int32, L_MO_draws_4 (F + r) x (nI k) (N, L) = L_MO_draws_4 F x' (nI we) (N', L) := by
  intro r
  induction r with
  | zero =>
    intro k s N hk M O W
    have e : k = we := by omega
    subst e
    exact ⟨N, M, MFr.id N, fun _ _ => rfl, fun x F => ⟨x, rfl⟩⟩
  | succ r ih =>
    intro k s N hk M O W
    obtain ⟨W1, W2, W3, W4, W5, W6⟩ := id W
    have hkw : k < we := by omega
    have hcn := cnt_le (rB set) n
    obtain ⟨a1, a2, a3, a4, a5, a6, a7, a8⟩ := W5 k hkw
    obtain ⟨N1, M1, f1, o1, r1⟩ := mo_rDraw (L := L) M O W1 (k := k) (by omega) (by omega) a6 a5 a7 a1 a2 a3 a4 a8 hhr
    have M1 : RMo N1 w h sd gs t0 hr (rW wp wc ww wo k s) := M1
    obtain ⟨N2, M2, f2, o2, r2⟩ := ih (k + 1) _ N1 (by omega) M1 (O.well k s) (W.cong (by rw [o1 81 (by unfold outM; decide)]) (fun q h1 h2 => o1 q (by unfold outM; omega)))
    refine ⟨N2, M2, f1.trans f2, fun q hq => (o2 q hq).trans (o1 q hq), fun x F => ?_⟩
    obtain ⟨x1, e1⟩ := r1 x (F + r)
    obtain ⟨x2, e2⟩ := r2 x1 F
    exact ⟨x2, e1.trans e2⟩
theorem mo_rRacers {L : Nat → Nat → Int64} {hr : Nat} (hhr : hr ≤ 230) : ∀ (r p : Nat) (s : rT) (N : gN), p + r = n → RMo N w h sd gs t0 hr s → rOk w h sd gs s → RMw N w h we n v set wp wc ww wo sp → ∃ N' : gN, RMo N' w h sd gs t0 hr (rFold (rP sp v set) r p s) ∧ MFr N N' ∧ (∀ q, outM q → N' q = N q) ∧ ∀ (x : Int32) (F : Nat), r < F → ∃ x' : Int32, L_MO_draws_4 F x (nI (we + cnt (rB set) p)) (N, L) = some (x', (N', L)) := by
  intro r
  induction r with
  | zero =>
    intro p s N hk M O W
    have e : p = n := by omega
    subst e
    have hcn := cnt_le (rB set) p
    obtain ⟨W1, W2, W3, W4, W5, W6⟩ := id W
    refine ⟨N, M, MFr.id N, fun _ _ => rfl, fun x F hF => ⟨x, ?_⟩⟩
    obtain ⟨F, rfl⟩ : ∃ F', F = F' + 1 := ⟨F - 1, by omega⟩
    rw [L4d_s]
    simp (disch := omega) only [gfd_eq, glet_eq, gbind_eq, nI_ltI, nI_1, gok_nI, grd_nI, nI_clamp, if_true, if_false, Nat.lt_irrefl, W1, i10, gokT]
  | succ r ih =>
    intro p s N hk M O W
    obtain ⟨W1, W2, W3, W4, W5, W6⟩ := id W
    have hpn : p < n := by omega
    have hcn := cnt_le (rB set) n
    by_cases c0 : set / 2 ^ p % 2 = 1
    · obtain ⟨a1, a2, a3, a4, a5⟩ := W6 p hpn (rB_t c0)
      have ce : cnt (rB set) (p + 1) = cnt (rB set) p + 1 := if_pos (rB_t c0)
      have cm := cnt_mono (rB set) (t := p + 1) (n - (p + 1))
      rw [show p + 1 + (n - (p + 1)) = n by omega] at cm
      obtain ⟨N1, M1, f1, o1, r1⟩ := mo_rDraw (L := L) M O W1 (k := we + cnt (rB set) p) (by omega) (by omega) a5 (show p < 6 by omega) W4 a1 a2 a3 a4 (Nat.le_refl 1) hhr
      have M1 : RMo N1 w h sd gs t0 hr (rP sp v set p s) := by
        rw [show rP sp v set p s = rD (sp p) v p s from if_pos c0]
        exact M1
      obtain ⟨N2, M2, f2, o2, r2⟩ := ih (p + 1) _ N1 (by omega) M1 (O.racer p s) (W.cong (by rw [o1 81 (by unfold outM; decide)]) (fun q h1 h2 => o1 q (by unfold outM; omega)))
      refine ⟨N2, M2, f1.trans f2, fun q hq => (o2 q hq).trans (o1 q hq), fun x F hF => ?_⟩
      obtain ⟨F, rfl⟩ : ∃ F', F = F' + 1 := ⟨F - 1, by omega⟩
      obtain ⟨x1, e1⟩ := r1 x F
      obtain ⟨x2, e2⟩ := r2 x1 F (by omega)
      rw [ce, ← Nat.add_assoc] at e2
      exact ⟨x2, e1.trans e2⟩
    · have ce : cnt (rB set) (p + 1) = cnt (rB set) p := if_neg (by rw [rB_f c0]; decide)
      obtain ⟨N2, M2, f2, o2, r2⟩ := ih (p + 1) s N (by omega) M O W
      refine ⟨N2, ?_, f2, o2, fun x F hF => ?_⟩
      · have : rFold (rP sp v set) (r + 1) p s = rFold (rP sp v set) r (p + 1) s := by
          show rFold _ r (p + 1) (rP sp v set p s) = _
          rw [show rP sp v set p s = s from if_neg c0]
        rw [this]
        exact M2
      · have := r2 x F (by omega)
        rw [ce] at this
        exact this
/-- an hour of a race: the reference's side -/
theorem mo_rStep {N : gN} {L : Nat → Nat → Int64} {hr : Nat} {s : rT} (hhr : hr ≤ 230) (M : RMo N w h sd gs t0 hr s) (O : rOk w h sd gs s) (W : RMw N w h we n v set wp wc ww wo sp) : ∃ (x : Int32) (N' : gN), f_MO_step (N, L) = some (x, (N', L)) ∧ RMo N' w h sd gs t0 (hr + 1) (rH w h sd gs we wp wc ww wo n sp v set s) ∧ MFr N N' ∧ RMw N' w h we n v set wp wc ww wo sp := by
  have h36 := PoolOk.n36 O
  obtain ⟨N1, M1, f1, o1, r1⟩ := mo_rWells (L := L) hhr we 0 s N (by omega) M O W
  have O1 := rOk.fold (fun k s => rOk.well (wp := wp) (wc := wc) (ww := ww) (wo := wo) k s) we 0 s O
  have W1 : RMw N1 w h we n v set wp wc ww wo sp := W.cong (by rw [o1 81 (by unfold outM; decide)]) (fun q h1 h2 => o1 q (by unfold outM; omega))
  obtain ⟨N2, M2, f2, o2, r2⟩ := mo_rRacers (L := L) hhr n 0 _ N1 (by omega) M1 O1 W1
  have O2 := rOk.fold (fun k s => rOk.racer (sp := sp) (v := v) (set := set) k s) n 0 _ O1
  have W2 : RMw N2 w h we n v set wp wc ww wo sp := W1.cong (by rw [o2 81 (by unfold outM; decide)]) (fun q h1 h2 => o2 q (by unfold outM; omega))
  have hwe := W.2.1
  have hn4 := W.2.2.1
  obtain ⟨x1, e1⟩ := r1 0 (1000 - we)
  obtain ⟨x2, e2⟩ := r2 x1 (1000 - we) (by omega)
  have dr : f_MO_draws (N, L) = some (x2, (N2, L)) := by
    unfold f_MO_draws
    rw [show 1000 - we + we = 1000 by omega] at e1
    exact e1.trans e2
  show ∃ (x : Int32) (N' : gN), f_MO_step (N, L) = some (x, (N', L)) ∧ RMo N' w h sd gs t0 (hr + 1) (rF w h sd gs (rFold (rP sp v set) n 0 (rFold (rW wp wc ww wo) we 0 s))) ∧ MFr N N' ∧ RMw N' w h we n v set wp wc ww wo sp
  generalize rFold (rP sp v set) n 0 (rFold (rW wp wc ww wo) we 0 s) = s2 at M2 O2 ⊢
  obtain ⟨⟨m1, m2, m3⟩, m4, m5, m6, ol, wt, h86, h84, es⟩ := M2
  have PO : PoolOk w h sd gs wt (osum ol) := ⟨O2.1, O2.2.1, fun c hc => by have := O2.2.2 c hc; have := es c hc; omega⟩
  obtain ⟨N3, r3, n86, n84, n3⟩ := mo_flows (L := L) (N := N2) PO m1 m2 m4 m5 h84 h86
  have e812 : N3 81 2 = nI hr := by rw [n3 81 (by decide) (by decide) (by decide)]; exact m3
  refine ⟨x2, gup N3 81 2 (nI (hr + 1)), ?_, ⟨⟨?_, ?_, gup_at _ _ _ _⟩, ?_, ?_, fun p hp => ?_, flO w h sd gs wt ol, flW w h sd gs wt (osum ol), (gup_ne (by decide)).trans n86, (gup_ne (by decide)).trans n84, fun c hc => ?_⟩, (f1.trans f2).trans (fun p q e hpq => ?_), W2.cong ?_ (fun q h1 h2 => ?_)⟩
  · unfold f_MO_step
    rw [dr, gbind_eq]
    show ((f_MO_flows (N2, L)).bind _) = _
    rw [r3, gbind_eq, glet_eq, gfd_eq]
    show some (x2, gsf (N3, L) 81 2 (N3 81 2 + 1)) = _
    rw [e812, nI_1, gsf_eq]
  · exact (gup_col (by decide)).trans ((congrFun (n3 81 (by decide) (by decide) (by decide)) 0).trans m1)
  · exact (gup_col (by decide)).trans ((congrFun (n3 81 (by decide) (by decide) (by decide)) 1).trans m2)
  · exact (gup_ne (by decide)).trans ((n3 82 (by decide) (by decide) (by decide)).trans m4)
  · exact (gup_ne (by decide)).trans ((n3 83 (by decide) (by decide) (by decide)).trans m5)
  · rw [gup_ne (by decide), n3 100 (by decide) (by decide) (by decide)]
    exact m6 p hp
  · have c1 := fl_cong (sd := sd) (gs := gs) (os := s2.1) (os' := osum ol) (wt := s2.2.1) (wt' := wt) O2.1.1 h36 es hc
    exact ⟨c1.1.trans (flS_lots O2.1.1 h36 hc).symm, c1.2⟩
  · by_cases a81 : p = 81
    · subst a81
      rw [gup_col (pgx81 e).2.2.1, n3 81 (by decide) (by decide) (by decide)]
    rw [gup_ne a81]
    by_cases a84 : p = 84
    · subst a84
      have hq := pgx1 (by decide) e
      rw [n84, h84]
      show nI (flW w h sd gs wt (osum ol) q) = nI (wt q)
      rw [(fl_far (w := w) (h := h) (sd := sd) (gs := gs) (wt := wt) (ol := ol) O2.1.1 (by omega)).2]
    by_cases a86 : p = 86
    · subst a86
      have hq := pgx2 e
      rw [n86, h86]
      show nI (flO w h sd gs wt ol q) = nI (ol q)
      rw [flO_far (w := w) (h := h) (sd := sd) (gs := gs) (wt := wt) (ol := ol) O2.1.1 (by omega)]
    rw [n3 p a84 a86 (by omega)]
  · rw [gup_col (by decide), n3 81 (by decide) (by decide) (by decide)]
  · rw [gup_ne (by omega), n3 q (by omega) (by omega) (by omega)]
end RM
