/-! ===== orders: the call ===== -/
theorem tS_self (N : gN) : N = tS N (N 34 3) (N 34 4) (N 34 5) (N 34 6) (N 34 7) (N 34 8) := by
  funext p q
  unfold tS
  by_cases hp : p = 34
  · subst hp
    rw [if_pos rfl]
    by_cases h3 : q = 3
    · rw [if_pos h3, h3]
    rw [if_neg h3]
    by_cases h4 : q = 4
    · rw [if_pos h4, h4]
    rw [if_neg h4]
    by_cases h5 : q = 5
    · rw [if_pos h5, h5]
    rw [if_neg h5]
    by_cases h6 : q = 6
    · rw [if_pos h6, h6]
    rw [if_neg h6]
    by_cases h7 : q = 7
    · rw [if_pos h7, h7]
    rw [if_neg h7]
    by_cases h8 : q = 8
    · rw [if_pos h8, h8]
    rw [if_neg h8]
  · rw [if_neg hp]
theorem rS_self (M : gN) : M = rS M (M 81 39) (M 81 40) (M 81 41) (M 81 42) (M 81 43) (M 81 44) := by
  funext p q
  unfold rS
  by_cases hp : p = 81
  · subst hp
    rw [if_pos rfl]
    by_cases h3 : q = 39
    · rw [if_pos h3, h3]
    rw [if_neg h3]
    by_cases h4 : q = 40
    · rw [if_pos h4, h4]
    rw [if_neg h4]
    by_cases h5 : q = 41
    · rw [if_pos h5, h5]
    rw [if_neg h5]
    by_cases h6 : q = 42
    · rw [if_pos h6, h6]
    rw [if_neg h6]
    by_cases h7 : q = 43
    · rw [if_pos h7, h7]
    rw [if_neg h7]
    by_cases h8 : q = 44
    · rw [if_pos h8, h8]
    rw [if_neg h8]
  · rw [if_neg hp]
theorem tS_start (N : gN) : gup (gup (gup N 34 3 0) 34 4 0) 34 5 0 = tS N 0 0 0 (N 34 6) (N 34 7) (N 34 8) := by
  have e := tS_self N
  have h : gup (gup (gup N 34 3 0) 34 4 0) 34 5 0 = gup (gup (gup (tS N (N 34 3) (N 34 4) (N 34 5) (N 34 6) (N 34 7) (N 34 8)) 34 3 0) 34 4 0) 34 5 0 := by rw [← e]
  rw [h, tS_u3, tS_u4, tS_u5]
theorem rS_start (M : gN) : gup (gup (gup M 81 39 0) 81 41 0) 81 53 0 = rS (gup M 81 53 0) 0 (M 81 40) 0 (M 81 42) (M 81 43) (M 81 44) := by
  have e := rS_self M
  have h : gup (gup (gup M 81 39 0) 81 41 0) 81 53 0 = gup (gup (gup (rS M (M 81 39) (M 81 40) (M 81 41) (M 81 42) (M 81 43) (M 81 44)) 81 39 0) 81 41 0) 81 53 0 := by rw [← e]
  rw [h, rS_u39, rS_u41, rS_g53]
/-- the text read, on both sides -/
theorem read_both {ts : Nat} {by_ : Nat → Nat} (hts : ts ≤ 160) (hby : ∀ i, by_ i < 256) :
    (∃ (nl : Nat) (ru fr nu : Nat → Nat), drB nl ru fr nu ∧ (∀ (N : gN) (L : Nat → Nat → Int64), hyC ts by_ N → (∀ k, k < 12 → N 40 k = 0) → ∃ (N' : gN) (a' tk' st' vl' : Int32), f_Tape_read 34 (N, L) = some (tS N' 0 0 a' tk' st' vl', L) ∧ drC_ N' nl ru fr nu ∧ bfC N N') ∧ ∀ (M : gN) (L : Nat → Nat → Int64), hyM ts by_ M → hyK M → ∃ (M' : gN) (wa' a' st' tk' vl' : Int32), f_MO_orders (M, L) = J_MO_orders_40 (rS M' 0 wa' a' st' tk' vl', L) ∧ drM_ M' nl ru fr nu ∧ bfM M M') ∨
    ∃ k s : Nat, 1 ≤ k ∧ k ≤ 5 ∧ (∀ (N : gN) (L : Nat → Nat → Int64), hyC ts by_ N → (∀ k, k < 12 → N 40 k = 0) → ∃ (N' : gN) (a' tk' st' vl' : Int32), f_Tape_read 34 (N, L) = some (tS N' (nI k) (nI s) a' tk' st' vl', L) ∧ bfC N N') ∧ ∀ (M : gN) (L : Nat → Nat → Int64), hyM ts by_ M → hyK M → ∃ (M' : gN) (a' st' tk' vl' : Int32), f_MO_orders (M, L) = J_MO_orders_40 (rS M' (nI k) (nI s) a' st' tk' vl', L) ∧ bfM M M' := by
  have cE : ∀ (N : gN) (L : Nat → Nat → Int64), f_Tape_read 34 (N, L) = (f_Tape_nextToken 34 (tS (gup N 36 0 0) 0 0 (nI 0) (gup N 36 0 0 34 6) (gup N 36 0 0 34 7) (gup N 36 0 0 34 8), L)).bind fun (r1 : gM) => L_Tape_read_29 34 1000 (nI 0) r1 := fun N L => by
    have e := tS_start (gup N 36 0 0)
    show (f_Tape_nextToken 34 (gup (gup (gup (gup N 36 0 0) 34 3 0) 34 4 0) 34 5 0, L)).bind _ = _
    rw [e]
    rfl
  have mE : ∀ (M : gN) (L : Nat → Nat → Int64), f_MO_orders (M, L) = (f_MO_next (rS (gup M 81 53 0) 0 (M 81 40) (nI 0) (M 81 42) (M 81 43) (M 81 44), L)).bind fun (r1 : gM) => L_MO_orders_19 (fun m14 => J_MO_orders_40 m14) 1000 r1 := fun M L => by
    have e := rS_start M
    show (f_MO_next (gup (gup (gup M 81 39 0) 81 41 0) 81 53 0, L)).bind _ = _
    rw [e]
    rfl
  have bC : ∀ N : gN, bfC N (gup N 36 0 0) := fun N => ⟨fun p hp => gup_ne (by omega), fun h k hk => by rw [gup_row (by decide)]; exact h k hk⟩
  have bM : ∀ M : gN, bfM M (gup M 81 53 0) := fun M => ⟨fun p h1 h2 => gup_ne h1, fun q hq => gup_col hq⟩
  have hC0 : ∀ N : gN, hyC ts by_ N → hyC ts by_ (gup N 36 0 0) := fun N H => by
    unfold hyC at H ⊢
    rw [gup_ne (by decide), gup_ne (by decide)]
    exact H
  have hM0 : ∀ M : gN, hyM ts by_ M → hyM ts by_ (gup M 81 53 0) := fun M H => by
    unfold hyM at H ⊢
    rw [gup_col (by decide), gup_ne (by decide)]
    exact H
  have hK0 : ∀ M : gN, hyK M → hyK (gup M 81 53 0) := fun M H => by
    unfold hyK at H ⊢
    rw [gup_ne (by decide), gup_ne (by decide), gup_ne (by decide)]
    exact H
  have dC0 : ∀ N : gN, (∀ k, k < 12 → N 40 k = 0) → drC_ (gup N 36 0 0) 0 (fun _ => 0) (fun _ => 0) (fun _ => 0) := fun N h => ⟨gup_at _ _ _ _, fun k hk => by omega, (bC N).2 h⟩
  have dM0 : ∀ M : gN, drM_ (gup M 81 53 0) 0 (fun _ => 0) (fun _ => 0) (fun _ => 0) := fun M => ⟨gup_at _ _ _ _, fun k hk => by omega⟩
  rcases next_both (a := 0) hts hby (Nat.zero_le ts) with ⟨a1, s1, t1, v1, b1, b2, b3, b4, b5, x1, x2⟩ | ⟨s1, b1, x1, x2⟩
  · have B0 : drB 0 (fun _ => 0) (fun _ => 0) (fun _ => 0) := ⟨by decide, fun k hk => by omega⟩
    rcases rest_both hts hby 12 0 (fun _ => 0) (fun _ => 0) (fun _ => 0) a1 s1 t1 v1 (by omega) B0 b1 b2 b3 b5 with ⟨nl, ru, fr, nu, B, i1, i2⟩ | ⟨k, s, c1, c2, c3, i1, i2⟩
    · refine Or.inl ⟨nl, ru, fr, nu, B, fun N L hC h40 => ?_, fun M L hM hK => ?_⟩
      · obtain ⟨N', y1, y2, y3, y4, e, D, bf⟩ := i1 (gup N 36 0 0) L 0 0 1000 (hC0 N hC) (dC0 N h40) (by omega) (by omega)
        refine ⟨N', y1, y2, y3, y4, ?_, D, (bC N).trans bf⟩
        rw [cE, x1 _ L 0 _ _ _ (hC0 N hC), gbind_eq]
        exact e
      · obtain ⟨M', y1, y2, y3, y4, e, D, bf⟩ := i2 (gup M 81 53 0) L (M 81 40) (fun m14 => J_MO_orders_40 m14) 1000 (hM0 M hM) (hK0 M hK) (dM0 M) (by omega)
        refine ⟨M', M 81 40, y1, y2, y3, y4, ?_, D, (bM M).trans bf⟩
        rw [mE, x2 _ L (M 81 40) _ _ _ (hM0 M hM) (hK0 M hK), gbind_eq]
        exact e
    · refine Or.inr ⟨k, s, c1, c2, fun N L hC h40 => ?_, fun M L hM hK => ?_⟩
      · obtain ⟨N', y1, y2, y3, y4, e, bf⟩ := i1 (gup N 36 0 0) L 0 0 1000 (hC0 N hC) (dC0 N h40) (by omega) (by omega)
        refine ⟨N', y1, y2, y3, y4, ?_, (bC N).trans bf⟩
        rw [cE, x1 _ L 0 _ _ _ (hC0 N hC), gbind_eq]
        exact e
      · obtain ⟨M', y1, y2, y3, y4, e, bf⟩ := i2 (gup M 81 53 0) L (M 81 40) (fun m14 => J_MO_orders_40 m14) 1000 (hM0 M hM) (hK0 M hK) (dM0 M) (by omega)
        refine ⟨M', y1, y2, y3, y4, ?_, (bM M).trans bf⟩
        rw [mE, x2 _ L (M 81 40) _ _ _ (hM0 M hM) (hK0 M hK), gbind_eq]
        exact e
  · have k1 := k_ok (k := 1) (by decide) (by decide)
    refine Or.inr ⟨1, s1, by decide, by decide, fun N L hC h40 => ?_, fun M L hM hK => ?_⟩
    · obtain ⟨a', tk', vl', e⟩ := x1 (gup N 36 0 0) L 0 (gup N 36 0 0 34 6) (gup N 36 0 0 34 7) (gup N 36 0 0 34 8) (hC0 N hC)
      refine ⟨gup N 36 0 0, a', tk', nI s1, vl', ?_, bC N⟩
      rw [cE, e, gbind_eq, L_Tape_read_29_s 34 999, if_neg (show ¬ (160 : Int32) < nI 0 by decide), show gfd (tS (gup N 36 0 0) 1 (nI s1) a' tk' (nI s1) vl', L) 34 3 = nI 1 from rfl, if_neg k1.1]
      rfl
    · obtain ⟨a', tk', vl', e⟩ := x2 (gup M 81 53 0) L (M 81 40) (M 81 42) (M 81 43) (M 81 44) (hM0 M hM) (hK0 M hK)
      refine ⟨gup M 81 53 0, a', nI s1, tk', vl', ?_, bM M⟩
      rw [mE, e, gbind_eq, L_MO_orders_19_s _ 999, show gfd (rS (gup M 81 53 0) 1 (nI s1) a' (nI s1) tk' vl', L) 81 39 = nI 1 from rfl, if_neg k1.1]
      rfl
/-! the lines that are told from then on -/
def zrR (f : Nat → Int32) (j : Nat) : Nat → Int32 := fun q => if q < j then 0 else f q
theorem zrR_s (N : gN) (a : Nat) (f : Nat → Int32) (j : Nat) : gup (grw N a (zrR f j)) a j 0 = grw N a (zrR f (j + 1)) := by
  rw [gup_grw, grw_grw, grw_eq]
  congr 1
  funext q
  unfold zrR
  by_cases h : q = j
  · rw [if_pos h, if_pos (by omega)]
  · rw [if_neg h]
    by_cases h2 : q < j
    · rw [if_pos h2, if_pos (by omega)]
    · rw [if_neg h2, if_neg (by omega)]
theorem cl_cp55 {m : gM} (h40 : ∀ k, k < 12 → m.1 40 k = 0) : L_Orders_copyFrom_55 41 36 1000 0 m = some (grw m.1 45 (zrR (m.1 45) 12), m.2) := by
  unfold L_Orders_copyFrom_55
  refine gloopS0 (fun (g : Int32 → gM → Option gM) j (s : gM) => g (nI j) s) 12 (fun j => (grw m.1 45 (zrR (m.1 45) j), m.2)) _ ?_ ?_ ?_ 1000 (by omega)
  · show (grw m.1 45 (zrR (m.1 45) 0), m.2) = m
    have : zrR (m.1 45) 0 = m.1 45 := by
      funext q
      exact if_neg (by omega)
    rw [this, grw_id]
  · intro g j hj
    have e40 : grw m.1 45 (zrR (m.1 45) j) 40 j = 0 := by rw [grw_ne (by decide)]; exact h40 j hj
    have st := zrR_s m.1 45 (m.1 45) j
    simp (disch := omega) only [gfd_eq, glet_eq, gbind_eq, nI_ltI, nI_1, gok_nI, grd_nI, nI_clamp, if_true, if_false, Nat.lt_irrefl, show (12 : Int32) = nI 12 from rfl, hj, e40, gzo_t (Or.inl rfl), gst_nI, st, Nat.reduceAdd, i10, gokT]
  · intro g
    simp (disch := omega) only [gfd_eq, glet_eq, gbind_eq, nI_ltI, nI_1, gok_nI, grd_nI, nI_clamp, if_true, if_false, Nat.lt_irrefl, show (12 : Int32) = nI 12 from rfl, i10, gokT]
theorem cl_copyLines {Q : gN} {L : Nat → Nat → Int64} (h40 : ∀ k, k < 12 → Q 40 k = 0) : ∃ R : gN, f_Orders_copyFrom 41 36 (Q, L) = some (R, L) ∧ (∀ p, p < 41 ∨ 45 < p → R p = Q p) ∧ R 41 0 = Q 36 0 ∧ ∀ k, k < 12 → R 42 k = Q 37 k ∧ R 43 k = Q 38 k ∧ R 44 k = Q 39 k ∧ R 45 k = 0 := by
  let Q1 : gM := gcpL (gcpL (gcpL (gup Q 41 0 (Q 36 0), L) 37 42 12) 38 43 12) 39 44 12
  have zc : ∀ (m : gM) (b a p q : Nat), p ≠ a → (gcpL m b a 12).1 p q = m.1 p q := fun m b a p q hne => if_neg (fun y => hne y.1)
  have q1 : ∀ p q, Q1.1 p q = if p = 44 ∧ q < 12 then Q 39 q else if p = 43 ∧ q < 12 then Q 38 q else if p = 42 ∧ q < 12 then Q 37 q else gup Q 41 0 (Q 36 0) p q := by
    intro p q
    show (if p = 44 ∧ q < 12 then _ else if p = 43 ∧ q < 12 then _ else if p = 42 ∧ q < 12 then _ else gup Q 41 0 (Q 36 0) p q) = _
    by_cases h1 : p = 44 ∧ q < 12
    · rw [if_pos h1, if_pos h1]
      exact (zc _ 38 43 39 q (by decide)).trans ((zc _ 37 42 39 q (by decide)).trans (gup_row (N := Q) (a := 41) (i := 0) (x := Q 36 0) (show (39 : Nat) ≠ 41 by decide)))
    · rw [if_neg h1, if_neg h1]
      by_cases h2 : p = 43 ∧ q < 12
      · rw [if_pos h2, if_pos h2]
        exact (zc _ 37 42 38 q (by decide)).trans (gup_row (N := Q) (a := 41) (i := 0) (x := Q 36 0) (show (38 : Nat) ≠ 41 by decide))
      · rw [if_neg h2, if_neg h2]
        by_cases h3 : p = 42 ∧ q < 12
        · rw [if_pos h3, if_pos h3]
          exact gup_row (N := Q) (a := 41) (i := 0) (x := Q 36 0) (show (37 : Nat) ≠ 41 by decide)
        · rw [if_neg h3, if_neg h3]
  have run : f_Orders_copyFrom 41 36 (Q, L) = L_Orders_copyFrom_55 41 36 1000 0 Q1 := by
    unfold f_Orders_copyFrom
    simp only [glet_eq, gcp_eq _ _ _ 12 12 rfl]
    rfl
  have hL1 : Q1.2 = L := rfl
  clear_value Q1
  obtain ⟨Q1n, Q1L⟩ := Q1
  have hL1 : Q1L = L := hL1
  subst hL1
  have q1 : ∀ p q, Q1n p q = _ := q1
  have c := cl_cp55 (m := (Q1n, Q1L)) (fun k hk => by
    show Q1n 40 k = 0
    rw [q1, if_neg (by omega), if_neg (by omega), if_neg (by omega), gup_row (by decide)]
    exact h40 k hk)
  refine ⟨grw Q1n 45 (zrR (Q1n 45) 12), run.trans c, fun p hp => ?_, ?_, fun k hk => ⟨?_, ?_, ?_, ?_⟩⟩
  · rw [grw_ne (by omega)]
    funext q
    rw [q1, if_neg (by omega), if_neg (by omega), if_neg (by omega), gup_row (by omega)]
  · rw [grw_ne (by decide), q1, if_neg (by omega), if_neg (by omega), if_neg (by omega), gup_at]
  · rw [grw_ne (by decide), q1, if_neg (by omega), if_neg (by omega), if_pos ⟨rfl, hk⟩]
  · rw [grw_ne (by decide), q1, if_neg (by omega), if_pos ⟨rfl, hk⟩]
  · rw [grw_ne (by decide), q1, if_pos ⟨rfl, hk⟩]
  · rw [grw_eq]; exact if_pos hk
/-- the reference's lines told -/
def orN (M : gN) (j : Nat) : gN := fun p q => if q < j ∧ p = 116 then M 120 q else if q < j ∧ p = 117 then M 121 q else if q < j ∧ p = 118 then M 122 q else if q < j ∧ p = 119 then 0 else M p q
theorem orN_ne {M : gN} {j p : Nat} (h : p < 116 ∨ 119 < p) : orN M j p = M p := by
  funext q
  unfold orN
  rw [if_neg (by omega), if_neg (by omega), if_neg (by omega), if_neg (by omega)]
theorem orN_s (M : gN) (j : Nat) : gup (gup (gup (gup (orN M j) 116 j (M 120 j)) 117 j (M 121 j)) 118 j (M 122 j)) 119 j 0 = orN M (j + 1) := by
  funext p q
  rw [gup_all, gup_all, gup_all, gup_all]
  unfold orN
  by_cases h6 : p = 116
  · subst h6
    rw [if_neg (by omega), if_neg (by omega), if_neg (by omega)]
    by_cases hq : q = j
    · rw [if_pos ⟨rfl, hq⟩, if_pos (by omega), hq]
    · rw [if_neg (by omega)]
      by_cases h : q < j
      · rw [if_pos (by omega), if_pos (by omega)]
      · rw [if_neg (by omega), if_neg (by omega), if_neg (by omega), if_neg (by omega), if_neg (by omega), if_neg (by omega), if_neg (by omega), if_neg (by omega)]
  by_cases h7 : p = 117
  · subst h7
    rw [if_neg (by omega), if_neg (by omega)]
    by_cases hq : q = j
    · rw [if_pos ⟨rfl, hq⟩, if_neg (by omega), if_pos (by omega), hq]
    · rw [if_neg (by omega), if_neg (by omega)]
      by_cases h : q < j
      · rw [if_neg (by omega), if_pos (by omega), if_neg (by omega), if_pos (by omega)]
      · rw [if_neg (by omega), if_neg (by omega), if_neg (by omega), if_neg (by omega), if_neg (by omega), if_neg (by omega), if_neg (by omega), if_neg (by omega)]
  by_cases h8 : p = 118
  · subst h8
    rw [if_neg (by omega)]
    by_cases hq : q = j
    · rw [if_pos ⟨rfl, hq⟩, if_neg (by omega), if_neg (by omega), if_pos (by omega), hq]
    · rw [if_neg (by omega), if_neg (by omega), if_neg (by omega)]
      by_cases h : q < j
      · rw [if_neg (by omega), if_neg (by omega), if_pos (by omega), if_neg (by omega), if_neg (by omega), if_pos (by omega)]
      · rw [if_neg (by omega), if_neg (by omega), if_neg (by omega), if_neg (by omega), if_neg (by omega), if_neg (by omega), if_neg (by omega), if_neg (by omega)]
  by_cases h9 : p = 119
  · subst h9
    by_cases hq : q = j
    · rw [if_pos ⟨rfl, hq⟩, if_neg (by omega), if_neg (by omega), if_neg (by omega), if_pos (by omega)]
    · rw [if_neg (by omega), if_neg (by omega), if_neg (by omega), if_neg (by omega)]
      by_cases h : q < j
      · rw [if_neg (by omega), if_neg (by omega), if_neg (by omega), if_pos (by omega), if_neg (by omega), if_neg (by omega), if_neg (by omega), if_pos (by omega)]
      · rw [if_neg (by omega), if_neg (by omega), if_neg (by omega), if_neg (by omega), if_neg (by omega), if_neg (by omega), if_neg (by omega), if_neg (by omega)]
  rw [if_neg (by omega), if_neg (by omega), if_neg (by omega), if_neg (by omega), if_neg (by omega), if_neg (by omega), if_neg (by omega), if_neg (by omega), if_neg (by omega), if_neg (by omega), if_neg (by omega), if_neg (by omega)]
theorem mo_copyLines {M : gN} {L : Nat → Nat → Int64} (K : Int32 → gM → Option (Int32 × gM)) : L_MO_orders_78 K 1000 0 (M, L) = K (nI 12) (orN M 12, L) := by
  unfold L_MO_orders_78
  refine gloopS0 (fun (g : Int32 → gM → Option (Int32 × gM)) j (s : gM) => g (nI j) s) 12 (fun j => (orN M j, L)) _ ?_ ?_ ?_ 1000 (by omega)
  · show (orN M 0, L) = _
    have : orN M 0 = M := by
      funext p q
      unfold orN
      rw [if_neg (by omega), if_neg (by omega), if_neg (by omega), if_neg (by omega)]
    rw [this]
  · intro g j hj
    have e0 : orN M j 120 j = M 120 j := congrFun (orN_ne (by omega)) j
    have e1 : ∀ x, gup (orN M j) 116 j x 121 j = M 121 j := fun x => (gup_row (by decide)).trans (congrFun (orN_ne (by omega)) j)
    have e2 : ∀ x y, gup (gup (orN M j) 116 j x) 117 j y 122 j = M 122 j := fun x y => (gup_row (by decide)).trans ((gup_row (by decide)).trans (congrFun (orN_ne (by omega)) j))
    have st := orN_s M j
    simp (disch := omega) only [gfd_eq, glet_eq, gbind_eq, nI_ltI, nI_1, gok_nI, grd_nI, nI_clamp, if_true, if_false, Nat.lt_irrefl, show (12 : Int32) = nI 12 from rfl, hj, gst_nI, e0, e1, e2, st, i10, gokT]
  · intro g
    simp (disch := omega) only [gfd_eq, glet_eq, gbind_eq, nI_ltI, nI_1, gok_nI, grd_nI, nI_clamp, if_true, if_false, Nat.lt_irrefl, show (12 : Int32) = nI 12 from rfl, i10, gokT]
theorem p_orders {n0 K : Nat} {m : gM} (I : Inv n0 K m.1) : gBoth n0 K f_OT_orders f_MO_orders m := by
  obtain ⟨⟨ts, hts, t0, t1⟩, t35, ⟨by_, tb, hby⟩, t3, t113, t114, t115⟩ := I.2.2.1
  obtain ⟨lnl, lru, lfr, lnu, lvo, l12, l0, l1, l2, l40⟩ := I.2.2.2.1
  have hC : hyC ts by_ m.1 := ⟨t0, t35.trans tb⟩
  have hMo : ∀ M : gN, (∀ p, p < 34 ∨ 45 < p → M p = m.1 p) → hyM ts by_ M ∧ hyK M := fun M h => by
    refine ⟨?_, ?_⟩
    · unfold hyM
      rw [h 81 (by omega), h 112 (by omega)]
      exact ⟨t1, tb⟩
    · unfold hyK
      rw [h 113 (by omega), h 114 (by omega), h 115 (by omega)]
      exact ⟨t113, t114, t115⟩
  rcases read_both hts hby with ⟨nl, ru, fr, nu, B, i1, i2⟩ | ⟨k, s, c1, c2, i1, i2⟩
  · -- the lines are told
    obtain ⟨N1, a', tk', st', vl', e, D, bf⟩ := i1 m.1 m.2 hC l40
    let Q : gN := gup (tS N1 0 0 a' tk' st' vl') 34 0 0
    have qr : ∀ p, p ≠ 34 → Q p = N1 p := fun p hp => (gup_ne hp).trans (tS_ne hp)
    have q34 : Q 34 3 = 0 := gup_col (by decide)
    have q340 : Q 34 0 = 0 := gup_at _ _ _ _
    obtain ⟨R, e2, r1, r2, r3⟩ := cl_copyLines (Q := Q) (L := m.2) (fun k hk => by rw [qr 40 (by decide)]; exact D.2.2 k hk)
    have rm : ∀ p, p < 34 ∨ 45 < p → R p = m.1 p := fun p hp => by rw [r1 p (by omega), qr p (by omega), bf.1 p (by omega)]
    obtain ⟨hM, hK⟩ := hMo R rm
    obtain ⟨M', wa', a2, st2, tk2, vl2, e3, DM, bfm⟩ := i2 R m.2 hM hK
    let S : gN := rS M' 0 wa' a2 st2 tk2 vl2
    have sr : ∀ p, p ≠ 81 → S p = M' p := fun p hp => rS_ne hp
    have s81 : ∀ q, q < 39 ∨ 44 < q → S 81 q = M' 81 q := fun q hq => by
      show rS M' 0 wa' a2 st2 tk2 vl2 81 q = _
      unfold rS
      rw [if_pos rfl, if_neg (by omega), if_neg (by omega), if_neg (by omega), if_neg (by omega), if_neg (by omega), if_neg (by omega)]
    let T : gN := gup (gup (gup S 81 37 0) 81 38 0) 81 48 (nI nl)
    have tr : ∀ p, p ≠ 81 → T p = S p := fun p hp => (gup_ne hp).trans ((gup_ne hp).trans (gup_ne hp))
    have t81 : ∀ q, q ≠ 37 → q ≠ 38 → q ≠ 48 → T 81 q = S 81 q := fun q h1 h2 h3 => (gup_col h3).trans ((gup_col h2).trans (gup_col h1))
    have run : f_MO_orders (R, m.2) = some (nI nl, (orN T 12, m.2)) := by
      have s39 : gup S 81 37 0 81 39 = 0 := gup_col (by decide)
      have s39b : gup (gup S 81 37 0) 81 38 (gup S 81 37 0 81 39) 81 39 = 0 := (gup_col (by decide)).trans s39
      have s53 : gup (gup S 81 37 0) 81 38 0 81 53 = nI nl := (gup_col (by decide)).trans ((gup_col (by decide)).trans ((s81 53 (by omega)).trans DM.1))
      have z1 : ¬ (0 : Int32) < 0 := by decide
      have o48 : orN T 12 81 48 = nI nl := (congrFun (orN_ne (by omega)) 48).trans (gup_at _ _ _ _)
      rw [e3]
      show J_MO_orders_40 (S, m.2) = _
      unfold J_MO_orders_40
      rw [glet_eq, glet_eq]
      show (if (0 : Int32) < gup (gup S 81 37 0) 81 38 (gup S 81 37 0 81 39) 81 39 then _ else _) = _
      rw [s39b, if_neg z1, glet_eq]
      show L_MO_orders_78 (fun v2 m6 => J_MO_orders_133 v2 m6) 1000 0 (gup (gup (gup S 81 37 0) 81 38 (gup S 81 37 0 81 39)) 81 48 (gup (gup S 81 37 0) 81 38 (gup S 81 37 0 81 39) 81 53), m.2) = _
      rw [s39, s53, mo_copyLines]
      show some (orN T 12 81 48, _) = _
      rw [o48]
    refine ⟨nI nl, (R, m.2), (orN T 12, m.2), ?_, run, ?_⟩
    · unfold f_OT_orders
      rw [e, gbind_eq, glet_eq]
      show (if Q 34 3 = 0 then _ else _) = _
      rw [q34, if_pos rfl]
      show ((f_Orders_copyFrom 41 36 (Q, m.2)).bind _) = _
      rw [e2, gbind_eq]
      show some (R 41 0, _) = _
      rw [r2, qr 36 (by decide), D.1]
    · -- what stands then
      have fr1 : ∀ p, p ≠ 81 → (p < 116 ∨ 122 < p) → orN T 12 p = R p := fun p h1 h2 => by
        rw [orN_ne (by omega), tr p h1, sr p h1, bfm.1 p h1 (by omega)]
      have f81 : ∀ q, q ≠ 37 → q ≠ 38 → q ≠ 48 → q ≠ 53 → (q < 39 ∨ 44 < q) → orN T 12 81 q = m.1 81 q := fun q h1 h2 h3 h4 h5 => by
        rw [orN_ne (by omega), t81 q h1 h2 h3, s81 q h5, bfm.2 q h4, rm 81 (by omega)]
      refine (I.mono (Nat.le_succ n0)).tl (fun q hq => ?_) ⟨f81 0 (by decide) (by decide) (by decide) (by decide) (by decide), f81 1 (by decide) (by decide) (by decide) (by decide) (by decide), f81 2 (by decide) (by decide) (by decide) (by decide) (by decide), f81 8 (by decide) (by decide) (by decide) (by decide) (by decide), f81 10 (by decide) (by decide) (by decide) (by decide) (by decide), f81 15 (by decide) (by decide) (by decide) (by decide) (by decide), f81 60 (by decide) (by decide) (by decide) (by decide) (by decide)⟩ ?_ ?_
      · show orN T 12 q = m.1 q
        rw [fr1 q (by omega) (by omega), rm q (by omega)]
      · show GTape (orN T 12)
        have g34 : orN T 12 34 = Q 34 := (fr1 34 (by decide) (by decide)).trans (r1 34 (by decide))
        have g35 : orN T 12 35 = m.1 35 := by rw [fr1 35 (by decide) (by decide), r1 35 (by decide), qr 35 (by decide), bf.1 35 (by decide)]
        have g112 : ∀ p, 112 ≤ p → p < 116 → orN T 12 p = m.1 p := fun p h1 h2 => by rw [fr1 p (by omega) (by omega), rm p (by omega)]
        have g37 : orN T 12 81 37 = 0 := (congrFun (orN_ne (by omega)) 37).trans ((gup_col (by decide)).trans ((gup_col (by decide)).trans (gup_at _ _ _ _)))
        have g38 : orN T 12 81 38 = 0 := (congrFun (orN_ne (by omega)) 38).trans ((gup_col (by decide)).trans (gup_at _ _ _ _))
        unfold GTape
        rw [g34, g35, g112 112 (by decide) (by decide), g112 113 (by decide) (by decide), g112 114 (by decide) (by decide), g112 115 (by decide) (by decide)]
        exact ⟨⟨0, by decide, q340, g37⟩, t35, ⟨by_, tb, hby⟩, q34.trans g38.symm, t113, t114, t115⟩
      · show GLaw (orN T 12)
        have lr : ∀ p, 40 ≤ p → p ≤ 45 → orN T 12 p = R p := fun p h1 h2 => fr1 p (by omega) (by omega)
        have o48 : orN T 12 81 48 = nI nl := (congrFun (orN_ne (by omega)) 48).trans (gup_at _ _ _ _)
        have oM : ∀ k, k < 12 → orN T 12 116 k = M' 120 k ∧ orN T 12 117 k = M' 121 k ∧ orN T 12 118 k = M' 122 k ∧ orN T 12 119 k = 0 := fun k hk => by
          have g : ∀ p, 120 ≤ p → p ≤ 122 → T p k = M' p k := fun p h1 h2 => by rw [tr p (by omega), sr p (by omega)]
          refine ⟨?_, ?_, ?_, ?_⟩
          · exact (if_pos ⟨hk, rfl⟩).trans (g 120 (by decide) (by decide))
          · exact ((if_neg (by omega)).trans (if_pos ⟨hk, rfl⟩)).trans (g 121 (by decide) (by decide))
          · exact ((if_neg (by omega)).trans ((if_neg (by omega)).trans (if_pos ⟨hk, rfl⟩))).trans (g 122 (by decide) (by decide))
          · exact (if_neg (by omega)).trans ((if_neg (by omega)).trans ((if_neg (by omega)).trans (if_pos ⟨hk, rfl⟩)))
        refine ⟨nl, ru, fr, nu, fun _ => 0, B.1, ?_, o48, fun k hk => ?_, fun k hk => ?_⟩
        · rw [lr 41 (by decide) (by decide), r2, qr 36 (by decide)]; exact D.1
        · have hk12 : k < 12 := by have := B.1; omega
          obtain ⟨y1, y2, y3, y4⟩ := oM k hk12
          obtain ⟨w1, w2, w3, w4⟩ := r3 k hk12
          obtain ⟨d1, d2, d3⟩ := D.2.1 k hk
          obtain ⟨u1, u2, u3⟩ := DM.2 k hk
          obtain ⟨b1, b2, b3, b4⟩ := B.2 k hk
          rw [lr 42 (by decide) (by decide), lr 43 (by decide) (by decide), lr 44 (by decide) (by decide), lr 45 (by decide) (by decide), y1, y2, y3, y4, w1, w2, w3, w4, qr 37 (by decide), qr 38 (by decide), qr 39 (by decide), d1, d2, d3, u1, u2, u3]
          exact ⟨⟨rfl, rfl, b1⟩, ⟨rfl, rfl, b2⟩, ⟨rfl, rfl, b3, b4⟩, rfl, rfl, Nat.zero_le _⟩
        · rw [lr 40 (by decide) (by decide), r1 40 (by decide), qr 40 (by decide)]
          exact D.2.2 k hk
  · -- the text is at fault
    have kk := k_ok c1 c2
    obtain ⟨N1, a', tk', st', vl', e, bf⟩ := i1 m.1 m.2 hC l40
    let Q : gN := gup (tS N1 (nI k) (nI s) a' tk' st' vl') 34 0 0
    have qr : ∀ p, p ≠ 34 → Q p = N1 p := fun p hp => (gup_ne hp).trans (tS_ne hp)
    have q34 : Q 34 3 = nI k := gup_col (by decide)
    have q344 : Q 34 4 = nI s := gup_col (by decide)
    have q340 : Q 34 0 = 0 := gup_at _ _ _ _
    have rm : ∀ p, p < 34 ∨ 40 < p → Q p = m.1 p := fun p hp => by rw [qr p (by omega), bf.1 p (by omega)]
    obtain ⟨hM, hK⟩ := hMo Q (fun p hp => rm p (by omega))
    obtain ⟨M', a2, st2, tk2, vl2, e3, bfm⟩ := i2 Q m.2 hM hK
    let S : gN := rS M' (nI k) (nI s) a2 st2 tk2 vl2
    have sr : ∀ p, p ≠ 81 → S p = M' p := fun p hp => rS_ne hp
    have s81 : ∀ q, q < 39 ∨ 44 < q → S 81 q = M' 81 q := fun q hq => by
      show rS M' (nI k) (nI s) a2 st2 tk2 vl2 81 q = _
      unfold rS
      rw [if_pos rfl, if_neg (by omega), if_neg (by omega), if_neg (by omega), if_neg (by omega), if_neg (by omega), if_neg (by omega)]
    let T : gN := gup (gup S 81 37 0) 81 38 (nI k)
    have tr : ∀ p, p ≠ 81 → T p = S p := fun p hp => (gup_ne hp).trans (gup_ne hp)
    have t81 : ∀ q, q ≠ 37 → q ≠ 38 → T 81 q = S 81 q := fun q h1 h2 => (gup_col h2).trans (gup_col h1)
    have run : f_MO_orders (Q, m.2) = some (-10 - nI s, (T, m.2)) := by
      have s39 : gup S 81 37 0 81 39 = nI k := gup_col (by decide)
      have s39b : T 81 39 = nI k := t81 39 (by decide) (by decide)
      have s40 : T 81 40 = nI s := t81 40 (by decide) (by decide)
      rw [e3]
      show J_MO_orders_40 (S, m.2) = _
      unfold J_MO_orders_40
      rw [glet_eq, glet_eq]
      show (if (0 : Int32) < gup (gup S 81 37 0) 81 38 (gup S 81 37 0 81 39) 81 39 then some (-10 - gup (gup S 81 37 0) 81 38 (gup S 81 37 0 81 39) 81 40, (gup (gup S 81 37 0) 81 38 (gup S 81 37 0 81 39), m.2)) else _) = _
      rw [s39]
      show (if (0 : Int32) < T 81 39 then some (-10 - T 81 40, (T, m.2)) else _) = _
      rw [s39b, if_pos kk.2, s40]
    refine ⟨-10 - nI s, (Q, m.2), (T, m.2), ?_, run, ?_⟩
    · unfold f_OT_orders
      rw [e, gbind_eq, glet_eq]
      show (if Q 34 3 = 0 then _ else some (-10 - Q 34 4, (Q, m.2))) = _
      rw [q34, if_neg kk.1, q344]
    · have fr1 : ∀ p, p ≠ 81 → (p < 120 ∨ 122 < p) → T p = Q p := fun p h1 h2 => by
        rw [tr p h1, sr p h1, bfm.1 p h1 h2]
      have f81 : ∀ q, q ≠ 37 → q ≠ 38 → q ≠ 53 → (q < 39 ∨ 44 < q) → T 81 q = m.1 81 q := fun q h1 h2 h4 h5 => by
        rw [t81 q h1 h2, s81 q h5, bfm.2 q h4, rm 81 (by omega)]
      refine (I.mono (Nat.le_succ n0)).tl (fun q hq => ?_) ⟨f81 0 (by decide) (by decide) (by decide) (by decide), f81 1 (by decide) (by decide) (by decide) (by decide), f81 2 (by decide) (by decide) (by decide) (by decide), f81 8 (by decide) (by decide) (by decide) (by decide), f81 10 (by decide) (by decide) (by decide) (by decide), f81 15 (by decide) (by decide) (by decide) (by decide), f81 60 (by decide) (by decide) (by decide) (by decide)⟩ ?_ ?_
      · show T q = m.1 q
        rw [fr1 q (by omega) (by omega), rm q (by omega)]
      · show GTape T
        have g34 : T 34 = Q 34 := fr1 34 (by decide) (by decide)
        have g35 : T 35 = m.1 35 := by rw [fr1 35 (by decide) (by decide), qr 35 (by decide), bf.1 35 (by decide)]
        have g112 : ∀ p, 112 ≤ p → p < 116 → T p = m.1 p := fun p h1 h2 => by rw [fr1 p (by omega) (by omega), rm p (by omega)]
        have g37 : T 81 37 = 0 := (gup_col (by decide)).trans (gup_at _ _ _ _)
        have g38 : T 81 38 = nI k := gup_at _ _ _ _
        unfold GTape
        rw [g34, g35, g112 112 (by decide) (by decide), g112 113 (by decide) (by decide), g112 114 (by decide) (by decide), g112 115 (by decide) (by decide)]
        exact ⟨⟨0, by decide, q340, g37⟩, t35, ⟨by_, tb, hby⟩, q34.trans g38.symm, t113, t114, t115⟩
      · show GLaw T
        have lr : ∀ p, (41 ≤ p ∧ p ≤ 45) ∨ (116 ≤ p ∧ p ≤ 119) → T p = m.1 p := fun p h1 => by rw [fr1 p (by omega) (by omega), rm p (by omega)]
        refine ⟨lnl, lru, lfr, lnu, lvo, l12, ?_, ?_, fun i hi => ?_, fun i hi => ?_⟩
        · rw [lr 41 (by decide)]; exact l0
        · rw [f81 48 (by decide) (by decide) (by decide) (by decide)]; exact l1
        · rw [lr 42 (by decide), lr 43 (by decide), lr 44 (by decide), lr 45 (by decide), lr 116 (by decide), lr 117 (by decide), lr 118 (by decide), lr 119 (by decide)]
          exact l2 i hi
        · rw [fr1 40 (by decide) (by decide), qr 40 (by decide)]
          exact bf.2 l40 i hi
