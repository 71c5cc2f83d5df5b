/-! ===== oil told: cell ===== -/
theorem gloopS0 {F S R : Type} {body : F → F} {bot : F} (app : F → Nat → S → Option R) (n : Nat) (st : Nat → S) {s0 : S} (o : Option R) (h0 : st 0 = s0)
    (hstep : ∀ g j, j < n → app (body g) j (st j) = app g (j + 1) (st (j + 1))) (hexit : ∀ g, app (body g) n (st n) = o) (fuel : Nat) (hf : n < fuel) : app (gfix body bot fuel) 0 s0 = o := by
  subst h0
  exact gloopS app n st o hstep hexit fuel hf
def plOf (v : Int32) : Nat := if v = -4 then 8 else v.toNatClampNeg
def putO (f : Nat → Int32) (c pl : Nat) (x : Int32) : Nat → Int32 := fun q => if q = 9 * c + pl then x else gst_ f (9 * c) 9 0 q
theorem q8 : (8 : Int32) = nI 8 := rfl
theorem cl_tellOil {c : Nat} {x : Int32} {m : gM} (hc : c < 36) (hl : m.1 10 c = -4 ∨ ∃ l, l < 8 ∧ m.1 10 c = nI l) : f_Ground_tellOil 2 (nI c) x m = some (gup (grw m.1 11 (putO (m.1 11) c (plOf (m.1 10 c)) x)) 9 c x, m.2) := by
  have L : ∀ k, L_Ground_tellOil_2 2 (nI c) k 1000 0 m = k (nI 9) (grw m.1 11 (gst_ (m.1 11) (9 * c) 9 0), m.2) := by
    intro k
    unfold L_Ground_tellOil_2
    refine gloopS0 (fun (f : Int32 → gM → Option gM) j (s : gM) => f (nI j) s) 9 (fun j => (grw m.1 11 (gst_ (m.1 11) (9 * c) j 0), m.2)) _ ?_ ?_ ?_ 1000 (by omega)
    · show (grw m.1 11 (gst_ (m.1 11) (9 * c) 0 0), m.2) = m
      rw [gst_0, grw_id]
    · intro g j hj
      simp (disch := omega) only [gfd_eq, glet_eq, gbind_eq, nI_ltI, nI_1, gok_nI, grd_nI, nI_clamp, if_true, if_false, Nat.lt_irrefl, hj, q9, pk_mul, nI_add, gst_nI, Nat.reduceAdd, i10]
      rw [Nat.mul_comm c 9, gup_fill]
    · intro g
      simp (disch := omega) only [gfd_eq, glet_eq, gbind_eq, nI_ltI, nI_1, gok_nI, grd_nI, nI_clamp, if_true, if_false, Nat.lt_irrefl, q9, i10]
  unfold f_Ground_tellOil
  rw [L]
  unfold J_Ground_tellOil_26 J_Ground_tellOil_48
  have e10 : grw m.1 11 (gst_ (m.1 11) (9 * c) 9 0) 10 c = m.1 10 c := by rw [grw_ne (by decide)]
  rcases hl with h | ⟨l, hl, h⟩
  · rw [h] at e10 ⊢
    simp (disch := omega) only [gfd_eq, glet_eq, gbind_eq, nI_ltI, nI_1, gok_nI, grd_nI, nI_clamp, if_true, if_false, Nat.lt_irrefl, e10, q9, q8, pk_mul, nI_add, gst_nI, Nat.reduceAdd, i10]
    rw [Nat.mul_comm c 9, gup_grw (grw _ _ _), grw_grw, grw_eq]
    rfl
  · rw [h] at e10 ⊢
    have hp : plOf (nI l) = l := by unfold plOf; rw [if_neg (nI_ne4 (by omega)), nI_clamp (by omega)]
    rw [hp]
    simp (disch := omega) only [gfd_eq, glet_eq, gbind_eq, nI_ltI, nI_1, gok_nI, grd_nI, nI_clamp, if_true, if_false, Nat.lt_irrefl, e10, nI_ne4, q9, pk_mul, nI_add, gst_nI, Nat.reduceAdd, i10]
    rw [Nat.mul_comm c 9, gup_grw (grw _ _ _), grw_grw, grw_eq]
    rfl
theorem mo_putOil {c : Nat} {x : Int32} {m : gM} (hc : c < 36) (hl : m.1 85 c = -4 ∨ ∃ l, l < 8 ∧ m.1 85 c = nI l) : f_MO_putOil (nI c) x m = some (grw m.1 86 (putO (m.1 86) c (plOf (m.1 85 c)) x), m.2) := by
  have L : ∀ k, L_MO_putOil_2 (nI c) k 1000 0 m = k (nI 9) (grw m.1 86 (gst_ (m.1 86) (9 * c) 9 0), m.2) := by
    intro k
    unfold L_MO_putOil_2
    refine gloopS0 (fun (f : Int32 → gM → Option gM) j (s : gM) => f (nI j) s) 9 (fun j => (grw m.1 86 (gst_ (m.1 86) (9 * c) j 0), m.2)) _ ?_ ?_ ?_ 1000 (by omega)
    · show (grw m.1 86 (gst_ (m.1 86) (9 * c) 0 0), m.2) = m
      rw [gst_0, grw_id]
    · intro g j hj
      simp (disch := omega) only [gfd_eq, glet_eq, gbind_eq, nI_ltI, nI_1, gok_nI, grd_nI, nI_clamp, if_true, if_false, Nat.lt_irrefl, hj, q9, pk_mul, nI_add, gst_nI, Nat.reduceAdd, i10]
      rw [gup_fill]
    · intro g
      simp (disch := omega) only [gfd_eq, glet_eq, gbind_eq, nI_ltI, nI_1, gok_nI, grd_nI, nI_clamp, if_true, if_false, Nat.lt_irrefl, q9, i10]
  unfold f_MO_putOil
  rw [L]
  unfold J_MO_putOil_26 J_MO_putOil_56
  have e10 : grw m.1 86 (gst_ (m.1 86) (9 * c) 9 0) 85 c = m.1 85 c := by rw [grw_ne (by decide)]
  rcases hl with h | ⟨l, hl, h⟩
  · rw [h] at e10 ⊢
    simp (disch := omega) only [gfd_eq, glet_eq, gbind_eq, nI_ltI, nI_1, gok_nI, grd_nI, nI_clamp, if_true, if_false, Nat.lt_irrefl, e10, q9, q8, pk_mul, nI_add, gst_nI, Nat.reduceAdd, i10]
    rw [gup_grw (grw _ _ _), grw_grw, grw_eq]
    rfl
  · rw [h] at e10 ⊢
    have hp : plOf (nI l) = l := by unfold plOf; rw [if_neg (nI_ne4 (by omega)), nI_clamp (by omega)]
    rw [hp]
    simp (disch := omega) only [gfd_eq, glet_eq, gbind_eq, nI_ltI, nI_1, gok_nI, grd_nI, nI_clamp, if_true, if_false, Nat.lt_irrefl, e10, nI_ne4, q9, pk_mul, nI_add, gst_nI, Nat.reduceAdd, i10]
    rw [gup_grw (grw _ _ _), grw_grw, grw_eq]
    rfl
/-- the same, on numbers -/
def putN (f : Nat → Nat) (c pl v : Nat) : Nat → Nat := fun q => if q = 9 * c + pl then v else if 9 * c ≤ q ∧ q < 9 * c + 9 then 0 else f q
theorem putO_nI (f : Nat → Nat) (c pl v : Nat) : putO (fun i => nI (f i)) c pl (nI v) = fun i => nI (putN f c pl v i) := by
  funext q
  unfold putO putN gst_
  by_cases h1 : q = 9 * c + pl
  · rw [if_pos h1, if_pos h1]
  · rw [if_neg h1, if_neg h1]
    by_cases h2 : 9 * c ≤ q ∧ q < 9 * c + 9
    · rw [if_pos h2, if_pos h2]; rfl
    · rw [if_neg h2, if_neg h2]
theorem plOf_lt {v : Int32} (h : v = -4 ∨ ∃ l, l < 8 ∧ v = nI l) : plOf v < 9 := by
  unfold plOf
  rcases h with h | ⟨l, hl, h⟩
  · rw [if_pos h]; omega
  · rw [h, if_neg (nI_ne4 (by omega)), nI_clamp (by omega)]; omega
theorem osum_put {f : Nat → Nat} {c pl v : Nat} (hp : pl < 9) (d : Nat) : osum (putN f c pl v) d = if d = c then v else osum f d := by
  by_cases h : d = c
  · subst h
    rw [if_pos rfl]
    have e : ∀ t, t < 9 → putN f d pl v (9 * d + t) = if t = pl then v else 0 := by
      intro t ht
      unfold putN
      by_cases h1 : t = pl
      · rw [if_pos (by omega), if_pos h1]
      · rw [if_neg (by omega), if_pos (by omega), if_neg h1]
    have e0 : putN f d pl v (9 * d) = if 0 = pl then v else 0 := e 0 (by omega)
    unfold osum
    rw [e0, e 1 (by omega), e 2 (by omega), e 3 (by omega), e 4 (by omega), e 5 (by omega), e 6 (by omega), e 7 (by omega), e 8 (by omega)]
    match pl, hp with
    | 0, _ => simp
    | 1, _ => simp
    | 2, _ => simp
    | 3, _ => simp
    | 4, _ => simp
    | 5, _ => simp
    | 6, _ => simp
    | 7, _ => simp
    | 8, _ => simp
  · rw [if_neg h]
    have e : ∀ t, t < 9 → putN f c pl v (9 * d + t) = f (9 * d + t) := by
      intro t ht
      unfold putN
      rw [if_neg (by omega), if_neg (by omega)]
    have e0 : putN f c pl v (9 * d) = f (9 * d) := e 0 (by omega)
    unfold osum
    rw [e0, e 1 (by omega), e 2 (by omega), e 3 (by omega), e 4 (by omega), e 5 (by omega), e 6 (by omega), e 7 (by omega), e 8 (by omega)]
theorem gsum_le {f g : Nat → Nat} : ∀ {n : Nat}, (∀ i, i < n → f i ≤ g i) → gsum f n ≤ gsum g n
  | 0, _ => Nat.le_refl 0
  | n + 1, h => Nat.add_le_add (gsum_le fun i hi => h i (by omega)) (h n (by omega))
theorem gsum_upd {f g : Nat → Nat} {c B : Nat} (hB : f c ≤ B) : ∀ {n : Nat}, (∀ i, i < n → i ≠ c → f i ≤ g i) → gsum f n ≤ gsum g n + B
  | 0, _ => Nat.zero_le _
  | n + 1, h => by
    show gsum f n + f n ≤ gsum g n + g n + B
    by_cases e : n = c
    · subst e
      have := gsum_le (f := f) (g := g) (n := n) (fun i hi => h i (by omega) (by omega))
      omega
    · have := gsum_upd hB (f := f) (g := g) (n := n) (fun i hi => h i (by omega))
      have := h n (by omega) e
      omega
theorem gPB.le {n hr : Nat} {gs wt ol gs' wt' ol' : Nat → Nat} (h : ∀ c, c < 36 → gDry gs' wt' ol' c ≤ gDry gs wt ol c) (H : gPB n hr gs wt ol) : gPB n hr gs' wt' ol' :=
  ⟨fun c hc => Nat.le_trans (h c hc) (H.1 c hc), Nat.le_trans (gsum_le fun i hi => Nat.mul_le_mul (h i hi) (h i hi)) H.2⟩
theorem gPB.one {n hr c0 : Nat} {gs wt ol gs' wt' ol' : Nat → Nat} (h : ∀ c, c < 36 → c ≠ c0 → gDry gs' wt' ol' c ≤ gDry gs wt ol c) (h0 : gDry gs' wt' ol' c0 ≤ 1998) (H : gPB n hr gs wt ol) : gPB (n + 1) hr gs' wt' ol' := by
  refine ⟨fun c hc => ?_, ?_⟩
  · by_cases e : c = c0
    · subst e; omega
    · exact Nat.le_trans (h c hc e) (H.1 c hc)
  · have h1 := gsum_upd (f := fun c => gDry gs' wt' ol' c * gDry gs' wt' ol' c) (g := fun c => gDry gs wt ol c * gDry gs wt ol c) (c := c0) (B := 1998 * 1998) (Nat.mul_le_mul h0 h0) (n := 36) (fun i hi hn => Nat.mul_le_mul (h i hi hn) (h i hi hn))
    refine Nat.le_trans h1 (Nat.le_trans (Nat.add_le_add_right H.2 _) ?_)
    omega
theorem FRel.oil {n c v : Nat} {C V : gN} (H : FRel n C V) (hc : c < 36) (hv : v ≤ 999) : FRel n (gup (grw C 10 (putO (C 10) c (plOf (C 9 c)) (nI v))) 8 c (nI v)) (grw V 4 (putO (V 4) c (plOf (V 3 c)) (nI v))) := by
  obtain ⟨w, h9, hr, le, we, sd, gs, wt, ol, wp, wc, ww, wo, ws, a1, a2, a3, a4, ⟨d1, d2, d3, d4, d5⟩, ⟨o1, o2, o3, o4, o5⟩, ⟨a7, a7b⟩, a8, a9, b1, b2, b3, b4, b5, b6, b7⟩ := H
  have hp := plOf_lt (a8 c hc)
  rw [d4, d5]
  refine ⟨w, h9, hr, le, we, sd, gs, wt, putN ol c (plOf (V 3 c)) v, wp, wc, ww, wo, ws, a1, a2, a3, a4, ⟨d1, d2, d3, d4, rfl⟩, ⟨o1, o2, o3, ?_, ?_⟩, ⟨a7, ?_⟩, a8, a9, b1, b2, b3, b4, b5, b6, fun sel i h1 h2 => ?_⟩
  · show putO (V 4) c (plOf (V 3 c)) (nI v) = _
    rw [o4]
    exact putO_nI ol c _ v
  · show gup (grw C 10 _) 8 c (nI v) 8 = _
    rw [gup_eq, grw_ne (by decide), o5]
    funext d
    show (if d = c then nI v else nI (osum ol d)) = nI (osum (putN ol c (plOf (V 3 c)) v) d)
    rw [osum_put hp]
    split <;> rfl
  · refine gPB.le (fun d hd => ?_) a7b
    unfold gDry gPush
    rw [osum_put hp]
    by_cases e : d = c
    · rw [if_pos e]; omega
    · rw [if_neg e]; omega
  · by_cases h4 : sel = 4
    · subst h4
      have h2 : 324 ≤ i := h2
      show putO (V 4) c (plOf (V 3 c)) (nI v) i = 0
      unfold putO gst_
      rw [if_neg (by omega), if_neg (by omega)]
      exact b7 4 i h1 h2
    · rw [grw_ne h4]
      exact b7 sel i h1 h2
