/-! ===== the draws of an hour ===== -/
theorem gup_id (N : gN) (a i : Nat) : gup N a i (N a i) = N := by
  funext p q
  rw [gup_all]
  by_cases h : p = a ∧ q = i
  · rw [if_pos h, h.1, h.2]
  · rw [if_neg h]
/-- what a well has noted after j lots -/
def ndN (T : gN) (k i : Nat) (t : Nat → Nat) (j : Nat) : gN := fun p q => if p = 23 ∧ q = k then T 23 k + nI (gsum t j) else if p = 25 ∧ 9 * k ≤ q ∧ q < 9 * k + j then T 25 q + nI (t (q - 9 * k)) else if p = 26 ∧ q = i then T 26 i + nI (gsum t j) else T p q
theorem ndN_0 (T : gN) (k i : Nat) (t : Nat → Nat) : ndN T k i t 0 = T := by
  funext p q
  show (if p = 23 ∧ q = k then T 23 k + nI 0 else if p = 25 ∧ 9 * k ≤ q ∧ q < 9 * k + 0 then T 25 q + nI (t (q - 9 * k)) else if p = 26 ∧ q = i then T 26 i + nI 0 else T p q) = T p q
  have z : nI 0 = 0 := rfl
  rw [z, Int32.add_zero, Int32.add_zero]
  by_cases h1 : p = 23 ∧ q = k
  · rw [if_pos h1, h1.1, h1.2]
  · rw [if_neg h1, if_neg (by omega)]
    by_cases h2 : p = 26 ∧ q = i
    · rw [if_pos h2, h2.1, h2.2]
    · rw [if_neg h2]
theorem ndN_s (T : gN) (k i : Nat) (t : Nat → Nat) (j : Nat) : gup (gup (gup (ndN T k i t j) 23 k (ndN T k i t j 23 k + nI (t j))) 25 (9 * k + j) (T 25 (9 * k + j) + nI (t j))) 26 i (ndN T k i t j 26 i + nI (t j)) = ndN T k i t (j + 1) := by
  have e23 : ndN T k i t j 23 k + nI (t j) = T 23 k + nI (gsum t (j + 1)) := by
    show (if 23 = 23 ∧ k = k then T 23 k + nI (gsum t j) else _) + nI (t j) = _
    rw [if_pos ⟨rfl, rfl⟩, Int32.add_assoc, nI_add]
    rfl
  have e26 : ndN T k i t j 26 i + nI (t j) = T 26 i + nI (gsum t (j + 1)) := by
    have : ndN T k i t j 26 i = T 26 i + nI (gsum t j) := by
      unfold ndN
      rw [if_neg (by omega), if_neg (by omega), if_pos ⟨rfl, rfl⟩]
    rw [this, Int32.add_assoc, nI_add]
    rfl
  rw [e23, e26]
  funext p q
  rw [gup_all, gup_all, gup_all]
  unfold ndN
  by_cases h1 : p = 26 ∧ q = i
  · rw [if_pos h1, if_neg (by omega), if_neg (by omega), if_pos h1]
  · rw [if_neg h1]
    by_cases h2 : p = 25 ∧ q = 9 * k + j
    · rw [if_pos h2, if_neg (by omega), if_pos (by omega), h2.2, show 9 * k + j - 9 * k = j by omega]
    · rw [if_neg h2]
      by_cases h3 : p = 23 ∧ q = k
      · rw [if_pos h3, if_pos h3]
      · rw [if_neg h3, if_neg h3, if_neg h3]
        by_cases h4 : p = 25 ∧ 9 * k ≤ q ∧ q < 9 * k + j
        · rw [if_pos h4, if_pos (by omega)]
        · rw [if_neg h4, if_neg h1, if_neg (by omega), if_neg h1]
theorem cl_note {k sh x : Nat} {t : Nat → Nat} {m : gM} (hk : k < 10) (hs : sh < 50) (h47 : ∀ l, l < 9 → m.1 47 l = nI (t l)) : f_Wells_noteDraw 18 (nI k) (nI sh) 47 (nI x) m = some (gup (ndN m.1 k (50 * k + sh) t 9) 24 k (m.1 24 k + nI x), m.2) := by
  have L : ∀ K, L_Wells_noteDraw_3 18 (nI k) (nI sh) 47 K 1000 0 m = K (nI 9) (ndN m.1 k (50 * k + sh) t 9, m.2) := by
    intro K
    unfold L_Wells_noteDraw_3
    refine gloopS0 (fun (g : Int32 → gM → Option gM) j (s : gM) => g (nI j) s) 9 (fun j => (ndN m.1 k (50 * k + sh) t j, m.2)) _ ?_ ?_ ?_ 1000 (by omega)
    · show (ndN m.1 k (50 * k + sh) t 0, m.2) = m
      rw [ndN_0]
    · intro g j hj
      have e47 : ndN m.1 k (50 * k + sh) t j 47 j = nI (t j) := by
        unfold ndN
        rw [if_neg (by omega), if_neg (by omega), if_neg (by omega)]
        exact h47 j hj
      have e25 : ndN m.1 k (50 * k + sh) t j 25 (9 * k + j) = m.1 25 (9 * k + j) := by
        unfold ndN
        rw [if_neg (by omega), if_neg (by omega), if_neg (by omega)]
      have s := ndN_s m.1 k (50 * k + sh) t j
      simp (disch := omega) only [gfd_eq, glet_eq, gbind_eq, nI_ltI, nI_1, gok_nI, grd_nI, nI_clamp, if_true, if_false, Nat.lt_irrefl, hj, q9, pk_mul, nI_add, Nat.mul_comm k 9, show (50 : Int32) = nI 50 from rfl, Nat.mul_comm k 50, e47, gst_nI, gup_row, e25, s, Nat.reduceAdd, i10, gokT]
    · intro g
      simp (disch := omega) only [gfd_eq, glet_eq, gbind_eq, nI_ltI, nI_1, gok_nI, grd_nI, nI_clamp, if_true, if_false, Nat.lt_irrefl, q9, i10, gokT]
  have e24 : ndN m.1 k (50 * k + sh) t 9 24 k = m.1 24 k := by
    unfold ndN
    rw [if_neg (by omega), if_neg (by omega), if_neg (by omega)]
  unfold f_Wells_noteDraw J_Wells_noteDraw_66
  simp (disch := omega) only [gfd_eq, glet_eq, gbind_eq, nI_ltI, nI_1, gok_nI, grd_nI, nI_clamp, if_true, if_false, Nat.lt_irrefl, L, e24, gst_nI, Nat.reduceAdd, i10, gokT]
/-- how much a well draws, how much of it is oil -/
def dwD (v os wt : Nat) : Nat := min v (os + wt)
def dwO (v os wt : Nat) : Nat := dwD v os wt * os / (os + wt)
theorem dw_le (v os wt : Nat) : dwO v os wt ≤ os ∧ dwO v os wt ≤ dwD v os wt ∧ dwD v os wt - dwO v os wt ≤ wt ∧ dwD v os wt ≤ v ∧ dwD v os wt ≤ os + wt := by
  have h0 : dwD v os wt ≤ os + wt := Nat.min_le_right _ _
  have hv : dwD v os wt ≤ v := Nat.min_le_left _ _
  rcases Nat.eq_zero_or_pos (os + wt) with e | e
  · have : dwO v os wt = 0 := by unfold dwO; rw [e, Nat.div_zero]
    omega
  · have h1 : dwO v os wt ≤ os := by
      unfold dwO
      refine Nat.div_le_of_le_mul ?_
      exact Nat.mul_le_mul_right _ h0
    have h2 : dwO v os wt ≤ dwD v os wt := by
      unfold dwO
      refine Nat.div_le_of_le_mul ?_
      rw [Nat.mul_comm]
      exact Nat.mul_le_mul_right _ (Nat.le_add_right _ _)
    refine ⟨h1, h2, ?_, hv, h0⟩
    have h3 : dwD v os wt * (os + wt) < (os + wt) * (dwO v os wt + 1 + wt) := by
      have h4 : dwD v os wt * os < (os + wt) * (dwO v os wt + 1) := by
        unfold dwO
        exact Nat.lt_mul_div_succ _ e
      have h5 : dwD v os wt * wt ≤ (os + wt) * wt := Nat.mul_le_mul_right _ h0
      rw [Nat.mul_add, Nat.mul_add (os + wt)]
      omega
    rw [Nat.mul_comm] at h3
    have := Nat.lt_of_mul_lt_mul_left h3
    omega
/-- a well has drawn: the town's rows -/
def drC (N : gN) (f : Nat → Nat) (k c p i d o os wt : Nat) : gN := gup (gup (ndN (gup (gup (grw (grw N 47 (tkR (N 47) f c o 9)) 11 (fun q => nI (tkO f c o q))) 9 c (nI (os - o))) 8 c (nI (wt - (d - o)))) k i (tk f c o) 9) 24 k (N 24 k + nI (d - o))) 28 p (N 28 p + nI o)
theorem cl_drawBy {f : Nat → Nat} {k c p v wt hr : Nat} {m : gM} (hk : k < 10) (hc : c < 36) (hp : p < 6) (hv : v ≤ 60) (h20 : m.1 20 k = nI c) (h21 : m.1 21 k = nI v) (h19 : m.1 19 k = nI p) (h11 : m.1 11 = fun i => nI (f i)) (h9 : m.1 9 c = nI (osum f c)) (h8 : m.1 8 c = nI wt) (hb : osum f c + wt < 2 ^ 31) (h4 : m.1 1 4 = nI hr) (hhr : hr ≤ 199) :
    f_Town_drawBy 1 (nI k) 47 m = some (nI (dwO v (osum f c) wt), (drC m.1 f k c p (50 * k + hr / 4) (dwD v (osum f c) wt) (dwO v (osum f c) wt) (osum f c) wt, m.2)) := by
  obtain ⟨w1, w2, w3, w4, w5⟩ := dw_le v (osum f c) wt
  have l1 : ∀ M : gM, M.1 9 c = nI (osum f c) → M.1 8 c = nI wt → f_Pool_liquid 3 (nI c) M = some (nI (osum f c + wt), M) := by
    intro M e9 e8
    unfold f_Pool_liquid
    simp (disch := omega) only [gfd_eq, glet_eq, gbind_eq, nI_ltI, nI_1, gok_nI, grd_nI, nI_clamp, if_true, if_false, Nat.lt_irrefl, e9, e8, nI_add, Nat.reduceAdd, i10, gokT]
  have l2 : f_Pool_barrelsUnder 3 (nI c) (nI v) m = some (nI (dwD v (osum f c) wt), m) := by
    unfold f_Pool_barrelsUnder
    simp (disch := omega) only [gfd_eq, glet_eq, gbind_eq, nI_ltI, nI_1, gok_nI, grd_nI, nI_clamp, if_true, if_false, Nat.lt_irrefl, l1 m h9 h8, i10, gokT]
    rw [gmin_nI (by omega) (by omega)]
    rfl
  have l3 : f_Pool_oilAmong 3 (nI c) (nI (dwD v (osum f c) wt)) m = some (nI (dwO v (osum f c) wt), m) := by
    unfold f_Pool_oilAmong
    by_cases h0 : 0 < osum f c + wt
    · have ep : Int64.toInt32 ((nI (dwD v (osum f c) wt)).toInt64 * (nI (osum f c)).toInt64 / (nI (osum f c + wt)).toInt64) = nI (dwO v (osum f c) wt) := long_div (by omega) (by omega) hb h0
      simp (disch := omega) only [gfd_eq, glet_eq, gbind_eq, nI_ltI, nI_1, gok_nI, grd_nI, nI_clamp, if_true, if_false, Nat.lt_irrefl, l1 m h9 h8, lt0_nI, h0, gnzL_ok, h9, ep, Nat.reduceAdd, i10, gokT]
    · have ep : dwO v (osum f c) wt = 0 := by unfold dwO; rw [show osum f c + wt = 0 by omega, Nat.div_zero]
      simp (disch := omega) only [gfd_eq, glet_eq, gbind_eq, nI_ltI, nI_1, gok_nI, grd_nI, nI_clamp, if_true, if_false, Nat.lt_irrefl, l1 m h9 h8, lt0_nI, h0, ep, i10, gokT]
      rfl
  have t := cl_take (m := m) (p3 := 47) hc h11 h9 w1 (by omega) (by decide)
  generalize hd : dwD v (osum f c) wt = d at *
  generalize ho : dwO v (osum f c) wt = o at *
  let N1 : gN := gup (grw (grw m.1 47 (tkR (m.1 47) f c o 9)) 11 (fun q => nI (tkO f c o q))) 9 c (nI (osum f c - o))
  have e8 : N1 8 c = nI wt := by
    show gup (grw (grw m.1 47 _) 11 _) 9 c _ 8 c = _
    rw [gup_row (by decide), grw_ne (by decide), grw_ne (by decide)]; exact h8
  have e1 : gup N1 8 c (nI (wt - (d - o))) 1 4 = nI hr := by
    show gup (gup (grw (grw m.1 47 _) 11 _) 9 c _) 8 c _ 1 4 = _
    rw [gup_row (by decide), gup_row (by decide), grw_ne (by decide), grw_ne (by decide)]; exact h4
  have e47 : ∀ l, l < 9 → gup N1 8 c (nI (wt - (d - o))) 47 l = nI (tk f c o l) := by
    intro l hl
    show gup (gup (grw (grw m.1 47 _) 11 _) 9 c _) 8 c _ 47 l = _
    rw [gup_row (by decide), gup_row (by decide), grw_ne (by decide), grw_eq]
    unfold tkR
    rw [if_pos hl]
  have s := cl_shift (a := 1) (m := (gup N1 8 c (nI (wt - (d - o))), m.2)) e1 (by omega)
  have nt := cl_note (k := k) (sh := hr / 4) (x := d - o) (t := tk f c o) (m := (gup N1 8 c (nI (wt - (d - o))), m.2)) hk (by omega) e47
  have e24 : gup N1 8 c (nI (wt - (d - o))) 24 k = m.1 24 k := by
    show gup (gup (grw (grw m.1 47 _) 11 _) 9 c _) 8 c _ 24 k = _
    rw [gup_row (by decide), gup_row (by decide), grw_ne (by decide), grw_ne (by decide)]
  have nt : f_Wells_noteDraw 18 (nI k) (nI (hr / 4)) 47 (nI (d - o)) (gup N1 8 c (nI (wt - (d - o))), m.2) = some (gup (ndN (gup N1 8 c (nI (wt - (d - o)))) k (50 * k + hr / 4) (tk f c o) 9) 24 k (m.1 24 k + nI (d - o)), m.2) := by
    rw [nt]
    show some (gup (ndN (gup N1 8 c (nI (wt - (d - o)))) k (50 * k + hr / 4) (tk f c o) 9) 24 k (gup N1 8 c (nI (wt - (d - o))) 24 k + nI (d - o)), m.2) = _
    rw [e24]
  have er : ∀ a q, a ≠ 23 → a ≠ 24 → a ≠ 25 → a ≠ 26 → a ≠ 8 → a ≠ 9 → a ≠ 11 → a ≠ 47 → gup (ndN (gup N1 8 c (nI (wt - (d - o)))) k (50 * k + hr / 4) (tk f c o) 9) 24 k (m.1 24 k + nI (d - o)) a q = m.1 a q := by
    intro a q z1 z2 z3 z4 z5 z6 z7 z8
    rw [gup_row z2]
    unfold ndN
    rw [if_neg (fun z => z1 z.1), if_neg (fun z => z3 z.1), if_neg (fun z => z4 z.1)]
    show gup (gup (grw (grw m.1 47 _) 11 _) 9 c _) 8 c _ a q = _
    rw [gup_row z5, gup_row z6, grw_ne z7, grw_ne z8]
  have e19 := er 19 k (by decide) (by decide) (by decide) (by decide) (by decide) (by decide) (by decide) (by decide)
  have e28 := er 28 p (by decide) (by decide) (by decide) (by decide) (by decide) (by decide) (by decide) (by decide)
  rw [h19] at e19
  have t : f_Ground_take 2 (nI c) (nI o) 47 m = some (N1, m.2) := t
  unfold f_Town_drawBy
  simp (disch := omega) only [gfd_eq, glet_eq, gbind_eq, nI_ltI, nI_1, gok_nI, grd_nI, nI_clamp, if_true, if_false, Nat.lt_irrefl, h20, h21, l2, l3, t, e8, pk_sub, gst_nI, s, nt, e19, e28, Nat.reduceAdd, i10, gokT]
  rfl
