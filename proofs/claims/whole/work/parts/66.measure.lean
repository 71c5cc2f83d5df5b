/-! ===== flows measured by the town ===== -/
def nbI (d : Nat) : Int32 := if d = 100 then -4 else nI d
/-- a pool at p: wide, high, sand, gas, water, oil -/
def PoolAt (N : gN) (p w h : Nat) (sd gs wt os : Nat → Nat) : Prop := (N p 0 = nI w ∧ N p 1 = nI h ∧ N p 2 = nI (w * h)) ∧ (∀ c, c < w * h → N (p + 1) c = nI (c % w) ∧ N (p + 2) c = nI (c / w)) ∧ ∀ c, c < w * h → N (p + 3) c = nI (sd c) ∧ N (p + 4) c = nI (gs c) ∧ N (p + 5) c = nI (wt c) ∧ N (p + 6) c = nI (os c)
theorem PoolAt.frame {N N' : gN} {p w h : Nat} {sd gs wt os : Nat → Nat} (H : PoolAt N p w h sd gs wt os) (e : ∀ j, j < 7 → N' (p + j) = N (p + j)) : PoolAt N' p w h sd gs wt os := by
  unfold PoolAt at H ⊢
  have e0 : N' p = N p := e 0 (by omega)
  rw [e0, e 1 (by omega), e 2 (by omega), e 3 (by omega), e 4 (by omega), e 5 (by omega), e 6 (by omega)]
  exact H
/-- what the numbers of a pool keep to -/
def PoolOk (w h : Nat) (sd gs wt os : Nat → Nat) : Prop := (1 ≤ w ∧ w ≤ 6 ∧ 1 ≤ h ∧ h ≤ 6) ∧ (∀ c, sd c ≤ 9) ∧ ∀ c, c < w * h → os c + wt c + gs c ≤ 96774
theorem PoolOk.n36 {w h : Nat} {sd gs wt os : Nat → Nat} (H : PoolOk w h sd gs wt os) : w * h ≤ 36 := Nat.mul_le_mul H.1.2.1 H.1.2.2.2
section MS
variable {w h p : Nat} {sd gs wt os : Nat → Nat} {m : gM}
theorem cl_liquid {c : Nat} (A : PoolAt m.1 p w h sd gs wt os) (hc : c < w * h) (h36 : w * h ≤ 36) : f_Pool_liquid p (nI c) m = some (nI (os c + wt c), m) := by
  obtain ⟨-, -, r⟩ := A
  obtain ⟨r3, r4, r5, r6⟩ := r c hc
  unfold f_Pool_liquid
  simp (disch := omega) only [gfd_eq, glet_eq, gbind_eq, nI_ltI, nI_1, gok_nI, grd_nI, nI_clamp, if_true, if_false, Nat.lt_irrefl, r5, r6, nI_add, i10, gokT]
theorem cl_push {c : Nat} (A : PoolAt m.1 p w h sd gs wt os) (hc : c < w * h) (h36 : w * h ≤ 36) : f_Pool_push p (nI c) m = some (nI (os c + wt c + gs c), m) := by
  obtain ⟨-, -, r⟩ := A
  obtain ⟨r3, r4, r5, r6⟩ := r c hc
  unfold f_Pool_push
  simp (disch := omega) only [gfd_eq, glet_eq, gbind_eq, nI_ltI, nI_1, gok_nI, grd_nI, nI_clamp, if_true, if_false, Nat.lt_irrefl, r4, r5, r6, nI_add, i10, gokT]
theorem cl_beside {c s : Nat} (A : PoolAt m.1 p w h sd gs wt os) (hc : c < w * h) (hw : 1 ≤ w ∧ w ≤ 6) (hh : 1 ≤ h ∧ h ≤ 6) (hs : s < 4) : f_Pool_beside p (nI c) (nI s) m = some (nbI (nbr w h c s), m) := by
  obtain ⟨⟨x0, x1, x2⟩, cr, -⟩ := A
  obtain ⟨r1, r2⟩ := cr c hc
  have h36 : w * h ≤ 6 * 6 := Nat.mul_le_mul hw.2 hh.2
  have hm := Nat.mod_lt c (show 0 < w by omega)
  have hdm := Nat.div_add_mod c w
  have hd : c / w ≤ c := Nat.div_le_self c w
  have w1 : nI w - 1 = nI (w - 1) := pk_sub (b := 1) hw.1
  have h1 : nI h - 1 = nI (h - 1) := pk_sub (b := 1) hh.1
  have e0 : (0 < nI (c % w)) ↔ 0 < c % w := lt0_nI (by omega)
  have e2 : (0 < nI (c / w)) ↔ 0 < c / w := lt0_nI (by omega)
  have e1 : (nI (c % w) < nI (w - 1)) ↔ c % w + 1 < w := by rw [nI_ltI (by omega) (by omega)]; omega
  have e3 : (nI (c / w) < nI (h - 1)) ↔ c / w + 1 < h := by rw [nI_ltI (by omega) (by omega)]; omega
  unfold f_Pool_beside nbr nbI
  rcases (show s = 0 ∨ s = 1 ∨ s = 2 ∨ s = 3 by omega) with e | e | e | e
  · subst e
    show gok (gib (nI c) 36) _ = _
    simp (disch := omega) only [gfd_eq, glet_eq, gbind_eq, nI_ltI, nI_1, gok_nI, grd_nI, nI_clamp, if_true, if_false, Nat.lt_irrefl, r1, e0, i10, gokT]
    by_cases z : 0 < c % w
    · have z1 : ¬ c - 1 = 100 := by omega
      have z2 : nI c - 1 = nI (c - 1) := pk_sub (b := 1) (by have := Nat.mod_le c w; omega)
      simp only [z, z1, z2, if_true, if_false]
    · simp only [z, if_true, if_false]
  · subst e
    show gok (gib (nI c) 36) _ = _
    simp (disch := omega) only [gfd_eq, glet_eq, gbind_eq, nI_ltI, nI_1, gok_nI, grd_nI, nI_clamp, if_true, if_false, Nat.lt_irrefl, r1, x0, w1, e1, show ¬ (1 = 0) by decide, i10, gokT]
    by_cases z : c % w + 1 < w
    · have z1 : ¬ c + 1 = 100 := by omega
      simp only [z, z1, if_true, if_false]
    · simp only [z, if_true, if_false]
  · subst e
    show gok (gib (nI c) 36) _ = _
    simp (disch := omega) only [gfd_eq, glet_eq, gbind_eq, nI_ltI, nI_1, gok_nI, grd_nI, nI_clamp, if_true, if_false, Nat.lt_irrefl, r2, x0, e2, show ¬ (2 = 0) by decide, show ¬ (2 = 1) by decide, i10, gokT]
    by_cases z : 0 < c / w
    · have z1 : ¬ c - w = 100 := by omega
      have z3 : w ≤ c := by
        rcases Nat.lt_or_ge c w with q | q
        · rw [Nat.div_eq_of_lt q] at z; omega
        · exact q
      have z2 : nI c - nI w = nI (c - w) := pk_sub z3
      simp only [z, z1, z2, if_true, if_false]
    · simp only [z, if_true, if_false]
  · subst e
    show gok (gib (nI c) 36) _ = _
    simp (disch := omega) only [gfd_eq, glet_eq, gbind_eq, nI_ltI, nI_1, gok_nI, grd_nI, nI_clamp, if_true, if_false, Nat.lt_irrefl, r2, x0, x1, h1, e3, nI_add, show ¬ (3 = 0) by decide, show ¬ (3 = 1) by decide, show ¬ (3 = 2) by decide, i10, gokT]
    by_cases z : c / w + 1 < h
    · have z1 : ¬ c + w = 100 := by omega
      simp only [z, z1, if_true, if_false]
    · simp only [z, if_true, if_false]
theorem cl_want {c s : Nat} (A : PoolAt m.1 p w h sd gs wt os) (O : PoolOk w h sd gs wt os) (hc : c < w * h) : f_Currents_wantOf p (nI c) (nbI (nbr w h c s)) m = some (lN (wnt w h sd (fun c => os c + wt c + gs c) c s), m) := by
  have h36 := O.n36
  unfold f_Currents_wantOf wnt
  rcases nbr_lt O.1.1 hc s with e | e
  · rw [e]
    show (if (-4 : Int32) = -4 then _ else _) = _
    rw [if_pos rfl, if_pos rfl]
    rfl
  · have ne : ¬ nbr w h c s = 100 := by omega
    generalize nbr w h c s = d at e ne ⊢
    have n4 : ¬ nbI d = -4 := by unfold nbI; rw [if_neg ne]; exact nI_ne4 (by omega)
    have ei : nbI d = nI d := by unfold nbI; rw [if_neg ne]
    rw [if_neg n4, if_neg ne, ei]
    show _ = some (lN ((os c + wt c + gs c - (os d + wt d + gs d)) * min (sd c) (sd d) / 40), m)
    have p1 := cl_push A hc h36
    have p2 := cl_push A e h36
    have b1 := O.2.2 c hc
    have b2 := O.2.2 d e
    have s1 := (A.2.2 c hc).1
    have s2 := (A.2.2 d e).1
    have t1 := O.2.1 c
    have t2 := O.2.1 d
    generalize os c + wt c + gs c = x at *
    generalize os d + wt d + gs d = y at *
    by_cases z : y < x
    · have e1 : nI x - nI y = nI (x - y) := pk_sub (by omega)
      have e2 : (nI (x - y)).toInt64 = lN (x - y) := nI_l (by omega)
      have e3 : 0 < lg_cmp (lN (x - y)) (Int32.toInt64 0) := (lg_cmp_gt _ _).mpr ((lN_lt (a := 0) (by decide) (by omega)).mpr (by omega))
      have e4 : (nI (min (sd c) (sd d))).toInt64 = lN (min (sd c) (sd d)) := nI_l (by omega)
      have e5 : lN (x - y) * lN (min (sd c) (sd d)) / (Int32.toInt64 40) = lN ((x - y) * min (sd c) (sd d) / 40) := by
        have h9 : (x - y) * min (sd c) (sd d) ≤ 96774 * 9 := Nat.mul_le_mul (by omega) (by omega)
        rw [lN_mul]
        exact pk_lDiv (b := 40) (by omega) (by decide) (by decide)
      have e6 : ∀ o : Option (Int64 × gM), gnzL (Int32.toInt64 40) o = o := fun o => gnzL_ok (d := 40) (by decide) (by decide)
      simp (disch := omega) only [gfd_eq, glet_eq, gbind_eq, nI_ltI, nI_1, gok_nI, grd_nI, nI_clamp, if_true, if_false, Nat.lt_irrefl, p1, p2, e1, e2, e3, s1, s2, gmin_nI, e4, e5, e6, i10, gokT]
    · have e0 : x - y = 0 := by omega
      have e3 : ¬ 0 < lg_cmp (Int32.toInt64 (nI x - nI y)) (Int32.toInt64 0) := by
        intro q
        have q := (gl_lt _ _).mp ((lg_cmp_gt _ _).mp q)
        rw [Int32.lt_iff_toInt_lt, pk_sub_toInt (by omega) (by omega)] at q
        have : (0 : Int32).toInt = 0 := by decide
        rw [this] at q
        omega
      simp (disch := omega) only [gfd_eq, glet_eq, gbind_eq, nI_ltI, nI_1, gok_nI, grd_nI, nI_clamp, if_true, if_false, Nat.lt_irrefl, p1, p2, e3, i10, gokT]
      rw [e0, Nat.zero_mul, Nat.zero_div]
      rfl
end MS
/-- the list of flows, while it grows -/
def msN (N : gN) (a : Nat) (b : Nat → Bool) (vf vt vo vw : Nat → Int32) (t : Nat) : gN := fun p => if p = a + 3 then aR b vf (N (a + 3)) t else if p = a + 4 then aR b vt (N (a + 4)) t else if p = a + 5 then aR b vo (N (a + 5)) t else if p = a + 6 then aR b vw (N (a + 6)) t else if p = a then (fun q => if q = 2 then nI (cnt b t) else N a q) else N p
theorem msN_ne {N : gN} {a : Nat} {b : Nat → Bool} {vf vt vo vw : Nat → Int32} {t p : Nat} (h : p < a ∨ p = a + 1 ∨ p = a + 2 ∨ a + 7 ≤ p) : msN N a b vf vt vo vw t p = N p := by
  unfold msN
  rw [if_neg (by omega), if_neg (by omega), if_neg (by omega), if_neg (by omega), if_neg (by omega)]
theorem msN_rows (N : gN) (a : Nat) (b : Nat → Bool) (vf vt vo vw : Nat → Int32) (t : Nat) : msN N a b vf vt vo vw t (a + 3) = aR b vf (N (a + 3)) t ∧ msN N a b vf vt vo vw t (a + 4) = aR b vt (N (a + 4)) t ∧ msN N a b vf vt vo vw t (a + 5) = aR b vo (N (a + 5)) t ∧ msN N a b vf vt vo vw t (a + 6) = aR b vw (N (a + 6)) t ∧ msN N a b vf vt vo vw t a 2 = nI (cnt b t) := by
  unfold msN
  refine ⟨if_pos rfl, ?_, ?_, ?_, ?_⟩
  · rw [if_neg (by omega), if_pos rfl]
  · rw [if_neg (by omega), if_neg (by omega), if_pos rfl]
  · rw [if_neg (by omega), if_neg (by omega), if_neg (by omega), if_pos rfl]
  · rw [if_neg (by omega), if_neg (by omega), if_neg (by omega), if_neg (by omega), if_pos rfl]
    rfl
theorem msN_no {N : gN} {a : Nat} {b : Nat → Bool} {vf vt vo vw : Nat → Int32} {t : Nat} (h : b t = false) : msN N a b vf vt vo vw (t + 1) = msN N a b vf vt vo vw t := by
  have e : ∀ v f, aR b v f (t + 1) = aR b v f t := fun v f => if_neg (by rw [h]; decide)
  have c : cnt b (t + 1) = cnt b t := if_neg (by rw [h]; decide)
  unfold msN
  rw [e, e, e, e, c]
theorem msN_yes {N : gN} {a : Nat} {b : Nat → Bool} {vf vt vo vw : Nat → Int32} {t : Nat} (h : b t = true) : gup (gup (gup (gup (gup (msN N a b vf vt vo vw t) (a + 3) (cnt b t) (vf t)) (a + 4) (cnt b t) (vt t)) (a + 5) (cnt b t) (vo t)) (a + 6) (cnt b t) (vw t)) a 2 (nI (cnt b t + 1)) = msN N a b vf vt vo vw (t + 1) := by
  have e : ∀ v f, aR b v f (t + 1) = fun q => if q = cnt b t then v t else aR b v f t q := fun v f => if_pos h
  have c : cnt b (t + 1) = cnt b t + 1 := if_pos h
  have R := msN_rows N a b vf vt vo vw t
  have R' := msN_rows N a b vf vt vo vw (t + 1)
  funext p
  by_cases p3 : p = a + 3
  · subst p3
    rw [gup_ne (by omega), gup_ne (by omega), gup_ne (by omega), gup_ne (by omega), gup_eq, R.1, R'.1, e]
  · by_cases p4 : p = a + 4
    · subst p4
      rw [gup_ne (by omega), gup_ne (by omega), gup_ne (by omega), gup_eq, gup_ne (by omega), R.2.1, R'.2.1, e]
    · by_cases p5 : p = a + 5
      · subst p5
        rw [gup_ne (by omega), gup_ne (by omega), gup_eq, gup_ne (by omega), gup_ne (by omega), R.2.2.1, R'.2.2.1, e]
      · by_cases p6 : p = a + 6
        · subst p6
          rw [gup_ne (by omega), gup_eq, gup_ne (by omega), gup_ne (by omega), gup_ne (by omega), R.2.2.2.1, R'.2.2.2.1, e]
        · by_cases p0 : p = a
          · subst p0
            rw [gup_eq, gup_ne (by omega), gup_ne (by omega), gup_ne (by omega), gup_ne (by omega)]
            unfold msN
            rw [if_neg (by omega), if_neg (by omega), if_neg (by omega), if_neg (by omega), if_pos rfl, if_neg (by omega), if_neg (by omega), if_neg (by omega), if_neg (by omega), if_pos rfl, c]
            funext q
            show (if q = 2 then nI (cnt b t + 1) else if q = 2 then nI (cnt b t) else N p q) = if q = 2 then nI (cnt b t + 1) else N p q
            by_cases z : q = 2
            · rw [if_pos z, if_pos z]
            · rw [if_neg z, if_neg z, if_neg z]
          · rw [gup_ne p0, gup_ne p6, gup_ne p5, gup_ne p4, gup_ne p3]
            unfold msN
            rw [if_neg p3, if_neg p4, if_neg p5, if_neg p6, if_neg p0, if_neg p3, if_neg p4, if_neg p5, if_neg p6, if_neg p0]
theorem gupL_at (N : Nat → Nat → Int64) (a i : Nat) (x : Int64) : gupL N a i x a i = x := by
  unfold gupL
  rw [if_pos rfl, if_pos rfl]
section MC
variable {w h p a : Nat} {sd gs wt os : Nat → Nat}
/-- what the four wants of a cell look like in the row of longs -/
def lwR (L : Nat → Nat → Int64) (a : Nat) (v : Nat → Nat) (j : Nat) : Nat → Nat → Int64 := fun p q => if p = a ∧ q < j then lN (v q) else L p q
theorem lwR_s (L : Nat → Nat → Int64) (a : Nat) (v : Nat → Nat) (j : Nat) : gupL (lwR L a v j) a j (lN (v j)) = lwR L a v (j + 1) := by
  funext p q
  unfold gupL lwR
  by_cases h1 : p = a
  · subst h1
    rw [if_pos rfl]
    by_cases h2 : q = j
    · rw [if_pos h2, if_pos ⟨rfl, by omega⟩, h2]
    · rw [if_neg h2]
      by_cases h3 : q < j
      · rw [if_pos ⟨rfl, h3⟩, if_pos ⟨rfl, by omega⟩]
      · rw [if_neg (fun z => h3 z.2), if_neg (by omega)]
  · rw [if_neg h1, if_neg (fun z => h1 z.1), if_neg (fun z => h1 z.1)]
theorem lwR_at (L : Nat → Nat → Int64) (a : Nat) (v : Nat → Nat) {j q : Nat} (h : q < j) : lwR L a v j a q = lN (v q) := if_pos ⟨rfl, h⟩
/-- the flows' numbers, as the town writes them -/
def vfF (t : Nat) : Int32 := nI (t / 4)
def vtF (w h t : Nat) : Int32 := nbI (nbr w h (t / 4) (t % 4))
def voF (w h : Nat) (sd ps os ws : Nat → Nat) (t : Nat) : Int32 := nI (flo w h sd ps os ws (t / 4) (t % 4))
def vwF (w h : Nat) (sd ps os ws : Nat → Nat) (t : Nat) : Int32 := nI (flw w h sd ps os ws (t / 4) (t % 4))
/-- memory after t flows were looked at -/
def msA (N : gN) (a w h : Nat) (sd gs wt os : Nat → Nat) (t : Nat) : gN := msN N a (acb w h sd (fun c => os c + wt c + gs c) os wt) vfF (vtF w h) (voF w h sd (fun c => os c + wt c + gs c) os wt) (vwF w h sd (fun c => os c + wt c + gs c) os wt) t
theorem msA_pool {N : gN} {t : Nat} (A : PoolAt N p w h sd gs wt os) (hd : p + 7 ≤ a) : PoolAt (msA N a w h sd gs wt os t) p w h sd gs wt os := A.frame (fun j hj => msN_ne (by omega))
theorem L57_s (a p1 : Nat) (x2 : Int32) (w1 w2 : Int64) (F : Nat) (v2 : Int32) (m2 : gM) : L_Currents_measureCell_57 a p1 x2 w1 w2 (F + 1) v2 m2 = (if v2 < 4 then (gok (gib v2 4) (if 0 < (lg_cmp (grdL m2 (a + 2) v2) (Int32.toInt64 0)) then (if 0 < (lg_cmp w1 w2) then (if 0 < (lg_cmp w1 (Int32.toInt64 0)) then (gok (gib v2 4) (gnzL w1 (J_Currents_measureCell_110 a p1 x2 (L_Currents_measureCell_57 a p1 x2 w1 w2 F) v2 (((grdL m2 (a + 2) v2) * w2) / w1) m2))) else (J_Currents_measureCell_103 a p1 x2 (L_Currents_measureCell_57 a p1 x2 w1 w2 F) v2 m2)) else (J_Currents_measureCell_103 a p1 x2 (L_Currents_measureCell_57 a p1 x2 w1 w2 F) v2 m2)) else (J_Currents_measureCell_127 (L_Currents_measureCell_57 a p1 x2 w1 w2 F) v2 m2))) else (some m2)) := rfl
theorem grdL_nI (m : gM) (a : Nat) {j : Nat} (h : j < 2 ^ 31) : grdL m a (nI j) = m.2 a j := by unfold grdL; rw [nI_clamp h]
theorem cl_add {N : gN} {L : Nat → Nat → Int64} {c s : Nat} (A : PoolAt N p w h sd gs wt os) (O : PoolOk w h sd gs wt os) (hd : p + 7 ≤ a) (hc : c < w * h) (hs : s < 4) (hb : acb w h sd (fun c => os c + wt c + gs c) os wt (4 * c + s) = true) :
    f_Currents_add a p (nI c) (nbI (nbr w h c s)) (lN (gos w h sd (fun c => os c + wt c + gs c) os wt c s)) (msA N a w h sd gs wt os (4 * c + s), L) = some (msA N a w h sd gs wt os (4 * c + s + 1), L) := by
  have h36 := O.n36
  have A' := msA_pool (a := a) (t := 4 * c + s) A hd
  have lq := cl_liquid (m := (msA N a w h sd gs wt os (4 * c + s), L)) A' hc h36
  have hb' := hb
  unfold acb at hb'
  rw [show (4 * c + s) / 4 = c by omega, show (4 * c + s) % 4 = s by omega, Bool.and_eq_true, decide_eq_true_eq, decide_eq_true_eq] at hb'
  have b1 := O.2.2 c hc
  have hcn := cnt_le (acb w h sd (fun c => os c + wt c + gs c) os wt) (4 * c + s)
  have R := msN_rows N a (acb w h sd (fun c => os c + wt c + gs c) os wt) vfF (vtF w h) (voF w h sd (fun c => os c + wt c + gs c) os wt) (vwF w h sd (fun c => os c + wt c + gs c) os wt) (4 * c + s)
  have Y := msN_yes (N := N) (a := a) (vf := vfF) (vt := vtF w h) (vo := voF w h sd (fun c => os c + wt c + gs c) os wt) (vw := vwF w h sd (fun c => os c + wt c + gs c) os wt) hb
  have gb : gos w h sd (fun c => os c + wt c + gs c) os wt c s ≤ os c + wt c := by
    have h1 := gos_sum w h sd (fun c => os c + wt c + gs c) os wt c
    have h2 := gsum_one (gos w h sd (fun c => os c + wt c + gs c) os wt c) hs
    omega
  have ro := (A'.2.2 c hc).2.2.2
  have rw_ := (A'.2.2 c hc).2.2.1
  have e0 : 0 < lg_cmp (nI (os c + wt c)).toInt64 (Int32.toInt64 0) := by
    rw [nI_l (by omega)]
    exact (lg_cmp_gt _ _).mpr ((lN_lt (a := 0) (by decide) (by omega)).mpr (by omega))
  have dv : ∀ x, x ≤ 96774 → Int64.toInt32 (lN (gos w h sd (fun c => os c + wt c + gs c) os wt c s) * (nI x).toInt64 / (nI (os c + wt c)).toInt64) = nI (gos w h sd (fun c => os c + wt c + gs c) os wt c s * x / (os c + wt c)) := by
    intro x hx
    have := long_div (a := gos w h sd (fun c => os c + wt c + gs c) os wt c s) (b := x) (d := os c + wt c) (by omega) (by omega) (by omega) (by omega)
    rw [nI_l (n := gos w h sd (fun c => os c + wt c + gs c) os wt c s) (by omega)] at this
    exact this
  have do_ := dv (os c) (by omega)
  have dw_ := dv (wt c) (by omega)
  have Y : gup (gup (gup (gup (gup (msA N a w h sd gs wt os (4 * c + s)) (a + 3) (cnt (acb w h sd (fun c => os c + wt c + gs c) os wt) (4 * c + s)) (nI c)) (a + 4) (cnt (acb w h sd (fun c => os c + wt c + gs c) os wt) (4 * c + s)) (nbI (nbr w h c s))) (a + 5) (cnt (acb w h sd (fun c => os c + wt c + gs c) os wt) (4 * c + s)) (nI (gos w h sd (fun c => os c + wt c + gs c) os wt c s * os c / (os c + wt c)))) (a + 6) (cnt (acb w h sd (fun c => os c + wt c + gs c) os wt) (4 * c + s)) (nI (gos w h sd (fun c => os c + wt c + gs c) os wt c s * wt c / (os c + wt c)))) a 2 (nI (cnt (acb w h sd (fun c => os c + wt c + gs c) os wt) (4 * c + s) + 1)) = msA N a w h sd gs wt os (4 * c + s + 1) := by
    have e1 : vfF (4 * c + s) = nI c := by unfold vfF; rw [show (4 * c + s) / 4 = c by omega]
    have e2 : vtF w h (4 * c + s) = nbI (nbr w h c s) := by unfold vtF; rw [show (4 * c + s) / 4 = c by omega, show (4 * c + s) % 4 = s by omega]
    have e3 : voF w h sd (fun c => os c + wt c + gs c) os wt (4 * c + s) = nI (gos w h sd (fun c => os c + wt c + gs c) os wt c s * os c / (os c + wt c)) := by unfold voF flo; rw [show (4 * c + s) / 4 = c by omega, show (4 * c + s) % 4 = s by omega]
    have e4 : vwF w h sd (fun c => os c + wt c + gs c) os wt (4 * c + s) = nI (gos w h sd (fun c => os c + wt c + gs c) os wt c s * wt c / (os c + wt c)) := by unfold vwF flw; rw [show (4 * c + s) / 4 = c by omega, show (4 * c + s) % 4 = s by omega]
    rw [e1, e2, e3, e4] at Y
    exact Y
  have sz : msA N a w h sd gs wt os (4 * c + s) a 2 = nI (cnt (acb w h sd (fun c => os c + wt c + gs c) os wt) (4 * c + s)) := R.2.2.2.2
  generalize cnt (acb w h sd (fun c => os c + wt c + gs c) os wt) (4 * c + s) = k at *
  generalize msA N a w h sd gs wt os (4 * c + s) = S at *
  generalize msA N a w h sd gs wt os (4 * c + s + 1) = S1 at *
  generalize gos w h sd (fun c => os c + wt c + gs c) os wt c s = g at *
  have z1 : gup S (a + 3) k (nI c) a 2 = nI k := (gup_row (by omega)).trans sz
  have z2 : gup (gup S (a + 3) k (nI c)) (a + 4) k (nbI (nbr w h c s)) a 2 = nI k := (gup_row (by omega)).trans z1
  have z3 : ∀ x, gup (gup (gup S (a + 3) k (nI c)) (a + 4) k (nbI (nbr w h c s))) (a + 5) k x a 2 = nI k := fun x => (gup_row (by omega)).trans z2
  have z4 : ∀ x y, gup (gup (gup (gup S (a + 3) k (nI c)) (a + 4) k (nbI (nbr w h c s))) (a + 5) k x) (a + 6) k y a 2 = nI k := fun x y => (gup_row (by omega)).trans (z3 x)
  have y1 : gup (gup S (a + 3) k (nI c)) (a + 4) k (nbI (nbr w h c s)) (p + 6) c = nI (os c) := (gup_row (by omega)).trans ((gup_row (by omega)).trans ro)
  have y2 : ∀ x, gup (gup (gup S (a + 3) k (nI c)) (a + 4) k (nbI (nbr w h c s))) (a + 5) k x (p + 5) c = nI (wt c) := fun x => (gup_row (by omega)).trans ((gup_row (by omega)).trans ((gup_row (by omega)).trans rw_))
  have k144 : k < 144 := by omega
  unfold f_Currents_add
  simp (disch := omega) only [gfd_eq, glet_eq, gbind_eq, nI_ltI, nI_1, gok_nI, grd_nI, nI_clamp, if_true, if_false, Nat.lt_irrefl, lq, e0, sz, show (144 : Int32) = nI 144 from rfl, k144, gst_nI, z1, z2, gnzL_ok, y1, do_, z3, y2, dw_, z4, gsf_eq, Y, i10, gokT]
end MC
