/-! ===== a field copied ===== -/
def gcpL (m : gM) (b a n : Nat) : gM := (fun p q => if p = a ∧ q < n then m.1 b q else m.1 p q, m.2)
theorem gcp_eq (m : gM) (b a : Nat) (x : Int32) (n : Nat) (hx : x.toNatClampNeg = n) : gcp m b a (Int32.toNatClampNeg 0) (Int32.toNatClampNeg 0) (Int32.toNatClampNeg x) = gcpL m b a n := by
  rw [hx, show Int32.toNatClampNeg 0 = 0 from rfl]
  unfold gcp gcpy gcpL grow va_cpy
  refine Prod.ext ?_ rfl
  funext p q
  show (if p = a then (fun k => if 0 ≤ k ∧ k < 0 + n then m.1 b (0 + (k - 0)) else m.1 a k) else m.1 p) q = _
  by_cases h : p = a
  · subst h
    simp
  · simp [h]
theorem gzo_t {R : Type} {x : Int32} {o : Option R} (h : x = 0 ∨ x = 1) : gzo x o = o := if_pos h
theorem wells_open {a p : Nat} (m : gM) (hne : p + 4 ≠ a + 4) (h01 : ∀ k, k < 10 → m.1 (p + 4) k = 0 ∨ m.1 (p + 4) k = 1) : L_Wells_copyFrom_116 a p 1000 0 m = some (gcpL m (p + 4) (a + 4) 10) := by
  unfold L_Wells_copyFrom_116
  have st : ∀ j, (gcpL m (p + 4) (a + 4) j).1 (p + 4) = m.1 (p + 4) := by
    intro j
    funext q
    unfold gcpL
    simp [hne]
  have := gloopS (bot := fun _ _ => none) (body := fun rec_116 v1 m9 =>
    if v1 < 10 then (gok (gib v1 10) (gok (gib v1 10) (gzo (grd m9 (p + 4) v1) (glet (gst m9 (a + 4) v1 (grd m9 (p + 4) v1)) fun (m10 : gM) => rec_116 (v1 + 1) m10)))) else (some m9)) (fun (f : Int32 → gM → Option gM) j s => f (nI j) s) 10 (fun j => gcpL m (p + 4) (a + 4) j) (some (gcpL m (p + 4) (a + 4) 10)) ?_ ?_ 1000 (by omega)
  · rw [show gcpL m (p + 4) (a + 4) 0 = m by unfold gcpL; simp] at this
    exact this
  · intro g j hj
    try dsimp only
    have hb : gib (nI j) 10 = true := gib_nI hj (by omega)
    have hv : grd (gcpL m (p + 4) (a + 4) j) (p + 4) (nI j) = m.1 (p + 4) j := by rw [grd_nI _ _ (by omega), st]
    rw [show (10 : Int32) = nI 10 from rfl, gif_lt hj (by omega), hb, gok_T, gok_T, hv, gzo_t (h01 j hj), glet_eq, nI_1, gst_nI _ _ _ (by omega)]
    congr 1
    unfold gcpL
    refine Prod.ext ?_ rfl
    funext x q
    show gup _ (a + 4) j _ x q = _
    rw [gup_all]
    show (if x = a + 4 ∧ q = j then m.1 (p + 4) j else if x = a + 4 ∧ q < j then m.1 (p + 4) q else m.1 x q) = if x = a + 4 ∧ q < j + 1 then m.1 (p + 4) q else m.1 x q
    by_cases h1 : x = a + 4
    · by_cases h2 : q = j
      · simp [h1, h2]
      · by_cases h3 : q < j
        · simp [h1, h2, h3, show q < j + 1 by omega]
        · simp [h1, h2, h3, show ¬ q < j + 1 by omega]
    · simp [h1]
  · intro g
    try dsimp only
    rw [show (10 : Int32) = nI 10 from rfl, gif_ge (Nat.le_refl 10) (by omega)]
theorem pool_copy (a p : Nat) (m : gM) : f_Pool_copyFrom a p m = some (gcpL (gcpL (gcpL (gcpL (gcpL (gcpL (glet (gsf m a 0 (gfd m p 0)) fun m1 => glet (gsf m1 a 1 (gfd m1 p 1)) fun m2 => gsf m2 a 2 (gfd m2 p 2)) (p + 1) (a + 1) 36) (p + 2) (a + 2) 36) (p + 3) (a + 3) 36) (p + 4) (a + 4) 36) (p + 5) (a + 5) 36) (p + 6) (a + 6) 36) := by
  unfold f_Pool_copyFrom
  simp only [glet_eq, gcp_eq _ _ _ 36 36 rfl]
theorem ground_copy (a p : Nat) (m : gM) : f_Ground_copyFrom a p m = (f_Pool_copyFrom (a + 1) (p + 1) m).bind fun m => some (gcpL (gcpL m (p + 8) (a + 8) 36) (p + 9) (a + 9) 324) := by
  unfold f_Ground_copyFrom
  simp only [glet_eq, gcp_eq _ _ _ 36 36 rfl, gcp_eq _ _ _ 324 324 rfl]
theorem deeds_copy (a p : Nat) (m : gM) : f_Deeds_copyFrom a p m = some (gcpL (gcpL (gcpL (gcpL (gcpL (gsf m a 1 (gfd m p 1)) (p + 1) (a + 1) 8) (p + 2) (a + 2) 12) (p + 3) (a + 3) 12) (p + 4) (a + 4) 12) (p + 5) (a + 5) 12) := by
  unfold f_Deeds_copyFrom
  simp only [glet_eq, gcp_eq _ _ _ 8 8 rfl, gcp_eq _ _ _ 12 12 rfl]
theorem books_copy (a p : Nat) (m : gM) : f_Books_copyFrom a p m = some (gcpL (gcpL (gcpL (gcpL m (p + 1) (a + 1) 6) (p + 2) (a + 2) 6) (p + 3) (a + 3) 6) (p + 4) (a + 4) 50) := by
  unfold f_Books_copyFrom
  simp only [glet_eq, gcp_eq _ _ _ 6 6 rfl, gcp_eq _ _ _ 50 50 rfl]
theorem wells_copy {a p : Nat} (m : gM) (hne : p + 8 < a ∨ a + 8 < p) (h01 : ∀ k, k < 10 → m.1 (p + 4) k = 0 ∨ m.1 (p + 4) k = 1) : f_Wells_copyFrom a p m = some (gcpL (gcpL (gcpL (gcpL (gcpL (gcpL (gcpL (gcpL (gsf m a 0 (gfd m p 0)) (p + 1) (a + 1) 10) (p + 2) (a + 2) 10) (p + 3) (a + 3) 10) (p + 5) (a + 5) 10) (p + 6) (a + 6) 10) (p + 7) (a + 7) 90) (p + 8) (a + 8) 500) (p + 4) (a + 4) 10) := by
  unfold f_Wells_copyFrom
  rw [glet_eq, glet_eq, glet_eq, glet_eq, glet_eq, glet_eq, glet_eq, glet_eq]
  rw [gcp_eq _ _ _ 10 10 rfl, gcp_eq _ _ _ 10 10 rfl, gcp_eq _ _ _ 10 10 rfl, gcp_eq _ _ _ 10 10 rfl, gcp_eq _ _ _ 10 10 rfl, gcp_eq _ _ _ 90 90 rfl, gcp_eq _ _ _ 500 500 rfl]
  refine wells_open _ (by omega) (fun k hk => ?_)
  have e : ∀ (x : gM) (b c n : Nat), p + 4 ≠ c → (gcpL x b c n).1 (p + 4) k = x.1 (p + 4) k := by
    intro x b c n hc
    unfold gcpL
    simp [hc]
  rw [e _ _ _ _ (by omega), e _ _ _ _ (by omega), e _ _ _ _ (by omega), e _ _ _ _ (by omega), e _ _ _ _ (by omega), e _ _ _ _ (by omega), e _ _ _ _ (by omega)]
  show gup m.1 a 0 _ (p + 4) k = 0 ∨ gup m.1 a 0 _ (p + 4) k = 1
  rw [gup_row (by omega)]
  exact h01 k hk
