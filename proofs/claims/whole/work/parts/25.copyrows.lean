/-! ===== a field copied: its rows (by program) ===== -/
def gTcp (m : gM) (a p : Nat) : gM :=
  glet (gcpL (gcpL (gcpL (gcpL (gcpL (gcpL (glet (gsf m (a + 2) 0 (gfd m (p + 2) 0)) fun m1 => glet (gsf m1 (a + 2) 1 (gfd m1 (p + 2) 1)) fun m2 => gsf m2 (a + 2) 2 (gfd m2 (p + 2) 2)) (p + 3) (a + 3) 36) (p + 4) (a + 4) 36) (p + 5) (a + 5) 36) (p + 6) (a + 6) 36) (p + 7) (a + 7) 36) (p + 8) (a + 8) 36) fun m =>
  glet (gcpL (gcpL m (p + 9) (a + 9) 36) (p + 10) (a + 10) 324) fun m =>
  glet (gcpL (gcpL (gcpL (gcpL (gcpL (gsf m (a + 11) 1 (gfd m (p + 11) 1)) (p + 12) (a + 12) 8) (p + 13) (a + 13) 12) (p + 14) (a + 14) 12) (p + 15) (a + 15) 12) (p + 16) (a + 16) 12) fun m =>
  glet (gcpL (gcpL (gcpL (gcpL (gcpL (gcpL (gcpL (gcpL (gsf m (a + 17) 0 (gfd m (p + 17) 0)) (p + 18) (a + 18) 10) (p + 19) (a + 19) 10) (p + 20) (a + 20) 10) (p + 22) (a + 22) 10) (p + 23) (a + 23) 10) (p + 24) (a + 24) 90) (p + 25) (a + 25) 500) (p + 21) (a + 21) 10) fun m =>
  glet (gcpL (gcpL (gcpL (gcpL m (p + 27) (a + 27) 6) (p + 28) (a + 28) 6) (p + 29) (a + 29) 6) (p + 30) (a + 30) 50) fun m => gsf m a 4 (gfd m p 4)
theorem gcpL_at {m : gM} {b a n x q : Nat} (h : x ≠ a) : (gcpL m b a n).1 x q = m.1 x q := by
  unfold gcpL
  simp [h]
theorem gcpL_on (m : gM) (b a n q : Nat) : (gcpL m b a n).1 a q = if q < n then m.1 b q else m.1 a q := by
  unfold gcpL
  simp
theorem gsf_at {m : gM} {a k x q : Nat} {v : Int32} (h : x ≠ a) : (gsf m a k v).1 x q = m.1 x q := gup_row h
theorem gsf_on (m : gM) (a k q : Nat) (v : Int32) : (gsf m a k v).1 a q = if q = k then v else m.1 a q := by
  show gup m.1 a k v a q = _
  rw [gup_all]
  simp
theorem town_copy {a p : Nat} (m : gM) (hne : p + 31 ≤ a ∨ a + 31 ≤ p) (h01 : ∀ k, k < 10 → m.1 (p + 21) k = 0 ∨ m.1 (p + 21) k = 1) : f_Town_copyFrom a p m = some (gTcp m a p) := by
  unfold f_Town_copyFrom
  rw [ground_copy, pool_copy, gbind_eq, gbind_eq, deeds_copy, gbind_eq, wells_copy, gbind_eq, books_copy, gbind_eq, glet_eq]
  · unfold gTcp
    simp only [glet_eq, Nat.add_assoc, Nat.reduceAdd]
  · omega
  · intro k hk
    rw [gcpL_at (by omega), gcpL_at (by omega), gcpL_at (by omega), gcpL_at (by omega), gcpL_at (by omega), gsf_at (by omega), gcpL_at (by omega), gcpL_at (by omega), gcpL_at (by omega), gcpL_at (by omega), gcpL_at (by omega), gcpL_at (by omega), gcpL_at (by omega), gcpL_at (by omega)]
    simp only [glet_eq]
    rw [gsf_at (by omega), gsf_at (by omega), gsf_at (by omega)]
    exact h01 k hk
theorem gTcp_far (m : gM) (a p x q : Nat) (hx : x < a ∨ a + 31 ≤ x) : (gTcp m a p).1 x q = m.1 x q := by
  unfold gTcp
  simp only [glet_eq]
  rw [gsf_at (by omega), gcpL_at (by omega), gcpL_at (by omega), gcpL_at (by omega), gcpL_at (by omega), gcpL_at (by omega), gcpL_at (by omega), gcpL_at (by omega), gcpL_at (by omega), gcpL_at (by omega), gcpL_at (by omega), gcpL_at (by omega), gcpL_at (by omega), gsf_at (by omega), gcpL_at (by omega), gcpL_at (by omega), gcpL_at (by omega), gcpL_at (by omega), gcpL_at (by omega), gsf_at (by omega), gcpL_at (by omega), gcpL_at (by omega), gcpL_at (by omega), gcpL_at (by omega), gcpL_at (by omega), gcpL_at (by omega), gcpL_at (by omega), gcpL_at (by omega), gsf_at (by omega), gsf_at (by omega), gsf_at (by omega)]
theorem gTcp_2 (m : gM) (a p : Nat) : (gTcp m a p).2 = m.2 := by
  unfold gTcp gcpL gsf
  simp only [glet_eq]
theorem gTcp_r0 (m : gM) (a p q : Nat) (hne : p + 31 ≤ a ∨ a + 31 ≤ p) : (gTcp m a p).1 a q = if q = 4 then m.1 p 4 else m.1 a q := by
  unfold gTcp
  simp only [glet_eq]
  rw [gsf_on]
  by_cases h : q = 4
  · rw [if_pos h, if_pos h, gfd_eq, gcpL_at (by omega), gcpL_at (by omega), gcpL_at (by omega), gcpL_at (by omega), gcpL_at (by omega), gcpL_at (by omega), gcpL_at (by omega), gcpL_at (by omega), gcpL_at (by omega), gcpL_at (by omega), gcpL_at (by omega), gcpL_at (by omega), gsf_at (by omega), gcpL_at (by omega), gcpL_at (by omega), gcpL_at (by omega), gcpL_at (by omega), gcpL_at (by omega), gsf_at (by omega), gcpL_at (by omega), gcpL_at (by omega), gcpL_at (by omega), gcpL_at (by omega), gcpL_at (by omega), gcpL_at (by omega), gcpL_at (by omega), gcpL_at (by omega), gsf_at (by omega), gsf_at (by omega), gsf_at (by omega)]
  · rw [if_neg h, if_neg h, gcpL_at (by omega), gcpL_at (by omega), gcpL_at (by omega), gcpL_at (by omega), gcpL_at (by omega), gcpL_at (by omega), gcpL_at (by omega), gcpL_at (by omega), gcpL_at (by omega), gcpL_at (by omega), gcpL_at (by omega), gcpL_at (by omega), gsf_at (by omega), gcpL_at (by omega), gcpL_at (by omega), gcpL_at (by omega), gcpL_at (by omega), gcpL_at (by omega), gsf_at (by omega), gcpL_at (by omega), gcpL_at (by omega), gcpL_at (by omega), gcpL_at (by omega), gcpL_at (by omega), gcpL_at (by omega), gcpL_at (by omega), gcpL_at (by omega), gsf_at (by omega), gsf_at (by omega), gsf_at (by omega)]
theorem gTcp_r1 (m : gM) (a p q : Nat) : (gTcp m a p).1 (a + 1) q = m.1 (a + 1) q := by
  unfold gTcp
  simp only [glet_eq]
  rw [gsf_at (by omega), gcpL_at (by omega), gcpL_at (by omega), gcpL_at (by omega), gcpL_at (by omega), gcpL_at (by omega), gcpL_at (by omega), gcpL_at (by omega), gcpL_at (by omega), gcpL_at (by omega), gcpL_at (by omega), gcpL_at (by omega), gcpL_at (by omega), gsf_at (by omega), gcpL_at (by omega), gcpL_at (by omega), gcpL_at (by omega), gcpL_at (by omega), gcpL_at (by omega), gsf_at (by omega), gcpL_at (by omega), gcpL_at (by omega), gcpL_at (by omega), gcpL_at (by omega), gcpL_at (by omega), gcpL_at (by omega), gcpL_at (by omega), gcpL_at (by omega), gsf_at (by omega), gsf_at (by omega), gsf_at (by omega)]
theorem gTcp_r3 (m : gM) (a p q : Nat) (hne : p + 31 ≤ a ∨ a + 31 ≤ p) : (gTcp m a p).1 (a + 3) q = if q < 36 then m.1 (p + 3) q else m.1 (a + 3) q := by
  unfold gTcp
  simp only [glet_eq]
  rw [gsf_at (by omega), gcpL_at (by omega), gcpL_at (by omega), gcpL_at (by omega), gcpL_at (by omega), gcpL_at (by omega), gcpL_at (by omega), gcpL_at (by omega), gcpL_at (by omega), gcpL_at (by omega), gcpL_at (by omega), gcpL_at (by omega), gcpL_at (by omega), gsf_at (by omega), gcpL_at (by omega), gcpL_at (by omega), gcpL_at (by omega), gcpL_at (by omega), gcpL_at (by omega), gsf_at (by omega), gcpL_at (by omega), gcpL_at (by omega), gcpL_at (by omega), gcpL_at (by omega), gcpL_at (by omega), gcpL_at (by omega), gcpL_at (by omega), gcpL_on]
  by_cases h : q < 36
  · rw [if_pos h, if_pos h, gsf_at (by omega), gsf_at (by omega), gsf_at (by omega)]
  · rw [if_neg h, if_neg h, gsf_at (by omega), gsf_at (by omega), gsf_at (by omega)]
theorem gTcp_r4 (m : gM) (a p q : Nat) (hne : p + 31 ≤ a ∨ a + 31 ≤ p) : (gTcp m a p).1 (a + 4) q = if q < 36 then m.1 (p + 4) q else m.1 (a + 4) q := by
  unfold gTcp
  simp only [glet_eq]
  rw [gsf_at (by omega), gcpL_at (by omega), gcpL_at (by omega), gcpL_at (by omega), gcpL_at (by omega), gcpL_at (by omega), gcpL_at (by omega), gcpL_at (by omega), gcpL_at (by omega), gcpL_at (by omega), gcpL_at (by omega), gcpL_at (by omega), gcpL_at (by omega), gsf_at (by omega), gcpL_at (by omega), gcpL_at (by omega), gcpL_at (by omega), gcpL_at (by omega), gcpL_at (by omega), gsf_at (by omega), gcpL_at (by omega), gcpL_at (by omega), gcpL_at (by omega), gcpL_at (by omega), gcpL_at (by omega), gcpL_at (by omega), gcpL_on]
  by_cases h : q < 36
  · rw [if_pos h, if_pos h, gcpL_at (by omega), gsf_at (by omega), gsf_at (by omega), gsf_at (by omega)]
  · rw [if_neg h, if_neg h, gcpL_at (by omega), gsf_at (by omega), gsf_at (by omega), gsf_at (by omega)]
theorem gTcp_r5 (m : gM) (a p q : Nat) (hne : p + 31 ≤ a ∨ a + 31 ≤ p) : (gTcp m a p).1 (a + 5) q = if q < 36 then m.1 (p + 5) q else m.1 (a + 5) q := by
  unfold gTcp
  simp only [glet_eq]
  rw [gsf_at (by omega), gcpL_at (by omega), gcpL_at (by omega), gcpL_at (by omega), gcpL_at (by omega), gcpL_at (by omega), gcpL_at (by omega), gcpL_at (by omega), gcpL_at (by omega), gcpL_at (by omega), gcpL_at (by omega), gcpL_at (by omega), gcpL_at (by omega), gsf_at (by omega), gcpL_at (by omega), gcpL_at (by omega), gcpL_at (by omega), gcpL_at (by omega), gcpL_at (by omega), gsf_at (by omega), gcpL_at (by omega), gcpL_at (by omega), gcpL_at (by omega), gcpL_at (by omega), gcpL_at (by omega), gcpL_on]
  by_cases h : q < 36
  · rw [if_pos h, if_pos h, gcpL_at (by omega), gcpL_at (by omega), gsf_at (by omega), gsf_at (by omega), gsf_at (by omega)]
  · rw [if_neg h, if_neg h, gcpL_at (by omega), gcpL_at (by omega), gsf_at (by omega), gsf_at (by omega), gsf_at (by omega)]
theorem gTcp_r6 (m : gM) (a p q : Nat) (hne : p + 31 ≤ a ∨ a + 31 ≤ p) : (gTcp m a p).1 (a + 6) q = if q < 36 then m.1 (p + 6) q else m.1 (a + 6) q := by
  unfold gTcp
  simp only [glet_eq]
  rw [gsf_at (by omega), gcpL_at (by omega), gcpL_at (by omega), gcpL_at (by omega), gcpL_at (by omega), gcpL_at (by omega), gcpL_at (by omega), gcpL_at (by omega), gcpL_at (by omega), gcpL_at (by omega), gcpL_at (by omega), gcpL_at (by omega), gcpL_at (by omega), gsf_at (by omega), gcpL_at (by omega), gcpL_at (by omega), gcpL_at (by omega), gcpL_at (by omega), gcpL_at (by omega), gsf_at (by omega), gcpL_at (by omega), gcpL_at (by omega), gcpL_at (by omega), gcpL_at (by omega), gcpL_on]
  by_cases h : q < 36
  · rw [if_pos h, if_pos h, gcpL_at (by omega), gcpL_at (by omega), gcpL_at (by omega), gsf_at (by omega), gsf_at (by omega), gsf_at (by omega)]
  · rw [if_neg h, if_neg h, gcpL_at (by omega), gcpL_at (by omega), gcpL_at (by omega), gsf_at (by omega), gsf_at (by omega), gsf_at (by omega)]
theorem gTcp_r7 (m : gM) (a p q : Nat) (hne : p + 31 ≤ a ∨ a + 31 ≤ p) : (gTcp m a p).1 (a + 7) q = if q < 36 then m.1 (p + 7) q else m.1 (a + 7) q := by
  unfold gTcp
  simp only [glet_eq]
  rw [gsf_at (by omega), gcpL_at (by omega), gcpL_at (by omega), gcpL_at (by omega), gcpL_at (by omega), gcpL_at (by omega), gcpL_at (by omega), gcpL_at (by omega), gcpL_at (by omega), gcpL_at (by omega), gcpL_at (by omega), gcpL_at (by omega), gcpL_at (by omega), gsf_at (by omega), gcpL_at (by omega), gcpL_at (by omega), gcpL_at (by omega), gcpL_at (by omega), gcpL_at (by omega), gsf_at (by omega), gcpL_at (by omega), gcpL_at (by omega), gcpL_at (by omega), gcpL_on]
  by_cases h : q < 36
  · rw [if_pos h, if_pos h, gcpL_at (by omega), gcpL_at (by omega), gcpL_at (by omega), gcpL_at (by omega), gsf_at (by omega), gsf_at (by omega), gsf_at (by omega)]
  · rw [if_neg h, if_neg h, gcpL_at (by omega), gcpL_at (by omega), gcpL_at (by omega), gcpL_at (by omega), gsf_at (by omega), gsf_at (by omega), gsf_at (by omega)]
theorem gTcp_r8 (m : gM) (a p q : Nat) (hne : p + 31 ≤ a ∨ a + 31 ≤ p) : (gTcp m a p).1 (a + 8) q = if q < 36 then m.1 (p + 8) q else m.1 (a + 8) q := by
  unfold gTcp
  simp only [glet_eq]
  rw [gsf_at (by omega), gcpL_at (by omega), gcpL_at (by omega), gcpL_at (by omega), gcpL_at (by omega), gcpL_at (by omega), gcpL_at (by omega), gcpL_at (by omega), gcpL_at (by omega), gcpL_at (by omega), gcpL_at (by omega), gcpL_at (by omega), gcpL_at (by omega), gsf_at (by omega), gcpL_at (by omega), gcpL_at (by omega), gcpL_at (by omega), gcpL_at (by omega), gcpL_at (by omega), gsf_at (by omega), gcpL_at (by omega), gcpL_at (by omega), gcpL_on]
  by_cases h : q < 36
  · rw [if_pos h, if_pos h, gcpL_at (by omega), gcpL_at (by omega), gcpL_at (by omega), gcpL_at (by omega), gcpL_at (by omega), gsf_at (by omega), gsf_at (by omega), gsf_at (by omega)]
  · rw [if_neg h, if_neg h, gcpL_at (by omega), gcpL_at (by omega), gcpL_at (by omega), gcpL_at (by omega), gcpL_at (by omega), gsf_at (by omega), gsf_at (by omega), gsf_at (by omega)]
theorem gTcp_r9 (m : gM) (a p q : Nat) (hne : p + 31 ≤ a ∨ a + 31 ≤ p) : (gTcp m a p).1 (a + 9) q = if q < 36 then m.1 (p + 9) q else m.1 (a + 9) q := by
  unfold gTcp
  simp only [glet_eq]
  rw [gsf_at (by omega), gcpL_at (by omega), gcpL_at (by omega), gcpL_at (by omega), gcpL_at (by omega), gcpL_at (by omega), gcpL_at (by omega), gcpL_at (by omega), gcpL_at (by omega), gcpL_at (by omega), gcpL_at (by omega), gcpL_at (by omega), gcpL_at (by omega), gsf_at (by omega), gcpL_at (by omega), gcpL_at (by omega), gcpL_at (by omega), gcpL_at (by omega), gcpL_at (by omega), gsf_at (by omega), gcpL_at (by omega), gcpL_on]
  by_cases h : q < 36
  · rw [if_pos h, if_pos h, gcpL_at (by omega), gcpL_at (by omega), gcpL_at (by omega), gcpL_at (by omega), gcpL_at (by omega), gcpL_at (by omega), gsf_at (by omega), gsf_at (by omega), gsf_at (by omega)]
  · rw [if_neg h, if_neg h, gcpL_at (by omega), gcpL_at (by omega), gcpL_at (by omega), gcpL_at (by omega), gcpL_at (by omega), gcpL_at (by omega), gsf_at (by omega), gsf_at (by omega), gsf_at (by omega)]
theorem gTcp_r10 (m : gM) (a p q : Nat) (hne : p + 31 ≤ a ∨ a + 31 ≤ p) : (gTcp m a p).1 (a + 10) q = if q < 324 then m.1 (p + 10) q else m.1 (a + 10) q := by
  unfold gTcp
  simp only [glet_eq]
  rw [gsf_at (by omega), gcpL_at (by omega), gcpL_at (by omega), gcpL_at (by omega), gcpL_at (by omega), gcpL_at (by omega), gcpL_at (by omega), gcpL_at (by omega), gcpL_at (by omega), gcpL_at (by omega), gcpL_at (by omega), gcpL_at (by omega), gcpL_at (by omega), gsf_at (by omega), gcpL_at (by omega), gcpL_at (by omega), gcpL_at (by omega), gcpL_at (by omega), gcpL_at (by omega), gsf_at (by omega), gcpL_on]
  by_cases h : q < 324
  · rw [if_pos h, if_pos h, gcpL_at (by omega), gcpL_at (by omega), gcpL_at (by omega), gcpL_at (by omega), gcpL_at (by omega), gcpL_at (by omega), gcpL_at (by omega), gsf_at (by omega), gsf_at (by omega), gsf_at (by omega)]
  · rw [if_neg h, if_neg h, gcpL_at (by omega), gcpL_at (by omega), gcpL_at (by omega), gcpL_at (by omega), gcpL_at (by omega), gcpL_at (by omega), gcpL_at (by omega), gsf_at (by omega), gsf_at (by omega), gsf_at (by omega)]
theorem gTcp_r11 (m : gM) (a p q : Nat) (hne : p + 31 ≤ a ∨ a + 31 ≤ p) : (gTcp m a p).1 (a + 11) q = if q = 1 then m.1 (p + 11) 1 else m.1 (a + 11) q := by
  unfold gTcp
  simp only [glet_eq]
  rw [gsf_at (by omega), gcpL_at (by omega), gcpL_at (by omega), gcpL_at (by omega), gcpL_at (by omega), gcpL_at (by omega), gcpL_at (by omega), gcpL_at (by omega), gcpL_at (by omega), gcpL_at (by omega), gcpL_at (by omega), gcpL_at (by omega), gcpL_at (by omega), gsf_at (by omega), gcpL_at (by omega), gcpL_at (by omega), gcpL_at (by omega), gcpL_at (by omega), gcpL_at (by omega), gsf_on]
  by_cases h : q = 1
  · rw [if_pos h, if_pos h, gfd_eq, gcpL_at (by omega), gcpL_at (by omega), gcpL_at (by omega), gcpL_at (by omega), gcpL_at (by omega), gcpL_at (by omega), gcpL_at (by omega), gcpL_at (by omega), gsf_at (by omega), gsf_at (by omega), gsf_at (by omega)]
  · rw [if_neg h, if_neg h, gcpL_at (by omega), gcpL_at (by omega), gcpL_at (by omega), gcpL_at (by omega), gcpL_at (by omega), gcpL_at (by omega), gcpL_at (by omega), gcpL_at (by omega), gsf_at (by omega), gsf_at (by omega), gsf_at (by omega)]
theorem gTcp_r12 (m : gM) (a p q : Nat) (hne : p + 31 ≤ a ∨ a + 31 ≤ p) : (gTcp m a p).1 (a + 12) q = if q < 8 then m.1 (p + 12) q else m.1 (a + 12) q := by
  unfold gTcp
  simp only [glet_eq]
  rw [gsf_at (by omega), gcpL_at (by omega), gcpL_at (by omega), gcpL_at (by omega), gcpL_at (by omega), gcpL_at (by omega), gcpL_at (by omega), gcpL_at (by omega), gcpL_at (by omega), gcpL_at (by omega), gcpL_at (by omega), gcpL_at (by omega), gcpL_at (by omega), gsf_at (by omega), gcpL_at (by omega), gcpL_at (by omega), gcpL_at (by omega), gcpL_at (by omega), gcpL_on]
  by_cases h : q < 8
  · rw [if_pos h, if_pos h, gsf_at (by omega), gcpL_at (by omega), gcpL_at (by omega), gcpL_at (by omega), gcpL_at (by omega), gcpL_at (by omega), gcpL_at (by omega), gcpL_at (by omega), gcpL_at (by omega), gsf_at (by omega), gsf_at (by omega), gsf_at (by omega)]
  · rw [if_neg h, if_neg h, gsf_at (by omega), gcpL_at (by omega), gcpL_at (by omega), gcpL_at (by omega), gcpL_at (by omega), gcpL_at (by omega), gcpL_at (by omega), gcpL_at (by omega), gcpL_at (by omega), gsf_at (by omega), gsf_at (by omega), gsf_at (by omega)]
theorem gTcp_r13 (m : gM) (a p q : Nat) (hne : p + 31 ≤ a ∨ a + 31 ≤ p) : (gTcp m a p).1 (a + 13) q = if q < 12 then m.1 (p + 13) q else m.1 (a + 13) q := by
  unfold gTcp
  simp only [glet_eq]
  rw [gsf_at (by omega), gcpL_at (by omega), gcpL_at (by omega), gcpL_at (by omega), gcpL_at (by omega), gcpL_at (by omega), gcpL_at (by omega), gcpL_at (by omega), gcpL_at (by omega), gcpL_at (by omega), gcpL_at (by omega), gcpL_at (by omega), gcpL_at (by omega), gsf_at (by omega), gcpL_at (by omega), gcpL_at (by omega), gcpL_at (by omega), gcpL_on]
  by_cases h : q < 12
  · rw [if_pos h, if_pos h, gcpL_at (by omega), gsf_at (by omega), gcpL_at (by omega), gcpL_at (by omega), gcpL_at (by omega), gcpL_at (by omega), gcpL_at (by omega), gcpL_at (by omega), gcpL_at (by omega), gcpL_at (by omega), gsf_at (by omega), gsf_at (by omega), gsf_at (by omega)]
  · rw [if_neg h, if_neg h, gcpL_at (by omega), gsf_at (by omega), gcpL_at (by omega), gcpL_at (by omega), gcpL_at (by omega), gcpL_at (by omega), gcpL_at (by omega), gcpL_at (by omega), gcpL_at (by omega), gcpL_at (by omega), gsf_at (by omega), gsf_at (by omega), gsf_at (by omega)]
theorem gTcp_r14 (m : gM) (a p q : Nat) (hne : p + 31 ≤ a ∨ a + 31 ≤ p) : (gTcp m a p).1 (a + 14) q = if q < 12 then m.1 (p + 14) q else m.1 (a + 14) q := by
  unfold gTcp
  simp only [glet_eq]
  rw [gsf_at (by omega), gcpL_at (by omega), gcpL_at (by omega), gcpL_at (by omega), gcpL_at (by omega), gcpL_at (by omega), gcpL_at (by omega), gcpL_at (by omega), gcpL_at (by omega), gcpL_at (by omega), gcpL_at (by omega), gcpL_at (by omega), gcpL_at (by omega), gsf_at (by omega), gcpL_at (by omega), gcpL_at (by omega), gcpL_on]
  by_cases h : q < 12
  · rw [if_pos h, if_pos h, gcpL_at (by omega), gcpL_at (by omega), gsf_at (by omega), gcpL_at (by omega), gcpL_at (by omega), gcpL_at (by omega), gcpL_at (by omega), gcpL_at (by omega), gcpL_at (by omega), gcpL_at (by omega), gcpL_at (by omega), gsf_at (by omega), gsf_at (by omega), gsf_at (by omega)]
  · rw [if_neg h, if_neg h, gcpL_at (by omega), gcpL_at (by omega), gsf_at (by omega), gcpL_at (by omega), gcpL_at (by omega), gcpL_at (by omega), gcpL_at (by omega), gcpL_at (by omega), gcpL_at (by omega), gcpL_at (by omega), gcpL_at (by omega), gsf_at (by omega), gsf_at (by omega), gsf_at (by omega)]
theorem gTcp_r15 (m : gM) (a p q : Nat) (hne : p + 31 ≤ a ∨ a + 31 ≤ p) : (gTcp m a p).1 (a + 15) q = if q < 12 then m.1 (p + 15) q else m.1 (a + 15) q := by
  unfold gTcp
  simp only [glet_eq]
  rw [gsf_at (by omega), gcpL_at (by omega), gcpL_at (by omega), gcpL_at (by omega), gcpL_at (by omega), gcpL_at (by omega), gcpL_at (by omega), gcpL_at (by omega), gcpL_at (by omega), gcpL_at (by omega), gcpL_at (by omega), gcpL_at (by omega), gcpL_at (by omega), gsf_at (by omega), gcpL_at (by omega), gcpL_on]
  by_cases h : q < 12
  · rw [if_pos h, if_pos h, gcpL_at (by omega), gcpL_at (by omega), gcpL_at (by omega), gsf_at (by omega), gcpL_at (by omega), gcpL_at (by omega), gcpL_at (by omega), gcpL_at (by omega), gcpL_at (by omega), gcpL_at (by omega), gcpL_at (by omega), gcpL_at (by omega), gsf_at (by omega), gsf_at (by omega), gsf_at (by omega)]
  · rw [if_neg h, if_neg h, gcpL_at (by omega), gcpL_at (by omega), gcpL_at (by omega), gsf_at (by omega), gcpL_at (by omega), gcpL_at (by omega), gcpL_at (by omega), gcpL_at (by omega), gcpL_at (by omega), gcpL_at (by omega), gcpL_at (by omega), gcpL_at (by omega), gsf_at (by omega), gsf_at (by omega), gsf_at (by omega)]
theorem gTcp_r16 (m : gM) (a p q : Nat) (hne : p + 31 ≤ a ∨ a + 31 ≤ p) : (gTcp m a p).1 (a + 16) q = if q < 12 then m.1 (p + 16) q else m.1 (a + 16) q := by
  unfold gTcp
  simp only [glet_eq]
  rw [gsf_at (by omega), gcpL_at (by omega), gcpL_at (by omega), gcpL_at (by omega), gcpL_at (by omega), gcpL_at (by omega), gcpL_at (by omega), gcpL_at (by omega), gcpL_at (by omega), gcpL_at (by omega), gcpL_at (by omega), gcpL_at (by omega), gcpL_at (by omega), gsf_at (by omega), gcpL_on]
  by_cases h : q < 12
  · rw [if_pos h, if_pos h, gcpL_at (by omega), gcpL_at (by omega), gcpL_at (by omega), gcpL_at (by omega), gsf_at (by omega), gcpL_at (by omega), gcpL_at (by omega), gcpL_at (by omega), gcpL_at (by omega), gcpL_at (by omega), gcpL_at (by omega), gcpL_at (by omega), gcpL_at (by omega), gsf_at (by omega), gsf_at (by omega), gsf_at (by omega)]
  · rw [if_neg h, if_neg h, gcpL_at (by omega), gcpL_at (by omega), gcpL_at (by omega), gcpL_at (by omega), gsf_at (by omega), gcpL_at (by omega), gcpL_at (by omega), gcpL_at (by omega), gcpL_at (by omega), gcpL_at (by omega), gcpL_at (by omega), gcpL_at (by omega), gcpL_at (by omega), gsf_at (by omega), gsf_at (by omega), gsf_at (by omega)]
theorem gTcp_r17 (m : gM) (a p q : Nat) (hne : p + 31 ≤ a ∨ a + 31 ≤ p) : (gTcp m a p).1 (a + 17) q = if q = 0 then m.1 (p + 17) 0 else m.1 (a + 17) q := by
  unfold gTcp
  simp only [glet_eq]
  rw [gsf_at (by omega), gcpL_at (by omega), gcpL_at (by omega), gcpL_at (by omega), gcpL_at (by omega), gcpL_at (by omega), gcpL_at (by omega), gcpL_at (by omega), gcpL_at (by omega), gcpL_at (by omega), gcpL_at (by omega), gcpL_at (by omega), gcpL_at (by omega), gsf_on]
  by_cases h : q = 0
  · rw [if_pos h, if_pos h, gfd_eq, gcpL_at (by omega), gcpL_at (by omega), gcpL_at (by omega), gcpL_at (by omega), gcpL_at (by omega), gsf_at (by omega), gcpL_at (by omega), gcpL_at (by omega), gcpL_at (by omega), gcpL_at (by omega), gcpL_at (by omega), gcpL_at (by omega), gcpL_at (by omega), gcpL_at (by omega), gsf_at (by omega), gsf_at (by omega), gsf_at (by omega)]
  · rw [if_neg h, if_neg h, gcpL_at (by omega), gcpL_at (by omega), gcpL_at (by omega), gcpL_at (by omega), gcpL_at (by omega), gsf_at (by omega), gcpL_at (by omega), gcpL_at (by omega), gcpL_at (by omega), gcpL_at (by omega), gcpL_at (by omega), gcpL_at (by omega), gcpL_at (by omega), gcpL_at (by omega), gsf_at (by omega), gsf_at (by omega), gsf_at (by omega)]
theorem gTcp_r18 (m : gM) (a p q : Nat) (hne : p + 31 ≤ a ∨ a + 31 ≤ p) : (gTcp m a p).1 (a + 18) q = if q < 10 then m.1 (p + 18) q else m.1 (a + 18) q := by
  unfold gTcp
  simp only [glet_eq]
  rw [gsf_at (by omega), gcpL_at (by omega), gcpL_at (by omega), gcpL_at (by omega), gcpL_at (by omega), gcpL_at (by omega), gcpL_at (by omega), gcpL_at (by omega), gcpL_at (by omega), gcpL_at (by omega), gcpL_at (by omega), gcpL_at (by omega), gcpL_on]
  by_cases h : q < 10
  · rw [if_pos h, if_pos h, gsf_at (by omega), gcpL_at (by omega), gcpL_at (by omega), gcpL_at (by omega), gcpL_at (by omega), gcpL_at (by omega), gsf_at (by omega), gcpL_at (by omega), gcpL_at (by omega), gcpL_at (by omega), gcpL_at (by omega), gcpL_at (by omega), gcpL_at (by omega), gcpL_at (by omega), gcpL_at (by omega), gsf_at (by omega), gsf_at (by omega), gsf_at (by omega)]
  · rw [if_neg h, if_neg h, gsf_at (by omega), gcpL_at (by omega), gcpL_at (by omega), gcpL_at (by omega), gcpL_at (by omega), gcpL_at (by omega), gsf_at (by omega), gcpL_at (by omega), gcpL_at (by omega), gcpL_at (by omega), gcpL_at (by omega), gcpL_at (by omega), gcpL_at (by omega), gcpL_at (by omega), gcpL_at (by omega), gsf_at (by omega), gsf_at (by omega), gsf_at (by omega)]
theorem gTcp_r19 (m : gM) (a p q : Nat) (hne : p + 31 ≤ a ∨ a + 31 ≤ p) : (gTcp m a p).1 (a + 19) q = if q < 10 then m.1 (p + 19) q else m.1 (a + 19) q := by
  unfold gTcp
  simp only [glet_eq]
  rw [gsf_at (by omega), gcpL_at (by omega), gcpL_at (by omega), gcpL_at (by omega), gcpL_at (by omega), gcpL_at (by omega), gcpL_at (by omega), gcpL_at (by omega), gcpL_at (by omega), gcpL_at (by omega), gcpL_at (by omega), gcpL_on]
  by_cases h : q < 10
  · rw [if_pos h, if_pos h, gcpL_at (by omega), gsf_at (by omega), gcpL_at (by omega), gcpL_at (by omega), gcpL_at (by omega), gcpL_at (by omega), gcpL_at (by omega), gsf_at (by omega), gcpL_at (by omega), gcpL_at (by omega), gcpL_at (by omega), gcpL_at (by omega), gcpL_at (by omega), gcpL_at (by omega), gcpL_at (by omega), gcpL_at (by omega), gsf_at (by omega), gsf_at (by omega), gsf_at (by omega)]
  · rw [if_neg h, if_neg h, gcpL_at (by omega), gsf_at (by omega), gcpL_at (by omega), gcpL_at (by omega), gcpL_at (by omega), gcpL_at (by omega), gcpL_at (by omega), gsf_at (by omega), gcpL_at (by omega), gcpL_at (by omega), gcpL_at (by omega), gcpL_at (by omega), gcpL_at (by omega), gcpL_at (by omega), gcpL_at (by omega), gcpL_at (by omega), gsf_at (by omega), gsf_at (by omega), gsf_at (by omega)]
theorem gTcp_r20 (m : gM) (a p q : Nat) (hne : p + 31 ≤ a ∨ a + 31 ≤ p) : (gTcp m a p).1 (a + 20) q = if q < 10 then m.1 (p + 20) q else m.1 (a + 20) q := by
  unfold gTcp
  simp only [glet_eq]
  rw [gsf_at (by omega), gcpL_at (by omega), gcpL_at (by omega), gcpL_at (by omega), gcpL_at (by omega), gcpL_at (by omega), gcpL_at (by omega), gcpL_at (by omega), gcpL_at (by omega), gcpL_at (by omega), gcpL_on]
  by_cases h : q < 10
  · rw [if_pos h, if_pos h, gcpL_at (by omega), gcpL_at (by omega), gsf_at (by omega), gcpL_at (by omega), gcpL_at (by omega), gcpL_at (by omega), gcpL_at (by omega), gcpL_at (by omega), gsf_at (by omega), gcpL_at (by omega), gcpL_at (by omega), gcpL_at (by omega), gcpL_at (by omega), gcpL_at (by omega), gcpL_at (by omega), gcpL_at (by omega), gcpL_at (by omega), gsf_at (by omega), gsf_at (by omega), gsf_at (by omega)]
  · rw [if_neg h, if_neg h, gcpL_at (by omega), gcpL_at (by omega), gsf_at (by omega), gcpL_at (by omega), gcpL_at (by omega), gcpL_at (by omega), gcpL_at (by omega), gcpL_at (by omega), gsf_at (by omega), gcpL_at (by omega), gcpL_at (by omega), gcpL_at (by omega), gcpL_at (by omega), gcpL_at (by omega), gcpL_at (by omega), gcpL_at (by omega), gcpL_at (by omega), gsf_at (by omega), gsf_at (by omega), gsf_at (by omega)]
theorem gTcp_r21 (m : gM) (a p q : Nat) (hne : p + 31 ≤ a ∨ a + 31 ≤ p) : (gTcp m a p).1 (a + 21) q = if q < 10 then m.1 (p + 21) q else m.1 (a + 21) q := by
  unfold gTcp
  simp only [glet_eq]
  rw [gsf_at (by omega), gcpL_at (by omega), gcpL_at (by omega), gcpL_at (by omega), gcpL_at (by omega), gcpL_on]
  by_cases h : q < 10
  · rw [if_pos h, if_pos h, gcpL_at (by omega), gcpL_at (by omega), gcpL_at (by omega), gcpL_at (by omega), gcpL_at (by omega), gcpL_at (by omega), gcpL_at (by omega), gsf_at (by omega), gcpL_at (by omega), gcpL_at (by omega), gcpL_at (by omega), gcpL_at (by omega), gcpL_at (by omega), gsf_at (by omega), gcpL_at (by omega), gcpL_at (by omega), gcpL_at (by omega), gcpL_at (by omega), gcpL_at (by omega), gcpL_at (by omega), gcpL_at (by omega), gcpL_at (by omega), gsf_at (by omega), gsf_at (by omega), gsf_at (by omega)]
  · rw [if_neg h, if_neg h, gcpL_at (by omega), gcpL_at (by omega), gcpL_at (by omega), gcpL_at (by omega), gcpL_at (by omega), gcpL_at (by omega), gcpL_at (by omega), gsf_at (by omega), gcpL_at (by omega), gcpL_at (by omega), gcpL_at (by omega), gcpL_at (by omega), gcpL_at (by omega), gsf_at (by omega), gcpL_at (by omega), gcpL_at (by omega), gcpL_at (by omega), gcpL_at (by omega), gcpL_at (by omega), gcpL_at (by omega), gcpL_at (by omega), gcpL_at (by omega), gsf_at (by omega), gsf_at (by omega), gsf_at (by omega)]
theorem gTcp_r22 (m : gM) (a p q : Nat) (hne : p + 31 ≤ a ∨ a + 31 ≤ p) : (gTcp m a p).1 (a + 22) q = if q < 10 then m.1 (p + 22) q else m.1 (a + 22) q := by
  unfold gTcp
  simp only [glet_eq]
  rw [gsf_at (by omega), gcpL_at (by omega), gcpL_at (by omega), gcpL_at (by omega), gcpL_at (by omega), gcpL_at (by omega), gcpL_at (by omega), gcpL_at (by omega), gcpL_at (by omega), gcpL_on]
  by_cases h : q < 10
  · rw [if_pos h, if_pos h, gcpL_at (by omega), gcpL_at (by omega), gcpL_at (by omega), gsf_at (by omega), gcpL_at (by omega), gcpL_at (by omega), gcpL_at (by omega), gcpL_at (by omega), gcpL_at (by omega), gsf_at (by omega), gcpL_at (by omega), gcpL_at (by omega), gcpL_at (by omega), gcpL_at (by omega), gcpL_at (by omega), gcpL_at (by omega), gcpL_at (by omega), gcpL_at (by omega), gsf_at (by omega), gsf_at (by omega), gsf_at (by omega)]
  · rw [if_neg h, if_neg h, gcpL_at (by omega), gcpL_at (by omega), gcpL_at (by omega), gsf_at (by omega), gcpL_at (by omega), gcpL_at (by omega), gcpL_at (by omega), gcpL_at (by omega), gcpL_at (by omega), gsf_at (by omega), gcpL_at (by omega), gcpL_at (by omega), gcpL_at (by omega), gcpL_at (by omega), gcpL_at (by omega), gcpL_at (by omega), gcpL_at (by omega), gcpL_at (by omega), gsf_at (by omega), gsf_at (by omega), gsf_at (by omega)]
theorem gTcp_r23 (m : gM) (a p q : Nat) (hne : p + 31 ≤ a ∨ a + 31 ≤ p) : (gTcp m a p).1 (a + 23) q = if q < 10 then m.1 (p + 23) q else m.1 (a + 23) q := by
  unfold gTcp
  simp only [glet_eq]
  rw [gsf_at (by omega), gcpL_at (by omega), gcpL_at (by omega), gcpL_at (by omega), gcpL_at (by omega), gcpL_at (by omega), gcpL_at (by omega), gcpL_at (by omega), gcpL_on]
  by_cases h : q < 10
  · rw [if_pos h, if_pos h, gcpL_at (by omega), gcpL_at (by omega), gcpL_at (by omega), gcpL_at (by omega), gsf_at (by omega), gcpL_at (by omega), gcpL_at (by omega), gcpL_at (by omega), gcpL_at (by omega), gcpL_at (by omega), gsf_at (by omega), gcpL_at (by omega), gcpL_at (by omega), gcpL_at (by omega), gcpL_at (by omega), gcpL_at (by omega), gcpL_at (by omega), gcpL_at (by omega), gcpL_at (by omega), gsf_at (by omega), gsf_at (by omega), gsf_at (by omega)]
  · rw [if_neg h, if_neg h, gcpL_at (by omega), gcpL_at (by omega), gcpL_at (by omega), gcpL_at (by omega), gsf_at (by omega), gcpL_at (by omega), gcpL_at (by omega), gcpL_at (by omega), gcpL_at (by omega), gcpL_at (by omega), gsf_at (by omega), gcpL_at (by omega), gcpL_at (by omega), gcpL_at (by omega), gcpL_at (by omega), gcpL_at (by omega), gcpL_at (by omega), gcpL_at (by omega), gcpL_at (by omega), gsf_at (by omega), gsf_at (by omega), gsf_at (by omega)]
theorem gTcp_r24 (m : gM) (a p q : Nat) (hne : p + 31 ≤ a ∨ a + 31 ≤ p) : (gTcp m a p).1 (a + 24) q = if q < 90 then m.1 (p + 24) q else m.1 (a + 24) q := by
  unfold gTcp
  simp only [glet_eq]
  rw [gsf_at (by omega), gcpL_at (by omega), gcpL_at (by omega), gcpL_at (by omega), gcpL_at (by omega), gcpL_at (by omega), gcpL_at (by omega), gcpL_on]
  by_cases h : q < 90
  · rw [if_pos h, if_pos h, gcpL_at (by omega), gcpL_at (by omega), gcpL_at (by omega), gcpL_at (by omega), gcpL_at (by omega), gsf_at (by omega), gcpL_at (by omega), gcpL_at (by omega), gcpL_at (by omega), gcpL_at (by omega), gcpL_at (by omega), gsf_at (by omega), gcpL_at (by omega), gcpL_at (by omega), gcpL_at (by omega), gcpL_at (by omega), gcpL_at (by omega), gcpL_at (by omega), gcpL_at (by omega), gcpL_at (by omega), gsf_at (by omega), gsf_at (by omega), gsf_at (by omega)]
  · rw [if_neg h, if_neg h, gcpL_at (by omega), gcpL_at (by omega), gcpL_at (by omega), gcpL_at (by omega), gcpL_at (by omega), gsf_at (by omega), gcpL_at (by omega), gcpL_at (by omega), gcpL_at (by omega), gcpL_at (by omega), gcpL_at (by omega), gsf_at (by omega), gcpL_at (by omega), gcpL_at (by omega), gcpL_at (by omega), gcpL_at (by omega), gcpL_at (by omega), gcpL_at (by omega), gcpL_at (by omega), gcpL_at (by omega), gsf_at (by omega), gsf_at (by omega), gsf_at (by omega)]
theorem gTcp_r25 (m : gM) (a p q : Nat) (hne : p + 31 ≤ a ∨ a + 31 ≤ p) : (gTcp m a p).1 (a + 25) q = if q < 500 then m.1 (p + 25) q else m.1 (a + 25) q := by
  unfold gTcp
  simp only [glet_eq]
  rw [gsf_at (by omega), gcpL_at (by omega), gcpL_at (by omega), gcpL_at (by omega), gcpL_at (by omega), gcpL_at (by omega), gcpL_on]
  by_cases h : q < 500
  · rw [if_pos h, if_pos h, gcpL_at (by omega), gcpL_at (by omega), gcpL_at (by omega), gcpL_at (by omega), gcpL_at (by omega), gcpL_at (by omega), gsf_at (by omega), gcpL_at (by omega), gcpL_at (by omega), gcpL_at (by omega), gcpL_at (by omega), gcpL_at (by omega), gsf_at (by omega), gcpL_at (by omega), gcpL_at (by omega), gcpL_at (by omega), gcpL_at (by omega), gcpL_at (by omega), gcpL_at (by omega), gcpL_at (by omega), gcpL_at (by omega), gsf_at (by omega), gsf_at (by omega), gsf_at (by omega)]
  · rw [if_neg h, if_neg h, gcpL_at (by omega), gcpL_at (by omega), gcpL_at (by omega), gcpL_at (by omega), gcpL_at (by omega), gcpL_at (by omega), gsf_at (by omega), gcpL_at (by omega), gcpL_at (by omega), gcpL_at (by omega), gcpL_at (by omega), gcpL_at (by omega), gsf_at (by omega), gcpL_at (by omega), gcpL_at (by omega), gcpL_at (by omega), gcpL_at (by omega), gcpL_at (by omega), gcpL_at (by omega), gcpL_at (by omega), gcpL_at (by omega), gsf_at (by omega), gsf_at (by omega), gsf_at (by omega)]
theorem gTcp_r26 (m : gM) (a p q : Nat) : (gTcp m a p).1 (a + 26) q = m.1 (a + 26) q := by
  unfold gTcp
  simp only [glet_eq]
  rw [gsf_at (by omega), gcpL_at (by omega), gcpL_at (by omega), gcpL_at (by omega), gcpL_at (by omega), gcpL_at (by omega), gcpL_at (by omega), gcpL_at (by omega), gcpL_at (by omega), gcpL_at (by omega), gcpL_at (by omega), gcpL_at (by omega), gcpL_at (by omega), gsf_at (by omega), gcpL_at (by omega), gcpL_at (by omega), gcpL_at (by omega), gcpL_at (by omega), gcpL_at (by omega), gsf_at (by omega), gcpL_at (by omega), gcpL_at (by omega), gcpL_at (by omega), gcpL_at (by omega), gcpL_at (by omega), gcpL_at (by omega), gcpL_at (by omega), gcpL_at (by omega), gsf_at (by omega), gsf_at (by omega), gsf_at (by omega)]
theorem gTcp_r27 (m : gM) (a p q : Nat) (hne : p + 31 ≤ a ∨ a + 31 ≤ p) : (gTcp m a p).1 (a + 27) q = if q < 6 then m.1 (p + 27) q else m.1 (a + 27) q := by
  unfold gTcp
  simp only [glet_eq]
  rw [gsf_at (by omega), gcpL_at (by omega), gcpL_at (by omega), gcpL_at (by omega), gcpL_on]
  by_cases h : q < 6
  · rw [if_pos h, if_pos h, gcpL_at (by omega), gcpL_at (by omega), gcpL_at (by omega), gcpL_at (by omega), gcpL_at (by omega), gcpL_at (by omega), gcpL_at (by omega), gcpL_at (by omega), gsf_at (by omega), gcpL_at (by omega), gcpL_at (by omega), gcpL_at (by omega), gcpL_at (by omega), gcpL_at (by omega), gsf_at (by omega), gcpL_at (by omega), gcpL_at (by omega), gcpL_at (by omega), gcpL_at (by omega), gcpL_at (by omega), gcpL_at (by omega), gcpL_at (by omega), gcpL_at (by omega), gsf_at (by omega), gsf_at (by omega), gsf_at (by omega)]
  · rw [if_neg h, if_neg h, gcpL_at (by omega), gcpL_at (by omega), gcpL_at (by omega), gcpL_at (by omega), gcpL_at (by omega), gcpL_at (by omega), gcpL_at (by omega), gcpL_at (by omega), gsf_at (by omega), gcpL_at (by omega), gcpL_at (by omega), gcpL_at (by omega), gcpL_at (by omega), gcpL_at (by omega), gsf_at (by omega), gcpL_at (by omega), gcpL_at (by omega), gcpL_at (by omega), gcpL_at (by omega), gcpL_at (by omega), gcpL_at (by omega), gcpL_at (by omega), gcpL_at (by omega), gsf_at (by omega), gsf_at (by omega), gsf_at (by omega)]
theorem gTcp_r28 (m : gM) (a p q : Nat) (hne : p + 31 ≤ a ∨ a + 31 ≤ p) : (gTcp m a p).1 (a + 28) q = if q < 6 then m.1 (p + 28) q else m.1 (a + 28) q := by
  unfold gTcp
  simp only [glet_eq]
  rw [gsf_at (by omega), gcpL_at (by omega), gcpL_at (by omega), gcpL_on]
  by_cases h : q < 6
  · rw [if_pos h, if_pos h, gcpL_at (by omega), gcpL_at (by omega), gcpL_at (by omega), gcpL_at (by omega), gcpL_at (by omega), gcpL_at (by omega), gcpL_at (by omega), gcpL_at (by omega), gcpL_at (by omega), gsf_at (by omega), gcpL_at (by omega), gcpL_at (by omega), gcpL_at (by omega), gcpL_at (by omega), gcpL_at (by omega), gsf_at (by omega), gcpL_at (by omega), gcpL_at (by omega), gcpL_at (by omega), gcpL_at (by omega), gcpL_at (by omega), gcpL_at (by omega), gcpL_at (by omega), gcpL_at (by omega), gsf_at (by omega), gsf_at (by omega), gsf_at (by omega)]
  · rw [if_neg h, if_neg h, gcpL_at (by omega), gcpL_at (by omega), gcpL_at (by omega), gcpL_at (by omega), gcpL_at (by omega), gcpL_at (by omega), gcpL_at (by omega), gcpL_at (by omega), gcpL_at (by omega), gsf_at (by omega), gcpL_at (by omega), gcpL_at (by omega), gcpL_at (by omega), gcpL_at (by omega), gcpL_at (by omega), gsf_at (by omega), gcpL_at (by omega), gcpL_at (by omega), gcpL_at (by omega), gcpL_at (by omega), gcpL_at (by omega), gcpL_at (by omega), gcpL_at (by omega), gcpL_at (by omega), gsf_at (by omega), gsf_at (by omega), gsf_at (by omega)]
theorem gTcp_r29 (m : gM) (a p q : Nat) (hne : p + 31 ≤ a ∨ a + 31 ≤ p) : (gTcp m a p).1 (a + 29) q = if q < 6 then m.1 (p + 29) q else m.1 (a + 29) q := by
  unfold gTcp
  simp only [glet_eq]
  rw [gsf_at (by omega), gcpL_at (by omega), gcpL_on]
  by_cases h : q < 6
  · rw [if_pos h, if_pos h, gcpL_at (by omega), gcpL_at (by omega), gcpL_at (by omega), gcpL_at (by omega), gcpL_at (by omega), gcpL_at (by omega), gcpL_at (by omega), gcpL_at (by omega), gcpL_at (by omega), gcpL_at (by omega), gsf_at (by omega), gcpL_at (by omega), gcpL_at (by omega), gcpL_at (by omega), gcpL_at (by omega), gcpL_at (by omega), gsf_at (by omega), gcpL_at (by omega), gcpL_at (by omega), gcpL_at (by omega), gcpL_at (by omega), gcpL_at (by omega), gcpL_at (by omega), gcpL_at (by omega), gcpL_at (by omega), gsf_at (by omega), gsf_at (by omega), gsf_at (by omega)]
  · rw [if_neg h, if_neg h, gcpL_at (by omega), gcpL_at (by omega), gcpL_at (by omega), gcpL_at (by omega), gcpL_at (by omega), gcpL_at (by omega), gcpL_at (by omega), gcpL_at (by omega), gcpL_at (by omega), gcpL_at (by omega), gsf_at (by omega), gcpL_at (by omega), gcpL_at (by omega), gcpL_at (by omega), gcpL_at (by omega), gcpL_at (by omega), gsf_at (by omega), gcpL_at (by omega), gcpL_at (by omega), gcpL_at (by omega), gcpL_at (by omega), gcpL_at (by omega), gcpL_at (by omega), gcpL_at (by omega), gcpL_at (by omega), gsf_at (by omega), gsf_at (by omega), gsf_at (by omega)]
theorem gTcp_r30 (m : gM) (a p q : Nat) (hne : p + 31 ≤ a ∨ a + 31 ≤ p) : (gTcp m a p).1 (a + 30) q = if q < 50 then m.1 (p + 30) q else m.1 (a + 30) q := by
  unfold gTcp
  simp only [glet_eq]
  rw [gsf_at (by omega), gcpL_on]
  by_cases h : q < 50
  · rw [if_pos h, if_pos h, gcpL_at (by omega), gcpL_at (by omega), gcpL_at (by omega), gcpL_at (by omega), gcpL_at (by omega), gcpL_at (by omega), gcpL_at (by omega), gcpL_at (by omega), gcpL_at (by omega), gcpL_at (by omega), gcpL_at (by omega), gsf_at (by omega), gcpL_at (by omega), gcpL_at (by omega), gcpL_at (by omega), gcpL_at (by omega), gcpL_at (by omega), gsf_at (by omega), gcpL_at (by omega), gcpL_at (by omega), gcpL_at (by omega), gcpL_at (by omega), gcpL_at (by omega), gcpL_at (by omega), gcpL_at (by omega), gcpL_at (by omega), gsf_at (by omega), gsf_at (by omega), gsf_at (by omega)]
  · rw [if_neg h, if_neg h, gcpL_at (by omega), gcpL_at (by omega), gcpL_at (by omega), gcpL_at (by omega), gcpL_at (by omega), gcpL_at (by omega), gcpL_at (by omega), gcpL_at (by omega), gcpL_at (by omega), gcpL_at (by omega), gcpL_at (by omega), gsf_at (by omega), gcpL_at (by omega), gcpL_at (by omega), gcpL_at (by omega), gcpL_at (by omega), gcpL_at (by omega), gsf_at (by omega), gcpL_at (by omega), gcpL_at (by omega), gcpL_at (by omega), gcpL_at (by omega), gcpL_at (by omega), gcpL_at (by omega), gcpL_at (by omega), gcpL_at (by omega), gsf_at (by omega), gsf_at (by omega), gsf_at (by omega)]
theorem gTcp_r2 (m : gM) (a p q : Nat) (hne : p + 31 ≤ a ∨ a + 31 ≤ p) : (gTcp m a p).1 (a + 2) q = if q < 3 then m.1 (p + 2) q else m.1 (a + 2) q := by
  unfold gTcp
  simp only [glet_eq]
  rw [gsf_at (by omega), gcpL_at (by omega), gcpL_at (by omega), gcpL_at (by omega), gcpL_at (by omega), gcpL_at (by omega), gcpL_at (by omega), gcpL_at (by omega), gcpL_at (by omega), gcpL_at (by omega), gcpL_at (by omega), gcpL_at (by omega), gcpL_at (by omega), gsf_at (by omega), gcpL_at (by omega), gcpL_at (by omega), gcpL_at (by omega), gcpL_at (by omega), gcpL_at (by omega), gsf_at (by omega), gcpL_at (by omega), gcpL_at (by omega), gcpL_at (by omega), gcpL_at (by omega), gcpL_at (by omega), gcpL_at (by omega), gcpL_at (by omega), gcpL_at (by omega)]
  have e : ∀ (x : gM) (k : Nat) (v : Int32) (i : Nat), (gsf x (a + 2) k v).1 (p + 2) i = x.1 (p + 2) i := fun x k v i => gsf_at (by omega)
  simp only [gsf_on, gfd_eq, e]
  by_cases h2 : q = 2
  · subst h2; simp
  · by_cases h1 : q = 1
    · subst h1; simp
    · by_cases h0 : q = 0
      · subst h0; simp
      · simp [h0, h1, h2, show ¬ q < 3 by omega]
