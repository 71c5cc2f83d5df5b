/-! ===== rows of a new field (by program) ===== -/
theorem gTnew_2 (m : gM) (t w h : Nat) : (gTnew m t w h).2 = m.2 := rfl
theorem gTnew_r0 (m : gM) (t w h q : Nat) : (gTnew m t w h).1 t q = if q = 4 then 0 else m.1 t q := by
  simp [gTnew, gsf, gfil, gcolP, gup_all, Nat.add_assoc]
theorem gTnew_r1 (m : gM) (t w h q : Nat) : (gTnew m t w h).1 (t + 1) q = m.1 (t + 1) q := by
  simp [gTnew, gsf, gfil, gcolP, gup_all, Nat.add_assoc]
theorem gTnew_r2 (m : gM) (t w h q : Nat) : (gTnew m t w h).1 (t + 2) q = if q = 2 then nI (w * h) else if q = 1 then nI h else if q = 0 then nI w else m.1 (t + 2) q := by
  simp [gTnew, gsf, gfil, gcolP, gup_all, Nat.add_assoc]
theorem gTnew_r3 (m : gM) (t w h q : Nat) : (gTnew m t w h).1 (t + 3) q = if q < h * w then nI (q % w) else m.1 (t + 3) q := by
  simp [gTnew, gsf, gfil, gcolP, gup_all, Nat.add_assoc]
theorem gTnew_r4 (m : gM) (t w h q : Nat) : (gTnew m t w h).1 (t + 4) q = if q < h * w then nI (q / w) else m.1 (t + 4) q := by
  simp [gTnew, gsf, gfil, gcolP, gup_all, Nat.add_assoc]
theorem gTnew_r5 (m : gM) (t w h q : Nat) : (gTnew m t w h).1 (t + 5) q = if q < 36 then 5 else m.1 (t + 5) q := by
  simp [gTnew, gsf, gfil, gcolP, gup_all, Nat.add_assoc]
theorem gTnew_r6 (m : gM) (t w h q : Nat) : (gTnew m t w h).1 (t + 6) q = if q < 36 then 0 else m.1 (t + 6) q := by
  simp [gTnew, gsf, gfil, gcolP, gup_all, Nat.add_assoc]
theorem gTnew_r7 (m : gM) (t w h q : Nat) : (gTnew m t w h).1 (t + 7) q = if q < 36 then 0 else m.1 (t + 7) q := by
  simp [gTnew, gsf, gfil, gcolP, gup_all, Nat.add_assoc]
theorem gTnew_r8 (m : gM) (t w h q : Nat) : (gTnew m t w h).1 (t + 8) q = if q < 36 then 0 else m.1 (t + 8) q := by
  simp [gTnew, gsf, gfil, gcolP, gup_all, Nat.add_assoc]
theorem gTnew_r9 (m : gM) (t w h q : Nat) : (gTnew m t w h).1 (t + 9) q = if q < 36 then (-4) else m.1 (t + 9) q := by
  simp [gTnew, gsf, gfil, gcolP, gup_all, Nat.add_assoc]
theorem gTnew_r10 (m : gM) (t w h q : Nat) : (gTnew m t w h).1 (t + 10) q = if q < 324 then 0 else m.1 (t + 10) q := by
  simp [gTnew, gsf, gfil, gcolP, gup_all, Nat.add_assoc]
theorem gTnew_r11 (m : gM) (t w h q : Nat) : (gTnew m t w h).1 (t + 11) q = if q = 1 then 0 else m.1 (t + 11) q := by
  simp [gTnew, gsf, gfil, gcolP, gup_all, Nat.add_assoc]
theorem gTnew_r12 (m : gM) (t w h q : Nat) : (gTnew m t w h).1 (t + 12) q = if q < 8 then (-4) else m.1 (t + 12) q := by
  simp [gTnew, gsf, gfil, gcolP, gup_all, Nat.add_assoc]
theorem gTnew_r13 (m : gM) (t w h q : Nat) : (gTnew m t w h).1 (t + 13) q = m.1 (t + 13) q := by
  simp [gTnew, gsf, gfil, gcolP, gup_all, Nat.add_assoc]
theorem gTnew_r14 (m : gM) (t w h q : Nat) : (gTnew m t w h).1 (t + 14) q = m.1 (t + 14) q := by
  simp [gTnew, gsf, gfil, gcolP, gup_all, Nat.add_assoc]
theorem gTnew_r15 (m : gM) (t w h q : Nat) : (gTnew m t w h).1 (t + 15) q = m.1 (t + 15) q := by
  simp [gTnew, gsf, gfil, gcolP, gup_all, Nat.add_assoc]
theorem gTnew_r16 (m : gM) (t w h q : Nat) : (gTnew m t w h).1 (t + 16) q = m.1 (t + 16) q := by
  simp [gTnew, gsf, gfil, gcolP, gup_all, Nat.add_assoc]
theorem gTnew_r17 (m : gM) (t w h q : Nat) : (gTnew m t w h).1 (t + 17) q = if q = 0 then 0 else m.1 (t + 17) q := by
  simp [gTnew, gsf, gfil, gcolP, gup_all, Nat.add_assoc]
theorem gTnew_r18 (m : gM) (t w h q : Nat) : (gTnew m t w h).1 (t + 18) q = m.1 (t + 18) q := by
  simp [gTnew, gsf, gfil, gcolP, gup_all, Nat.add_assoc]
theorem gTnew_r19 (m : gM) (t w h q : Nat) : (gTnew m t w h).1 (t + 19) q = m.1 (t + 19) q := by
  simp [gTnew, gsf, gfil, gcolP, gup_all, Nat.add_assoc]
theorem gTnew_r20 (m : gM) (t w h q : Nat) : (gTnew m t w h).1 (t + 20) q = m.1 (t + 20) q := by
  simp [gTnew, gsf, gfil, gcolP, gup_all, Nat.add_assoc]
theorem gTnew_r21 (m : gM) (t w h q : Nat) : (gTnew m t w h).1 (t + 21) q = m.1 (t + 21) q := by
  simp [gTnew, gsf, gfil, gcolP, gup_all, Nat.add_assoc]
theorem gTnew_r22 (m : gM) (t w h q : Nat) : (gTnew m t w h).1 (t + 22) q = if q < 10 then 0 else m.1 (t + 22) q := by
  simp [gTnew, gsf, gfil, gcolP, gup_all, Nat.add_assoc]
theorem gTnew_r23 (m : gM) (t w h q : Nat) : (gTnew m t w h).1 (t + 23) q = if q < 10 then 0 else m.1 (t + 23) q := by
  simp [gTnew, gsf, gfil, gcolP, gup_all, Nat.add_assoc]
theorem gTnew_r24 (m : gM) (t w h q : Nat) : (gTnew m t w h).1 (t + 24) q = if q < 90 then 0 else m.1 (t + 24) q := by
  simp [gTnew, gsf, gfil, gcolP, gup_all, Nat.add_assoc]
theorem gTnew_r25 (m : gM) (t w h q : Nat) : (gTnew m t w h).1 (t + 25) q = if q < 500 then 0 else m.1 (t + 25) q := by
  simp [gTnew, gsf, gfil, gcolP, gup_all, Nat.add_assoc]
theorem gTnew_r26 (m : gM) (t w h q : Nat) : (gTnew m t w h).1 (t + 26) q = m.1 (t + 26) q := by
  simp [gTnew, gsf, gfil, gcolP, gup_all, Nat.add_assoc]
theorem gTnew_r27 (m : gM) (t w h q : Nat) : (gTnew m t w h).1 (t + 27) q = if q < 6 then 0 else m.1 (t + 27) q := by
  simp [gTnew, gsf, gfil, gcolP, gup_all, Nat.add_assoc]
theorem gTnew_r28 (m : gM) (t w h q : Nat) : (gTnew m t w h).1 (t + 28) q = if q < 6 then 0 else m.1 (t + 28) q := by
  simp [gTnew, gsf, gfil, gcolP, gup_all, Nat.add_assoc]
theorem gTnew_r29 (m : gM) (t w h q : Nat) : (gTnew m t w h).1 (t + 29) q = if q < 6 then 0 else m.1 (t + 29) q := by
  simp [gTnew, gsf, gfil, gcolP, gup_all, Nat.add_assoc]
theorem gTnew_r30 (m : gM) (t w h q : Nat) : (gTnew m t w h).1 (t + 30) q = if q < 50 then 0 else m.1 (t + 30) q := by
  simp [gTnew, gsf, gfil, gcolP, gup_all, Nat.add_assoc]
theorem gTnew_far (m : gM) (t w h p q : Nat) (hp : p < t ∨ t + 31 ≤ p) : (gTnew m t w h).1 p q = m.1 p q := by
  have h0 : p ≠ t + 0 := by omega
  have h2 : p ≠ t + 2 := by omega
  have h3 : p ≠ t + 3 := by omega
  have h4 : p ≠ t + 4 := by omega
  have h5 : p ≠ t + 5 := by omega
  have h6 : p ≠ t + 6 := by omega
  have h7 : p ≠ t + 7 := by omega
  have h8 : p ≠ t + 8 := by omega
  have h9 : p ≠ t + 9 := by omega
  have h10 : p ≠ t + 10 := by omega
  have h12 : p ≠ t + 12 := by omega
  have h11 : p ≠ t + 11 := by omega
  have h17 : p ≠ t + 17 := by omega
  have h22 : p ≠ t + 22 := by omega
  have h23 : p ≠ t + 23 := by omega
  have h24 : p ≠ t + 24 := by omega
  have h25 : p ≠ t + 25 := by omega
  have h27 : p ≠ t + 27 := by omega
  have h28 : p ≠ t + 28 := by omega
  have h29 : p ≠ t + 29 := by omega
  have h30 : p ≠ t + 30 := by omega
  have h0' : p ≠ t := by omega
  simp [gTnew, gsf, gfil, gcolP, gup_all, Nat.add_assoc, h0', h0, h2, h3, h4, h5, h6, h7, h8, h9, h10, h12, h11, h17, h22, h23, h24, h25, h27, h28, h29, h30]
