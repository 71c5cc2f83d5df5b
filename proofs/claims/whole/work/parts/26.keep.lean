/-! ===== keep, stand (by program) ===== -/
theorem gEy.retE {d : Nat} {code : gC} {pc : Nat} {ls : gL} {s : gS} {bd : Nat × Nat} {nx kp : Nat} {v x y : Int32} (hx : x = y) (hc : code pc = some (.ireturn, nx, v, kp)) (hk : gkeep ls kp = ls) : gEy d code pc ls [.int x] s bd (some (.int y), s) := by
  subst hx
  exact gEy.reti hc hk
theorem gKp.tcp {B a p : Nat} {s : gS} {sh : gH} {m : gM} (k : gKp B s (sh, m)) (ha : B ≤ a) : gKp B s (sh, gTcp m a p) :=
  ⟨k.1, fun id hi => by funext q; show (gTcp m a p).1 id q = _; rw [gTcp_far _ _ _ _ _ (Or.inl (by omega))]; exact congrFun (k.2.1 id hi) q, fun id hi => by show (gTcp m a p).2 id = _; rw [gTcp_2]; exact k.2.2 id hi⟩
theorem gsh_ne {S : Nat → Option gE} {a x : Nat} {e : gE} (h : x ≠ a) : gsh S a e x = S x := if_neg h
theorem gTnc_r3 (Z : gM) (t p q : Nat) (hne : p + 31 ≤ t ∨ t + 31 ≤ p) : (gTcp (gTnew Z t 3 3) t p).1 (t + 3) q = if q < 36 then Z.1 (p + 3) q else Z.1 (t + 3) q := by
  rw [gTcp_r3 _ _ _ _ hne]
  by_cases h : q < 36
  · rw [if_pos h, if_pos h, gTnew_far _ _ _ _ _ _ (by omega)]
  · rw [if_neg h, if_neg h, gTnew_r3, if_neg (by omega)]
theorem gTnc_r4 (Z : gM) (t p q : Nat) (hne : p + 31 ≤ t ∨ t + 31 ≤ p) : (gTcp (gTnew Z t 3 3) t p).1 (t + 4) q = if q < 36 then Z.1 (p + 4) q else Z.1 (t + 4) q := by
  rw [gTcp_r4 _ _ _ _ hne]
  by_cases h : q < 36
  · rw [if_pos h, if_pos h, gTnew_far _ _ _ _ _ _ (by omega)]
  · rw [if_neg h, if_neg h, gTnew_r4, if_neg (by omega)]
theorem gTnc_r5 (Z : gM) (t p q : Nat) (hne : p + 31 ≤ t ∨ t + 31 ≤ p) : (gTcp (gTnew Z t 3 3) t p).1 (t + 5) q = if q < 36 then Z.1 (p + 5) q else Z.1 (t + 5) q := by
  rw [gTcp_r5 _ _ _ _ hne]
  by_cases h : q < 36
  · rw [if_pos h, if_pos h, gTnew_far _ _ _ _ _ _ (by omega)]
  · rw [if_neg h, if_neg h, gTnew_r5, if_neg h]
theorem gTnc_r6 (Z : gM) (t p q : Nat) (hne : p + 31 ≤ t ∨ t + 31 ≤ p) : (gTcp (gTnew Z t 3 3) t p).1 (t + 6) q = if q < 36 then Z.1 (p + 6) q else Z.1 (t + 6) q := by
  rw [gTcp_r6 _ _ _ _ hne]
  by_cases h : q < 36
  · rw [if_pos h, if_pos h, gTnew_far _ _ _ _ _ _ (by omega)]
  · rw [if_neg h, if_neg h, gTnew_r6, if_neg h]
theorem gTnc_r7 (Z : gM) (t p q : Nat) (hne : p + 31 ≤ t ∨ t + 31 ≤ p) : (gTcp (gTnew Z t 3 3) t p).1 (t + 7) q = if q < 36 then Z.1 (p + 7) q else Z.1 (t + 7) q := by
  rw [gTcp_r7 _ _ _ _ hne]
  by_cases h : q < 36
  · rw [if_pos h, if_pos h, gTnew_far _ _ _ _ _ _ (by omega)]
  · rw [if_neg h, if_neg h, gTnew_r7, if_neg h]
theorem gTnc_r8 (Z : gM) (t p q : Nat) (hne : p + 31 ≤ t ∨ t + 31 ≤ p) : (gTcp (gTnew Z t 3 3) t p).1 (t + 8) q = if q < 36 then Z.1 (p + 8) q else Z.1 (t + 8) q := by
  rw [gTcp_r8 _ _ _ _ hne]
  by_cases h : q < 36
  · rw [if_pos h, if_pos h, gTnew_far _ _ _ _ _ _ (by omega)]
  · rw [if_neg h, if_neg h, gTnew_r8, if_neg h]
theorem gTnc_r9 (Z : gM) (t p q : Nat) (hne : p + 31 ≤ t ∨ t + 31 ≤ p) : (gTcp (gTnew Z t 3 3) t p).1 (t + 9) q = if q < 36 then Z.1 (p + 9) q else Z.1 (t + 9) q := by
  rw [gTcp_r9 _ _ _ _ hne]
  by_cases h : q < 36
  · rw [if_pos h, if_pos h, gTnew_far _ _ _ _ _ _ (by omega)]
  · rw [if_neg h, if_neg h, gTnew_r9, if_neg h]
theorem gTnc_r10 (Z : gM) (t p q : Nat) (hne : p + 31 ≤ t ∨ t + 31 ≤ p) : (gTcp (gTnew Z t 3 3) t p).1 (t + 10) q = if q < 324 then Z.1 (p + 10) q else Z.1 (t + 10) q := by
  rw [gTcp_r10 _ _ _ _ hne]
  by_cases h : q < 324
  · rw [if_pos h, if_pos h, gTnew_far _ _ _ _ _ _ (by omega)]
  · rw [if_neg h, if_neg h, gTnew_r10, if_neg h]
theorem gTnc_r12 (Z : gM) (t p q : Nat) (hne : p + 31 ≤ t ∨ t + 31 ≤ p) : (gTcp (gTnew Z t 3 3) t p).1 (t + 12) q = if q < 8 then Z.1 (p + 12) q else Z.1 (t + 12) q := by
  rw [gTcp_r12 _ _ _ _ hne]
  by_cases h : q < 8
  · rw [if_pos h, if_pos h, gTnew_far _ _ _ _ _ _ (by omega)]
  · rw [if_neg h, if_neg h, gTnew_r12, if_neg h]
theorem gTnc_r13 (Z : gM) (t p q : Nat) (hne : p + 31 ≤ t ∨ t + 31 ≤ p) : (gTcp (gTnew Z t 3 3) t p).1 (t + 13) q = if q < 12 then Z.1 (p + 13) q else Z.1 (t + 13) q := by
  rw [gTcp_r13 _ _ _ _ hne]
  by_cases h : q < 12
  · rw [if_pos h, if_pos h, gTnew_far _ _ _ _ _ _ (by omega)]
  · rw [if_neg h, if_neg h, gTnew_r13]
theorem gTnc_r14 (Z : gM) (t p q : Nat) (hne : p + 31 ≤ t ∨ t + 31 ≤ p) : (gTcp (gTnew Z t 3 3) t p).1 (t + 14) q = if q < 12 then Z.1 (p + 14) q else Z.1 (t + 14) q := by
  rw [gTcp_r14 _ _ _ _ hne]
  by_cases h : q < 12
  · rw [if_pos h, if_pos h, gTnew_far _ _ _ _ _ _ (by omega)]
  · rw [if_neg h, if_neg h, gTnew_r14]
theorem gTnc_r15 (Z : gM) (t p q : Nat) (hne : p + 31 ≤ t ∨ t + 31 ≤ p) : (gTcp (gTnew Z t 3 3) t p).1 (t + 15) q = if q < 12 then Z.1 (p + 15) q else Z.1 (t + 15) q := by
  rw [gTcp_r15 _ _ _ _ hne]
  by_cases h : q < 12
  · rw [if_pos h, if_pos h, gTnew_far _ _ _ _ _ _ (by omega)]
  · rw [if_neg h, if_neg h, gTnew_r15]
theorem gTnc_r16 (Z : gM) (t p q : Nat) (hne : p + 31 ≤ t ∨ t + 31 ≤ p) : (gTcp (gTnew Z t 3 3) t p).1 (t + 16) q = if q < 12 then Z.1 (p + 16) q else Z.1 (t + 16) q := by
  rw [gTcp_r16 _ _ _ _ hne]
  by_cases h : q < 12
  · rw [if_pos h, if_pos h, gTnew_far _ _ _ _ _ _ (by omega)]
  · rw [if_neg h, if_neg h, gTnew_r16]
theorem gTnc_r18 (Z : gM) (t p q : Nat) (hne : p + 31 ≤ t ∨ t + 31 ≤ p) : (gTcp (gTnew Z t 3 3) t p).1 (t + 18) q = if q < 10 then Z.1 (p + 18) q else Z.1 (t + 18) q := by
  rw [gTcp_r18 _ _ _ _ hne]
  by_cases h : q < 10
  · rw [if_pos h, if_pos h, gTnew_far _ _ _ _ _ _ (by omega)]
  · rw [if_neg h, if_neg h, gTnew_r18]
theorem gTnc_r19 (Z : gM) (t p q : Nat) (hne : p + 31 ≤ t ∨ t + 31 ≤ p) : (gTcp (gTnew Z t 3 3) t p).1 (t + 19) q = if q < 10 then Z.1 (p + 19) q else Z.1 (t + 19) q := by
  rw [gTcp_r19 _ _ _ _ hne]
  by_cases h : q < 10
  · rw [if_pos h, if_pos h, gTnew_far _ _ _ _ _ _ (by omega)]
  · rw [if_neg h, if_neg h, gTnew_r19]
theorem gTnc_r20 (Z : gM) (t p q : Nat) (hne : p + 31 ≤ t ∨ t + 31 ≤ p) : (gTcp (gTnew Z t 3 3) t p).1 (t + 20) q = if q < 10 then Z.1 (p + 20) q else Z.1 (t + 20) q := by
  rw [gTcp_r20 _ _ _ _ hne]
  by_cases h : q < 10
  · rw [if_pos h, if_pos h, gTnew_far _ _ _ _ _ _ (by omega)]
  · rw [if_neg h, if_neg h, gTnew_r20]
theorem gTnc_r21 (Z : gM) (t p q : Nat) (hne : p + 31 ≤ t ∨ t + 31 ≤ p) : (gTcp (gTnew Z t 3 3) t p).1 (t + 21) q = if q < 10 then Z.1 (p + 21) q else Z.1 (t + 21) q := by
  rw [gTcp_r21 _ _ _ _ hne]
  by_cases h : q < 10
  · rw [if_pos h, if_pos h, gTnew_far _ _ _ _ _ _ (by omega)]
  · rw [if_neg h, if_neg h, gTnew_r21]
theorem gTnc_r22 (Z : gM) (t p q : Nat) (hne : p + 31 ≤ t ∨ t + 31 ≤ p) : (gTcp (gTnew Z t 3 3) t p).1 (t + 22) q = if q < 10 then Z.1 (p + 22) q else Z.1 (t + 22) q := by
  rw [gTcp_r22 _ _ _ _ hne]
  by_cases h : q < 10
  · rw [if_pos h, if_pos h, gTnew_far _ _ _ _ _ _ (by omega)]
  · rw [if_neg h, if_neg h, gTnew_r22, if_neg h]
theorem gTnc_r23 (Z : gM) (t p q : Nat) (hne : p + 31 ≤ t ∨ t + 31 ≤ p) : (gTcp (gTnew Z t 3 3) t p).1 (t + 23) q = if q < 10 then Z.1 (p + 23) q else Z.1 (t + 23) q := by
  rw [gTcp_r23 _ _ _ _ hne]
  by_cases h : q < 10
  · rw [if_pos h, if_pos h, gTnew_far _ _ _ _ _ _ (by omega)]
  · rw [if_neg h, if_neg h, gTnew_r23, if_neg h]
theorem gTnc_r24 (Z : gM) (t p q : Nat) (hne : p + 31 ≤ t ∨ t + 31 ≤ p) : (gTcp (gTnew Z t 3 3) t p).1 (t + 24) q = if q < 90 then Z.1 (p + 24) q else Z.1 (t + 24) q := by
  rw [gTcp_r24 _ _ _ _ hne]
  by_cases h : q < 90
  · rw [if_pos h, if_pos h, gTnew_far _ _ _ _ _ _ (by omega)]
  · rw [if_neg h, if_neg h, gTnew_r24, if_neg h]
theorem gTnc_r25 (Z : gM) (t p q : Nat) (hne : p + 31 ≤ t ∨ t + 31 ≤ p) : (gTcp (gTnew Z t 3 3) t p).1 (t + 25) q = if q < 500 then Z.1 (p + 25) q else Z.1 (t + 25) q := by
  rw [gTcp_r25 _ _ _ _ hne]
  by_cases h : q < 500
  · rw [if_pos h, if_pos h, gTnew_far _ _ _ _ _ _ (by omega)]
  · rw [if_neg h, if_neg h, gTnew_r25, if_neg h]
theorem gTnc_r27 (Z : gM) (t p q : Nat) (hne : p + 31 ≤ t ∨ t + 31 ≤ p) : (gTcp (gTnew Z t 3 3) t p).1 (t + 27) q = if q < 6 then Z.1 (p + 27) q else Z.1 (t + 27) q := by
  rw [gTcp_r27 _ _ _ _ hne]
  by_cases h : q < 6
  · rw [if_pos h, if_pos h, gTnew_far _ _ _ _ _ _ (by omega)]
  · rw [if_neg h, if_neg h, gTnew_r27, if_neg h]
theorem gTnc_r28 (Z : gM) (t p q : Nat) (hne : p + 31 ≤ t ∨ t + 31 ≤ p) : (gTcp (gTnew Z t 3 3) t p).1 (t + 28) q = if q < 6 then Z.1 (p + 28) q else Z.1 (t + 28) q := by
  rw [gTcp_r28 _ _ _ _ hne]
  by_cases h : q < 6
  · rw [if_pos h, if_pos h, gTnew_far _ _ _ _ _ _ (by omega)]
  · rw [if_neg h, if_neg h, gTnew_r28, if_neg h]
theorem gTnc_r29 (Z : gM) (t p q : Nat) (hne : p + 31 ≤ t ∨ t + 31 ≤ p) : (gTcp (gTnew Z t 3 3) t p).1 (t + 29) q = if q < 6 then Z.1 (p + 29) q else Z.1 (t + 29) q := by
  rw [gTcp_r29 _ _ _ _ hne]
  by_cases h : q < 6
  · rw [if_pos h, if_pos h, gTnew_far _ _ _ _ _ _ (by omega)]
  · rw [if_neg h, if_neg h, gTnew_r29, if_neg h]
theorem gTnc_r30 (Z : gM) (t p q : Nat) (hne : p + 31 ≤ t ∨ t + 31 ≤ p) : (gTcp (gTnew Z t 3 3) t p).1 (t + 30) q = if q < 50 then Z.1 (p + 30) q else Z.1 (t + 30) q := by
  rw [gTcp_r30 _ _ _ _ hne]
  by_cases h : q < 50
  · rw [if_pos h, if_pos h, gTnew_far _ _ _ _ _ _ (by omega)]
  · rw [if_neg h, if_neg h, gTnew_r30, if_neg h]
theorem gTnc_r2 (Z : gM) (t p q : Nat) (hne : p + 31 ≤ t ∨ t + 31 ≤ p) (hq : q < 3) : (gTcp (gTnew Z t 3 3) t p).1 (t + 2) q = Z.1 (p + 2) q := by
  rw [gTcp_r2 _ _ _ _ hne, if_pos hq, gTnew_far _ _ _ _ _ _ (by omega)]
theorem gTnc_r0 (Z : gM) (t p : Nat) (hne : p + 31 ≤ t ∨ t + 31 ≤ p) : (gTcp (gTnew Z t 3 3) t p).1 t 4 = Z.1 p 4 := by
  rw [gTcp_r0 _ _ _ _ hne, if_pos rfl, gTnew_far _ _ _ _ _ _ (by omega)]
theorem gTnc_r11 (Z : gM) (t p : Nat) (hne : p + 31 ≤ t ∨ t + 31 ≤ p) : (gTcp (gTnew Z t 3 3) t p).1 (t + 11) 1 = Z.1 (p + 11) 1 := by
  rw [gTcp_r11 _ _ _ _ hne, if_pos rfl, gTnew_far _ _ _ _ _ _ (by omega)]
theorem gTnc_r17 (Z : gM) (t p : Nat) (hne : p + 31 ≤ t ∨ t + 31 ≤ p) : (gTcp (gTnew Z t 3 3) t p).1 (t + 17) 0 = Z.1 (p + 17) 0 := by
  rw [gTcp_r17 _ _ _ _ hne, if_pos rfl, gTnew_far _ _ _ _ _ _ (by omega)]
/-- a field of the class kept: the rows from B on are those of the field that is now -/
def gCopied (m m' : gM) (B : Nat) : Prop := m'.1 B 4 = m.1 1 4 ∧ (∀ q, q < 3 → m'.1 (B + 2) q = m.1 3 q) ∧ m'.1 (B + 11) 1 = m.1 12 1 ∧ m'.1 (B + 17) 0 = m.1 18 0 ∧ (∀ q, m'.1 (B + 3) q = if q < 36 then m.1 4 q else 0) ∧ (∀ q, m'.1 (B + 4) q = if q < 36 then m.1 5 q else 0) ∧ (∀ q, m'.1 (B + 5) q = if q < 36 then m.1 6 q else 0) ∧ (∀ q, m'.1 (B + 6) q = if q < 36 then m.1 7 q else 0) ∧ (∀ q, m'.1 (B + 7) q = if q < 36 then m.1 8 q else 0) ∧ (∀ q, m'.1 (B + 8) q = if q < 36 then m.1 9 q else 0) ∧ (∀ q, m'.1 (B + 9) q = if q < 36 then m.1 10 q else 0) ∧ (∀ q, m'.1 (B + 10) q = if q < 324 then m.1 11 q else 0) ∧ (∀ q, m'.1 (B + 12) q = if q < 8 then m.1 13 q else 0) ∧ (∀ q, m'.1 (B + 13) q = if q < 12 then m.1 14 q else 0) ∧ (∀ q, m'.1 (B + 14) q = if q < 12 then m.1 15 q else 0) ∧ (∀ q, m'.1 (B + 15) q = if q < 12 then m.1 16 q else 0) ∧ (∀ q, m'.1 (B + 16) q = if q < 12 then m.1 17 q else 0) ∧ (∀ q, m'.1 (B + 18) q = if q < 10 then m.1 19 q else 0) ∧ (∀ q, m'.1 (B + 19) q = if q < 10 then m.1 20 q else 0) ∧ (∀ q, m'.1 (B + 20) q = if q < 10 then m.1 21 q else 0) ∧ (∀ q, m'.1 (B + 21) q = if q < 10 then m.1 22 q else 0) ∧ (∀ q, m'.1 (B + 22) q = if q < 10 then m.1 23 q else 0) ∧ (∀ q, m'.1 (B + 23) q = if q < 10 then m.1 24 q else 0) ∧ (∀ q, m'.1 (B + 24) q = if q < 90 then m.1 25 q else 0) ∧ (∀ q, m'.1 (B + 25) q = if q < 500 then m.1 26 q else 0) ∧ (∀ q, m'.1 (B + 27) q = if q < 6 then m.1 28 q else 0) ∧ (∀ q, m'.1 (B + 28) q = if q < 6 then m.1 29 q else 0) ∧ (∀ q, m'.1 (B + 29) q = if q < 6 then m.1 30 q else 0) ∧ (∀ q, m'.1 (B + 30) q = if q < 50 then m.1 31 q else 0)
def gKs (B : Nat) (S S1 : Nat → Option gE) : Prop := ∀ id, id < B → S1 id = S id
theorem gKs.rf {B : Nat} {S : Nat → Option gE} : gKs B S S := fun _ _ => rfl
theorem gKs.sh {B a : Nat} {e : gE} {S S1 : Nat → Option gE} (h : gKs B S S1) (ha : B ≤ a) : gKs B S (gsh S1 a e) := fun id hi => (gsh_ne (by omega)).trans (h id hi)
theorem gHas.lt {S S1 : Nat → Option gE} {a B : Nat} {L : List gE} (h : gHas S a L) (hl : a + L.length ≤ B) (hs : ∀ id, id < B → S1 id = S id) : gHas S1 a L := by
  intro j e hj
  have : j < L.length := by
    rcases Nat.lt_or_ge j L.length with q | q
    · exact q
    · rw [gnth_none L j q] at hj; cases hj
  rw [hs _ (by omega)]
  exact h j e hj
def gTmade (B : Nat) (S : Nat → Option gE) (m : gM) (s1 : gS) : Prop := gR gmi gdf gcd 9 88 [.ref B] (gmkO ((S, B), m) 9) (none, s1) ∧ s1.1.2 = B + 31 ∧ gHas s1.1.1 B (gsh_Town B) ∧ (∀ id, id < B → s1.1.1 id = S id) ∧ ∃ Z : gM, s1.2 = gTnew Z B 3 3 ∧ (∀ id, id < B → Z.1 id = m.1 id) ∧ ∀ id, B ≤ id → id < B + 31 → Z.1 id = fun _ => 0
set_option maxRecDepth 100000 in
set_option maxHeartbeats 8000000 in
theorem town_made_0 {S : Nat → Option gE} {m : gM} : ∃ s1, gTmade 128 S m s1 := by
  apply Exists.intro
  refine ⟨gR_ofy (mx := 1) rfl rfl (Nat.le_of_ble_eq_true rfl) ?_, ?_, ?_, ?_, ?_⟩
  · refine gEy.aload rfl rfl rfl ?_
    refine gEy.init0 rfl rfl rfl rfl ?_
    refine gEy.aload rfl rfl rfl ?_
    refine gEy.new (a := 129) rfl rfl rfl rfl ?_
    refine gEy.dupR rfl rfl ?_
    refine gEy.special rfl rfl rfl rfl rfl ?_
    apply Exists.intro
    refine ⟨gR_ofy (mx := 1) rfl rfl (Nat.le_of_ble_eq_true rfl) ?_, ?_⟩
    · refine gEy.aload rfl rfl rfl ?_
      refine gEy.init0 rfl rfl rfl rfl ?_
      refine gEy.aload rfl rfl rfl ?_
      refine gEy.new (a := 130) rfl rfl rfl rfl ?_
      refine gEy.dupR rfl rfl ?_
      refine gEy.special rfl rfl rfl rfl rfl ?_
      apply Exists.intro
      refine ⟨gR_ofy (mx := 1) rfl rfl (Nat.le_of_ble_eq_true rfl) ?_, ?_⟩
      · refine gEy.aload rfl rfl rfl ?_
        refine gEy.init0 rfl rfl rfl rfl ?_
        refine gEy.aload rfl rfl rfl ?_
        refine gEy.iconst rfl rfl ?_
        refine gEy.newI (n := 36) (a := 131) rfl rfl rfl rfl rfl ?_
        refine gEy.putR rfl rfl rfl rfl rfl ?_
        refine gEy.aload rfl rfl rfl ?_
        refine gEy.iconst rfl rfl ?_
        refine gEy.newI (n := 36) (a := 132) rfl rfl rfl rfl rfl ?_
        refine gEy.putR rfl rfl rfl rfl rfl ?_
        refine gEy.aload rfl rfl rfl ?_
        refine gEy.iconst rfl rfl ?_
        refine gEy.newI (n := 36) (a := 133) rfl rfl rfl rfl rfl ?_
        refine gEy.putR rfl rfl rfl rfl rfl ?_
        refine gEy.aload rfl rfl rfl ?_
        refine gEy.iconst rfl rfl ?_
        refine gEy.newI (n := 36) (a := 134) rfl rfl rfl rfl rfl ?_
        refine gEy.putR rfl rfl rfl rfl rfl ?_
        refine gEy.aload rfl rfl rfl ?_
        refine gEy.iconst rfl rfl ?_
        refine gEy.newI (n := 36) (a := 135) rfl rfl rfl rfl rfl ?_
        refine gEy.putR rfl rfl rfl rfl rfl ?_
        refine gEy.aload rfl rfl rfl ?_
        refine gEy.iconst rfl rfl ?_
        refine gEy.newI (n := 36) (a := 136) rfl rfl rfl rfl rfl ?_
        refine gEy.putR rfl rfl rfl rfl rfl ?_
        exact gEy.retv rfl rfl
      refine gEy.putR rfl rfl rfl rfl rfl ?_
      refine gEy.aload rfl rfl rfl ?_
      refine gEy.iconst rfl rfl ?_
      refine gEy.newI (n := 36) (a := 137) rfl rfl rfl rfl rfl ?_
      refine gEy.putR rfl rfl rfl rfl rfl ?_
      refine gEy.aload rfl rfl rfl ?_
      refine gEy.iconst rfl rfl ?_
      refine gEy.newI (n := 324) (a := 138) rfl rfl rfl rfl rfl ?_
      refine gEy.putR rfl rfl rfl rfl rfl ?_
      exact gEy.retv rfl rfl
    refine gEy.putR rfl rfl rfl rfl rfl ?_
    refine gEy.aload rfl rfl rfl ?_
    refine gEy.new (a := 139) rfl rfl rfl rfl ?_
    refine gEy.dupR rfl rfl ?_
    refine gEy.special rfl rfl rfl rfl rfl ?_
    apply Exists.intro
    refine ⟨gR_ofy (mx := 1) rfl rfl (Nat.le_of_ble_eq_true rfl) ?_, ?_⟩
    · refine gEy.aload rfl rfl rfl ?_
      refine gEy.init0 rfl rfl rfl rfl ?_
      refine gEy.aload rfl rfl rfl ?_
      refine gEy.iconst rfl rfl ?_
      refine gEy.newI (n := 8) (a := 140) rfl rfl rfl rfl rfl ?_
      refine gEy.putR rfl rfl rfl rfl rfl ?_
      refine gEy.aload rfl rfl rfl ?_
      refine gEy.iconst rfl rfl ?_
      refine gEy.newI (n := 12) (a := 141) rfl rfl rfl rfl rfl ?_
      refine gEy.putR rfl rfl rfl rfl rfl ?_
      refine gEy.aload rfl rfl rfl ?_
      refine gEy.iconst rfl rfl ?_
      refine gEy.newI (n := 12) (a := 142) rfl rfl rfl rfl rfl ?_
      refine gEy.putR rfl rfl rfl rfl rfl ?_
      refine gEy.aload rfl rfl rfl ?_
      refine gEy.iconst rfl rfl ?_
      refine gEy.newI (n := 12) (a := 143) rfl rfl rfl rfl rfl ?_
      refine gEy.putR rfl rfl rfl rfl rfl ?_
      refine gEy.aload rfl rfl rfl ?_
      refine gEy.iconst rfl rfl ?_
      refine gEy.newI (n := 12) (a := 144) rfl rfl rfl rfl rfl ?_
      refine gEy.putR rfl rfl rfl rfl rfl ?_
      exact gEy.retv rfl rfl
    refine gEy.putR rfl rfl rfl rfl rfl ?_
    refine gEy.aload rfl rfl rfl ?_
    refine gEy.new (a := 145) rfl rfl rfl rfl ?_
    refine gEy.dupR rfl rfl ?_
    refine gEy.special rfl rfl rfl rfl rfl ?_
    apply Exists.intro
    refine ⟨gR_ofy (mx := 1) rfl rfl (Nat.le_of_ble_eq_true rfl) ?_, ?_⟩
    · refine gEy.aload rfl rfl rfl ?_
      refine gEy.init0 rfl rfl rfl rfl ?_
      refine gEy.aload rfl rfl rfl ?_
      refine gEy.iconst rfl rfl ?_
      refine gEy.newI (n := 10) (a := 146) rfl rfl rfl rfl rfl ?_
      refine gEy.putR rfl rfl rfl rfl rfl ?_
      refine gEy.aload rfl rfl rfl ?_
      refine gEy.iconst rfl rfl ?_
      refine gEy.newI (n := 10) (a := 147) rfl rfl rfl rfl rfl ?_
      refine gEy.putR rfl rfl rfl rfl rfl ?_
      refine gEy.aload rfl rfl rfl ?_
      refine gEy.iconst rfl rfl ?_
      refine gEy.newI (n := 10) (a := 148) rfl rfl rfl rfl rfl ?_
      refine gEy.putR rfl rfl rfl rfl rfl ?_
      refine gEy.aload rfl rfl rfl ?_
      refine gEy.iconst rfl rfl ?_
      refine gEy.newZ (n := 10) (a := 149) rfl rfl rfl rfl rfl ?_
      refine gEy.putR rfl rfl rfl rfl rfl ?_
      refine gEy.aload rfl rfl rfl ?_
      refine gEy.iconst rfl rfl ?_
      refine gEy.newI (n := 10) (a := 150) rfl rfl rfl rfl rfl ?_
      refine gEy.putR rfl rfl rfl rfl rfl ?_
      refine gEy.aload rfl rfl rfl ?_
      refine gEy.iconst rfl rfl ?_
      refine gEy.newI (n := 10) (a := 151) rfl rfl rfl rfl rfl ?_
      refine gEy.putR rfl rfl rfl rfl rfl ?_
      refine gEy.aload rfl rfl rfl ?_
      refine gEy.iconst rfl rfl ?_
      refine gEy.newI (n := 90) (a := 152) rfl rfl rfl rfl rfl ?_
      refine gEy.putR rfl rfl rfl rfl rfl ?_
      refine gEy.aload rfl rfl rfl ?_
      refine gEy.iconst rfl rfl ?_
      refine gEy.newI (n := 500) (a := 153) rfl rfl rfl rfl rfl ?_
      refine gEy.putR rfl rfl rfl rfl rfl ?_
      exact gEy.retv rfl rfl
    refine gEy.putR rfl rfl rfl rfl rfl ?_
    refine gEy.aload rfl rfl rfl ?_
    refine gEy.new (a := 154) rfl rfl rfl rfl ?_
    refine gEy.dupR rfl rfl ?_
    refine gEy.special rfl rfl rfl rfl rfl ?_
    apply Exists.intro
    refine ⟨gR_ofy (mx := 1) rfl rfl (Nat.le_of_ble_eq_true rfl) ?_, ?_⟩
    · refine gEy.aload rfl rfl rfl ?_
      refine gEy.init0 rfl rfl rfl rfl ?_
      refine gEy.aload rfl rfl rfl ?_
      refine gEy.iconst rfl rfl ?_
      refine gEy.newI (n := 6) (a := 155) rfl rfl rfl rfl rfl ?_
      refine gEy.putR rfl rfl rfl rfl rfl ?_
      refine gEy.aload rfl rfl rfl ?_
      refine gEy.iconst rfl rfl ?_
      refine gEy.newI (n := 6) (a := 156) rfl rfl rfl rfl rfl ?_
      refine gEy.putR rfl rfl rfl rfl rfl ?_
      refine gEy.aload rfl rfl rfl ?_
      refine gEy.iconst rfl rfl ?_
      refine gEy.newI (n := 6) (a := 157) rfl rfl rfl rfl rfl ?_
      refine gEy.putR rfl rfl rfl rfl rfl ?_
      refine gEy.aload rfl rfl rfl ?_
      refine gEy.iconst rfl rfl ?_
      refine gEy.newI (n := 50) (a := 158) rfl rfl rfl rfl rfl ?_
      refine gEy.putR rfl rfl rfl rfl rfl ?_
      exact gEy.retv rfl rfl
    refine gEy.putR rfl rfl rfl rfl rfl ?_
    refine gEy.aload rfl rfl rfl ?_
    refine gEy.iconst rfl rfl ?_
    refine gEy.iconst rfl rfl ?_
    refine gEy.callV rfl rfl rfl rfl rfl rfl (t_Town_becomeNew (by decide) ?_ _ (town_new (w := 3) (h := 3) (by decide) (by decide) _)) ?_
    · exact (gHas.cons rfl (gHas.cons rfl (gHas.cons rfl (gHas.cons rfl (gHas.cons rfl (gHas.cons rfl (gHas.cons rfl (gHas.cons rfl (gHas.cons rfl (gHas.cons rfl (gHas.cons rfl (gHas.cons rfl (gHas.cons rfl (gHas.cons rfl (gHas.cons rfl (gHas.cons rfl (gHas.cons rfl (gHas.cons rfl (gHas.cons rfl (gHas.cons rfl (gHas.cons rfl (gHas.cons rfl (gHas.cons rfl (gHas.cons rfl (gHas.cons rfl (gHas.cons rfl (gHas.cons rfl (gHas.cons rfl (gHas.cons rfl (gHas.cons rfl (gHas.cons rfl gHas.nil)))))))))))))))))))))))))))))))
    exact gEy.retv rfl rfl
  · rfl
  · exact (gHas.cons rfl (gHas.cons rfl (gHas.cons rfl (gHas.cons rfl (gHas.cons rfl (gHas.cons rfl (gHas.cons rfl (gHas.cons rfl (gHas.cons rfl (gHas.cons rfl (gHas.cons rfl (gHas.cons rfl (gHas.cons rfl (gHas.cons rfl (gHas.cons rfl (gHas.cons rfl (gHas.cons rfl (gHas.cons rfl (gHas.cons rfl (gHas.cons rfl (gHas.cons rfl (gHas.cons rfl (gHas.cons rfl (gHas.cons rfl (gHas.cons rfl (gHas.cons rfl (gHas.cons rfl (gHas.cons rfl (gHas.cons rfl (gHas.cons rfl (gHas.cons rfl gHas.nil)))))))))))))))))))))))))))))))
  · intro id hid
    exact (by
      repeat first
        | exact gKs.rf
        | refine gKs.sh ?_ (Nat.le_of_ble_eq_true rfl) : gKs 128 S _) id hid
  · refine ⟨_, rfl, ?_, ?_⟩
    · intro id hid
      exact (by
      repeat first
        | exact gKp.rf
        | refine gKp.setS ?_ (Nat.le_of_ble_eq_true rfl)
        | refine gKp.setN ?_ (Nat.le_of_ble_eq_true rfl)
        | refine gKp.mkI ?_ (Nat.le_of_ble_eq_true rfl)
        | refine gKp.mkO ?_ (Nat.le_of_ble_eq_true rfl) : gKp 128 ((S, 128), m) _).2.1 id hid
    · intro id h1 h2
      obtain ⟨j, rfl⟩ : ∃ j, id = 128 + j := ⟨id - 128, by omega⟩
      match j, (show j < 31 by omega) with
      | 0, _ => rfl
      | 1, _ => rfl
      | 2, _ => rfl
      | 3, _ => rfl
      | 4, _ => rfl
      | 5, _ => rfl
      | 6, _ => rfl
      | 7, _ => rfl
      | 8, _ => rfl
      | 9, _ => rfl
      | 10, _ => rfl
      | 11, _ => rfl
      | 12, _ => rfl
      | 13, _ => rfl
      | 14, _ => rfl
      | 15, _ => rfl
      | 16, _ => rfl
      | 17, _ => rfl
      | 18, _ => rfl
      | 19, _ => rfl
      | 20, _ => rfl
      | 21, _ => rfl
      | 22, _ => rfl
      | 23, _ => rfl
      | 24, _ => rfl
      | 25, _ => rfl
      | 26, _ => rfl
      | 27, _ => rfl
      | 28, _ => rfl
      | 29, _ => rfl
      | 30, _ => rfl
      | j + 31, h => exact absurd h (by omega)
set_option maxRecDepth 100000 in
set_option maxHeartbeats 8000000 in
theorem town_made_1 {S : Nat → Option gE} {m : gM} : ∃ s1, gTmade 159 S m s1 := by
  apply Exists.intro
  refine ⟨gR_ofy (mx := 1) rfl rfl (Nat.le_of_ble_eq_true rfl) ?_, ?_, ?_, ?_, ?_⟩
  · refine gEy.aload rfl rfl rfl ?_
    refine gEy.init0 rfl rfl rfl rfl ?_
    refine gEy.aload rfl rfl rfl ?_
    refine gEy.new (a := 160) rfl rfl rfl rfl ?_
    refine gEy.dupR rfl rfl ?_
    refine gEy.special rfl rfl rfl rfl rfl ?_
    apply Exists.intro
    refine ⟨gR_ofy (mx := 1) rfl rfl (Nat.le_of_ble_eq_true rfl) ?_, ?_⟩
    · refine gEy.aload rfl rfl rfl ?_
      refine gEy.init0 rfl rfl rfl rfl ?_
      refine gEy.aload rfl rfl rfl ?_
      refine gEy.new (a := 161) rfl rfl rfl rfl ?_
      refine gEy.dupR rfl rfl ?_
      refine gEy.special rfl rfl rfl rfl rfl ?_
      apply Exists.intro
      refine ⟨gR_ofy (mx := 1) rfl rfl (Nat.le_of_ble_eq_true rfl) ?_, ?_⟩
      · refine gEy.aload rfl rfl rfl ?_
        refine gEy.init0 rfl rfl rfl rfl ?_
        refine gEy.aload rfl rfl rfl ?_
        refine gEy.iconst rfl rfl ?_
        refine gEy.newI (n := 36) (a := 162) rfl rfl rfl rfl rfl ?_
        refine gEy.putR rfl rfl rfl rfl rfl ?_
        refine gEy.aload rfl rfl rfl ?_
        refine gEy.iconst rfl rfl ?_
        refine gEy.newI (n := 36) (a := 163) rfl rfl rfl rfl rfl ?_
        refine gEy.putR rfl rfl rfl rfl rfl ?_
        refine gEy.aload rfl rfl rfl ?_
        refine gEy.iconst rfl rfl ?_
        refine gEy.newI (n := 36) (a := 164) rfl rfl rfl rfl rfl ?_
        refine gEy.putR rfl rfl rfl rfl rfl ?_
        refine gEy.aload rfl rfl rfl ?_
        refine gEy.iconst rfl rfl ?_
        refine gEy.newI (n := 36) (a := 165) rfl rfl rfl rfl rfl ?_
        refine gEy.putR rfl rfl rfl rfl rfl ?_
        refine gEy.aload rfl rfl rfl ?_
        refine gEy.iconst rfl rfl ?_
        refine gEy.newI (n := 36) (a := 166) rfl rfl rfl rfl rfl ?_
        refine gEy.putR rfl rfl rfl rfl rfl ?_
        refine gEy.aload rfl rfl rfl ?_
        refine gEy.iconst rfl rfl ?_
        refine gEy.newI (n := 36) (a := 167) rfl rfl rfl rfl rfl ?_
        refine gEy.putR rfl rfl rfl rfl rfl ?_
        exact gEy.retv rfl rfl
      refine gEy.putR rfl rfl rfl rfl rfl ?_
      refine gEy.aload rfl rfl rfl ?_
      refine gEy.iconst rfl rfl ?_
      refine gEy.newI (n := 36) (a := 168) rfl rfl rfl rfl rfl ?_
      refine gEy.putR rfl rfl rfl rfl rfl ?_
      refine gEy.aload rfl rfl rfl ?_
      refine gEy.iconst rfl rfl ?_
      refine gEy.newI (n := 324) (a := 169) rfl rfl rfl rfl rfl ?_
      refine gEy.putR rfl rfl rfl rfl rfl ?_
      exact gEy.retv rfl rfl
    refine gEy.putR rfl rfl rfl rfl rfl ?_
    refine gEy.aload rfl rfl rfl ?_
    refine gEy.new (a := 170) rfl rfl rfl rfl ?_
    refine gEy.dupR rfl rfl ?_
    refine gEy.special rfl rfl rfl rfl rfl ?_
    apply Exists.intro
    refine ⟨gR_ofy (mx := 1) rfl rfl (Nat.le_of_ble_eq_true rfl) ?_, ?_⟩
    · refine gEy.aload rfl rfl rfl ?_
      refine gEy.init0 rfl rfl rfl rfl ?_
      refine gEy.aload rfl rfl rfl ?_
      refine gEy.iconst rfl rfl ?_
      refine gEy.newI (n := 8) (a := 171) rfl rfl rfl rfl rfl ?_
      refine gEy.putR rfl rfl rfl rfl rfl ?_
      refine gEy.aload rfl rfl rfl ?_
      refine gEy.iconst rfl rfl ?_
      refine gEy.newI (n := 12) (a := 172) rfl rfl rfl rfl rfl ?_
      refine gEy.putR rfl rfl rfl rfl rfl ?_
      refine gEy.aload rfl rfl rfl ?_
      refine gEy.iconst rfl rfl ?_
      refine gEy.newI (n := 12) (a := 173) rfl rfl rfl rfl rfl ?_
      refine gEy.putR rfl rfl rfl rfl rfl ?_
      refine gEy.aload rfl rfl rfl ?_
      refine gEy.iconst rfl rfl ?_
      refine gEy.newI (n := 12) (a := 174) rfl rfl rfl rfl rfl ?_
      refine gEy.putR rfl rfl rfl rfl rfl ?_
      refine gEy.aload rfl rfl rfl ?_
      refine gEy.iconst rfl rfl ?_
      refine gEy.newI (n := 12) (a := 175) rfl rfl rfl rfl rfl ?_
      refine gEy.putR rfl rfl rfl rfl rfl ?_
      exact gEy.retv rfl rfl
    refine gEy.putR rfl rfl rfl rfl rfl ?_
    refine gEy.aload rfl rfl rfl ?_
    refine gEy.new (a := 176) rfl rfl rfl rfl ?_
    refine gEy.dupR rfl rfl ?_
    refine gEy.special rfl rfl rfl rfl rfl ?_
    apply Exists.intro
    refine ⟨gR_ofy (mx := 1) rfl rfl (Nat.le_of_ble_eq_true rfl) ?_, ?_⟩
    · refine gEy.aload rfl rfl rfl ?_
      refine gEy.init0 rfl rfl rfl rfl ?_
      refine gEy.aload rfl rfl rfl ?_
      refine gEy.iconst rfl rfl ?_
      refine gEy.newI (n := 10) (a := 177) rfl rfl rfl rfl rfl ?_
      refine gEy.putR rfl rfl rfl rfl rfl ?_
      refine gEy.aload rfl rfl rfl ?_
      refine gEy.iconst rfl rfl ?_
      refine gEy.newI (n := 10) (a := 178) rfl rfl rfl rfl rfl ?_
      refine gEy.putR rfl rfl rfl rfl rfl ?_
      refine gEy.aload rfl rfl rfl ?_
      refine gEy.iconst rfl rfl ?_
      refine gEy.newI (n := 10) (a := 179) rfl rfl rfl rfl rfl ?_
      refine gEy.putR rfl rfl rfl rfl rfl ?_
      refine gEy.aload rfl rfl rfl ?_
      refine gEy.iconst rfl rfl ?_
      refine gEy.newZ (n := 10) (a := 180) rfl rfl rfl rfl rfl ?_
      refine gEy.putR rfl rfl rfl rfl rfl ?_
      refine gEy.aload rfl rfl rfl ?_
      refine gEy.iconst rfl rfl ?_
      refine gEy.newI (n := 10) (a := 181) rfl rfl rfl rfl rfl ?_
      refine gEy.putR rfl rfl rfl rfl rfl ?_
      refine gEy.aload rfl rfl rfl ?_
      refine gEy.iconst rfl rfl ?_
      refine gEy.newI (n := 10) (a := 182) rfl rfl rfl rfl rfl ?_
      refine gEy.putR rfl rfl rfl rfl rfl ?_
      refine gEy.aload rfl rfl rfl ?_
      refine gEy.iconst rfl rfl ?_
      refine gEy.newI (n := 90) (a := 183) rfl rfl rfl rfl rfl ?_
      refine gEy.putR rfl rfl rfl rfl rfl ?_
      refine gEy.aload rfl rfl rfl ?_
      refine gEy.iconst rfl rfl ?_
      refine gEy.newI (n := 500) (a := 184) rfl rfl rfl rfl rfl ?_
      refine gEy.putR rfl rfl rfl rfl rfl ?_
      exact gEy.retv rfl rfl
    refine gEy.putR rfl rfl rfl rfl rfl ?_
    refine gEy.aload rfl rfl rfl ?_
    refine gEy.new (a := 185) rfl rfl rfl rfl ?_
    refine gEy.dupR rfl rfl ?_
    refine gEy.special rfl rfl rfl rfl rfl ?_
    apply Exists.intro
    refine ⟨gR_ofy (mx := 1) rfl rfl (Nat.le_of_ble_eq_true rfl) ?_, ?_⟩
    · refine gEy.aload rfl rfl rfl ?_
      refine gEy.init0 rfl rfl rfl rfl ?_
      refine gEy.aload rfl rfl rfl ?_
      refine gEy.iconst rfl rfl ?_
      refine gEy.newI (n := 6) (a := 186) rfl rfl rfl rfl rfl ?_
      refine gEy.putR rfl rfl rfl rfl rfl ?_
      refine gEy.aload rfl rfl rfl ?_
      refine gEy.iconst rfl rfl ?_
      refine gEy.newI (n := 6) (a := 187) rfl rfl rfl rfl rfl ?_
      refine gEy.putR rfl rfl rfl rfl rfl ?_
      refine gEy.aload rfl rfl rfl ?_
      refine gEy.iconst rfl rfl ?_
      refine gEy.newI (n := 6) (a := 188) rfl rfl rfl rfl rfl ?_
      refine gEy.putR rfl rfl rfl rfl rfl ?_
      refine gEy.aload rfl rfl rfl ?_
      refine gEy.iconst rfl rfl ?_
      refine gEy.newI (n := 50) (a := 189) rfl rfl rfl rfl rfl ?_
      refine gEy.putR rfl rfl rfl rfl rfl ?_
      exact gEy.retv rfl rfl
    refine gEy.putR rfl rfl rfl rfl rfl ?_
    refine gEy.aload rfl rfl rfl ?_
    refine gEy.iconst rfl rfl ?_
    refine gEy.iconst rfl rfl ?_
    refine gEy.callV rfl rfl rfl rfl rfl rfl (t_Town_becomeNew (by decide) ?_ _ (town_new (w := 3) (h := 3) (by decide) (by decide) _)) ?_
    · exact (gHas.cons rfl (gHas.cons rfl (gHas.cons rfl (gHas.cons rfl (gHas.cons rfl (gHas.cons rfl (gHas.cons rfl (gHas.cons rfl (gHas.cons rfl (gHas.cons rfl (gHas.cons rfl (gHas.cons rfl (gHas.cons rfl (gHas.cons rfl (gHas.cons rfl (gHas.cons rfl (gHas.cons rfl (gHas.cons rfl (gHas.cons rfl (gHas.cons rfl (gHas.cons rfl (gHas.cons rfl (gHas.cons rfl (gHas.cons rfl (gHas.cons rfl (gHas.cons rfl (gHas.cons rfl (gHas.cons rfl (gHas.cons rfl (gHas.cons rfl (gHas.cons rfl gHas.nil)))))))))))))))))))))))))))))))
    exact gEy.retv rfl rfl
  · rfl
  · exact (gHas.cons rfl (gHas.cons rfl (gHas.cons rfl (gHas.cons rfl (gHas.cons rfl (gHas.cons rfl (gHas.cons rfl (gHas.cons rfl (gHas.cons rfl (gHas.cons rfl (gHas.cons rfl (gHas.cons rfl (gHas.cons rfl (gHas.cons rfl (gHas.cons rfl (gHas.cons rfl (gHas.cons rfl (gHas.cons rfl (gHas.cons rfl (gHas.cons rfl (gHas.cons rfl (gHas.cons rfl (gHas.cons rfl (gHas.cons rfl (gHas.cons rfl (gHas.cons rfl (gHas.cons rfl (gHas.cons rfl (gHas.cons rfl (gHas.cons rfl (gHas.cons rfl gHas.nil)))))))))))))))))))))))))))))))
  · intro id hid
    exact (by
      repeat first
        | exact gKs.rf
        | refine gKs.sh ?_ (Nat.le_of_ble_eq_true rfl) : gKs 159 S _) id hid
  · refine ⟨_, rfl, ?_, ?_⟩
    · intro id hid
      exact (by
      repeat first
        | exact gKp.rf
        | refine gKp.setS ?_ (Nat.le_of_ble_eq_true rfl)
        | refine gKp.setN ?_ (Nat.le_of_ble_eq_true rfl)
        | refine gKp.mkI ?_ (Nat.le_of_ble_eq_true rfl)
        | refine gKp.mkO ?_ (Nat.le_of_ble_eq_true rfl) : gKp 159 ((S, 159), m) _).2.1 id hid
    · intro id h1 h2
      obtain ⟨j, rfl⟩ : ∃ j, id = 159 + j := ⟨id - 159, by omega⟩
      match j, (show j < 31 by omega) with
      | 0, _ => rfl
      | 1, _ => rfl
      | 2, _ => rfl
      | 3, _ => rfl
      | 4, _ => rfl
      | 5, _ => rfl
      | 6, _ => rfl
      | 7, _ => rfl
      | 8, _ => rfl
      | 9, _ => rfl
      | 10, _ => rfl
      | 11, _ => rfl
      | 12, _ => rfl
      | 13, _ => rfl
      | 14, _ => rfl
      | 15, _ => rfl
      | 16, _ => rfl
      | 17, _ => rfl
      | 18, _ => rfl
      | 19, _ => rfl
      | 20, _ => rfl
      | 21, _ => rfl
      | 22, _ => rfl
      | 23, _ => rfl
      | 24, _ => rfl
      | 25, _ => rfl
      | 26, _ => rfl
      | 27, _ => rfl
      | 28, _ => rfl
      | 29, _ => rfl
      | 30, _ => rfl
      | j + 31, h => exact absurd h (by omega)
set_option maxRecDepth 100000 in
set_option maxHeartbeats 8000000 in
theorem town_made_2 {S : Nat → Option gE} {m : gM} : ∃ s1, gTmade 190 S m s1 := by
  apply Exists.intro
  refine ⟨gR_ofy (mx := 1) rfl rfl (Nat.le_of_ble_eq_true rfl) ?_, ?_, ?_, ?_, ?_⟩
  · refine gEy.aload rfl rfl rfl ?_
    refine gEy.init0 rfl rfl rfl rfl ?_
    refine gEy.aload rfl rfl rfl ?_
    refine gEy.new (a := 191) rfl rfl rfl rfl ?_
    refine gEy.dupR rfl rfl ?_
    refine gEy.special rfl rfl rfl rfl rfl ?_
    apply Exists.intro
    refine ⟨gR_ofy (mx := 1) rfl rfl (Nat.le_of_ble_eq_true rfl) ?_, ?_⟩
    · refine gEy.aload rfl rfl rfl ?_
      refine gEy.init0 rfl rfl rfl rfl ?_
      refine gEy.aload rfl rfl rfl ?_
      refine gEy.new (a := 192) rfl rfl rfl rfl ?_
      refine gEy.dupR rfl rfl ?_
      refine gEy.special rfl rfl rfl rfl rfl ?_
      apply Exists.intro
      refine ⟨gR_ofy (mx := 1) rfl rfl (Nat.le_of_ble_eq_true rfl) ?_, ?_⟩
      · refine gEy.aload rfl rfl rfl ?_
        refine gEy.init0 rfl rfl rfl rfl ?_
        refine gEy.aload rfl rfl rfl ?_
        refine gEy.iconst rfl rfl ?_
        refine gEy.newI (n := 36) (a := 193) rfl rfl rfl rfl rfl ?_
        refine gEy.putR rfl rfl rfl rfl rfl ?_
        refine gEy.aload rfl rfl rfl ?_
        refine gEy.iconst rfl rfl ?_
        refine gEy.newI (n := 36) (a := 194) rfl rfl rfl rfl rfl ?_
        refine gEy.putR rfl rfl rfl rfl rfl ?_
        refine gEy.aload rfl rfl rfl ?_
        refine gEy.iconst rfl rfl ?_
        refine gEy.newI (n := 36) (a := 195) rfl rfl rfl rfl rfl ?_
        refine gEy.putR rfl rfl rfl rfl rfl ?_
        refine gEy.aload rfl rfl rfl ?_
        refine gEy.iconst rfl rfl ?_
        refine gEy.newI (n := 36) (a := 196) rfl rfl rfl rfl rfl ?_
        refine gEy.putR rfl rfl rfl rfl rfl ?_
        refine gEy.aload rfl rfl rfl ?_
        refine gEy.iconst rfl rfl ?_
        refine gEy.newI (n := 36) (a := 197) rfl rfl rfl rfl rfl ?_
        refine gEy.putR rfl rfl rfl rfl rfl ?_
        refine gEy.aload rfl rfl rfl ?_
        refine gEy.iconst rfl rfl ?_
        refine gEy.newI (n := 36) (a := 198) rfl rfl rfl rfl rfl ?_
        refine gEy.putR rfl rfl rfl rfl rfl ?_
        exact gEy.retv rfl rfl
      refine gEy.putR rfl rfl rfl rfl rfl ?_
      refine gEy.aload rfl rfl rfl ?_
      refine gEy.iconst rfl rfl ?_
      refine gEy.newI (n := 36) (a := 199) rfl rfl rfl rfl rfl ?_
      refine gEy.putR rfl rfl rfl rfl rfl ?_
      refine gEy.aload rfl rfl rfl ?_
      refine gEy.iconst rfl rfl ?_
      refine gEy.newI (n := 324) (a := 200) rfl rfl rfl rfl rfl ?_
      refine gEy.putR rfl rfl rfl rfl rfl ?_
      exact gEy.retv rfl rfl
    refine gEy.putR rfl rfl rfl rfl rfl ?_
    refine gEy.aload rfl rfl rfl ?_
    refine gEy.new (a := 201) rfl rfl rfl rfl ?_
    refine gEy.dupR rfl rfl ?_
    refine gEy.special rfl rfl rfl rfl rfl ?_
    apply Exists.intro
    refine ⟨gR_ofy (mx := 1) rfl rfl (Nat.le_of_ble_eq_true rfl) ?_, ?_⟩
    · refine gEy.aload rfl rfl rfl ?_
      refine gEy.init0 rfl rfl rfl rfl ?_
      refine gEy.aload rfl rfl rfl ?_
      refine gEy.iconst rfl rfl ?_
      refine gEy.newI (n := 8) (a := 202) rfl rfl rfl rfl rfl ?_
      refine gEy.putR rfl rfl rfl rfl rfl ?_
      refine gEy.aload rfl rfl rfl ?_
      refine gEy.iconst rfl rfl ?_
      refine gEy.newI (n := 12) (a := 203) rfl rfl rfl rfl rfl ?_
      refine gEy.putR rfl rfl rfl rfl rfl ?_
      refine gEy.aload rfl rfl rfl ?_
      refine gEy.iconst rfl rfl ?_
      refine gEy.newI (n := 12) (a := 204) rfl rfl rfl rfl rfl ?_
      refine gEy.putR rfl rfl rfl rfl rfl ?_
      refine gEy.aload rfl rfl rfl ?_
      refine gEy.iconst rfl rfl ?_
      refine gEy.newI (n := 12) (a := 205) rfl rfl rfl rfl rfl ?_
      refine gEy.putR rfl rfl rfl rfl rfl ?_
      refine gEy.aload rfl rfl rfl ?_
      refine gEy.iconst rfl rfl ?_
      refine gEy.newI (n := 12) (a := 206) rfl rfl rfl rfl rfl ?_
      refine gEy.putR rfl rfl rfl rfl rfl ?_
      exact gEy.retv rfl rfl
    refine gEy.putR rfl rfl rfl rfl rfl ?_
    refine gEy.aload rfl rfl rfl ?_
    refine gEy.new (a := 207) rfl rfl rfl rfl ?_
    refine gEy.dupR rfl rfl ?_
    refine gEy.special rfl rfl rfl rfl rfl ?_
    apply Exists.intro
    refine ⟨gR_ofy (mx := 1) rfl rfl (Nat.le_of_ble_eq_true rfl) ?_, ?_⟩
    · refine gEy.aload rfl rfl rfl ?_
      refine gEy.init0 rfl rfl rfl rfl ?_
      refine gEy.aload rfl rfl rfl ?_
      refine gEy.iconst rfl rfl ?_
      refine gEy.newI (n := 10) (a := 208) rfl rfl rfl rfl rfl ?_
      refine gEy.putR rfl rfl rfl rfl rfl ?_
      refine gEy.aload rfl rfl rfl ?_
      refine gEy.iconst rfl rfl ?_
      refine gEy.newI (n := 10) (a := 209) rfl rfl rfl rfl rfl ?_
      refine gEy.putR rfl rfl rfl rfl rfl ?_
      refine gEy.aload rfl rfl rfl ?_
      refine gEy.iconst rfl rfl ?_
      refine gEy.newI (n := 10) (a := 210) rfl rfl rfl rfl rfl ?_
      refine gEy.putR rfl rfl rfl rfl rfl ?_
      refine gEy.aload rfl rfl rfl ?_
      refine gEy.iconst rfl rfl ?_
      refine gEy.newZ (n := 10) (a := 211) rfl rfl rfl rfl rfl ?_
      refine gEy.putR rfl rfl rfl rfl rfl ?_
      refine gEy.aload rfl rfl rfl ?_
      refine gEy.iconst rfl rfl ?_
      refine gEy.newI (n := 10) (a := 212) rfl rfl rfl rfl rfl ?_
      refine gEy.putR rfl rfl rfl rfl rfl ?_
      refine gEy.aload rfl rfl rfl ?_
      refine gEy.iconst rfl rfl ?_
      refine gEy.newI (n := 10) (a := 213) rfl rfl rfl rfl rfl ?_
      refine gEy.putR rfl rfl rfl rfl rfl ?_
      refine gEy.aload rfl rfl rfl ?_
      refine gEy.iconst rfl rfl ?_
      refine gEy.newI (n := 90) (a := 214) rfl rfl rfl rfl rfl ?_
      refine gEy.putR rfl rfl rfl rfl rfl ?_
      refine gEy.aload rfl rfl rfl ?_
      refine gEy.iconst rfl rfl ?_
      refine gEy.newI (n := 500) (a := 215) rfl rfl rfl rfl rfl ?_
      refine gEy.putR rfl rfl rfl rfl rfl ?_
      exact gEy.retv rfl rfl
    refine gEy.putR rfl rfl rfl rfl rfl ?_
    refine gEy.aload rfl rfl rfl ?_
    refine gEy.new (a := 216) rfl rfl rfl rfl ?_
    refine gEy.dupR rfl rfl ?_
    refine gEy.special rfl rfl rfl rfl rfl ?_
    apply Exists.intro
    refine ⟨gR_ofy (mx := 1) rfl rfl (Nat.le_of_ble_eq_true rfl) ?_, ?_⟩
    · refine gEy.aload rfl rfl rfl ?_
      refine gEy.init0 rfl rfl rfl rfl ?_
      refine gEy.aload rfl rfl rfl ?_
      refine gEy.iconst rfl rfl ?_
      refine gEy.newI (n := 6) (a := 217) rfl rfl rfl rfl rfl ?_
      refine gEy.putR rfl rfl rfl rfl rfl ?_
      refine gEy.aload rfl rfl rfl ?_
      refine gEy.iconst rfl rfl ?_
      refine gEy.newI (n := 6) (a := 218) rfl rfl rfl rfl rfl ?_
      refine gEy.putR rfl rfl rfl rfl rfl ?_
      refine gEy.aload rfl rfl rfl ?_
      refine gEy.iconst rfl rfl ?_
      refine gEy.newI (n := 6) (a := 219) rfl rfl rfl rfl rfl ?_
      refine gEy.putR rfl rfl rfl rfl rfl ?_
      refine gEy.aload rfl rfl rfl ?_
      refine gEy.iconst rfl rfl ?_
      refine gEy.newI (n := 50) (a := 220) rfl rfl rfl rfl rfl ?_
      refine gEy.putR rfl rfl rfl rfl rfl ?_
      exact gEy.retv rfl rfl
    refine gEy.putR rfl rfl rfl rfl rfl ?_
    refine gEy.aload rfl rfl rfl ?_
    refine gEy.iconst rfl rfl ?_
    refine gEy.iconst rfl rfl ?_
    refine gEy.callV rfl rfl rfl rfl rfl rfl (t_Town_becomeNew (by decide) ?_ _ (town_new (w := 3) (h := 3) (by decide) (by decide) _)) ?_
    · exact (gHas.cons rfl (gHas.cons rfl (gHas.cons rfl (gHas.cons rfl (gHas.cons rfl (gHas.cons rfl (gHas.cons rfl (gHas.cons rfl (gHas.cons rfl (gHas.cons rfl (gHas.cons rfl (gHas.cons rfl (gHas.cons rfl (gHas.cons rfl (gHas.cons rfl (gHas.cons rfl (gHas.cons rfl (gHas.cons rfl (gHas.cons rfl (gHas.cons rfl (gHas.cons rfl (gHas.cons rfl (gHas.cons rfl (gHas.cons rfl (gHas.cons rfl (gHas.cons rfl (gHas.cons rfl (gHas.cons rfl (gHas.cons rfl (gHas.cons rfl (gHas.cons rfl gHas.nil)))))))))))))))))))))))))))))))
    exact gEy.retv rfl rfl
  · rfl
  · exact (gHas.cons rfl (gHas.cons rfl (gHas.cons rfl (gHas.cons rfl (gHas.cons rfl (gHas.cons rfl (gHas.cons rfl (gHas.cons rfl (gHas.cons rfl (gHas.cons rfl (gHas.cons rfl (gHas.cons rfl (gHas.cons rfl (gHas.cons rfl (gHas.cons rfl (gHas.cons rfl (gHas.cons rfl (gHas.cons rfl (gHas.cons rfl (gHas.cons rfl (gHas.cons rfl (gHas.cons rfl (gHas.cons rfl (gHas.cons rfl (gHas.cons rfl (gHas.cons rfl (gHas.cons rfl (gHas.cons rfl (gHas.cons rfl (gHas.cons rfl (gHas.cons rfl gHas.nil)))))))))))))))))))))))))))))))
  · intro id hid
    exact (by
      repeat first
        | exact gKs.rf
        | refine gKs.sh ?_ (Nat.le_of_ble_eq_true rfl) : gKs 190 S _) id hid
  · refine ⟨_, rfl, ?_, ?_⟩
    · intro id hid
      exact (by
      repeat first
        | exact gKp.rf
        | refine gKp.setS ?_ (Nat.le_of_ble_eq_true rfl)
        | refine gKp.setN ?_ (Nat.le_of_ble_eq_true rfl)
        | refine gKp.mkI ?_ (Nat.le_of_ble_eq_true rfl)
        | refine gKp.mkO ?_ (Nat.le_of_ble_eq_true rfl) : gKp 190 ((S, 190), m) _).2.1 id hid
    · intro id h1 h2
      obtain ⟨j, rfl⟩ : ∃ j, id = 190 + j := ⟨id - 190, by omega⟩
      match j, (show j < 31 by omega) with
      | 0, _ => rfl
      | 1, _ => rfl
      | 2, _ => rfl
      | 3, _ => rfl
      | 4, _ => rfl
      | 5, _ => rfl
      | 6, _ => rfl
      | 7, _ => rfl
      | 8, _ => rfl
      | 9, _ => rfl
      | 10, _ => rfl
      | 11, _ => rfl
      | 12, _ => rfl
      | 13, _ => rfl
      | 14, _ => rfl
      | 15, _ => rfl
      | 16, _ => rfl
      | 17, _ => rfl
      | 18, _ => rfl
      | 19, _ => rfl
      | 20, _ => rfl
      | 21, _ => rfl
      | 22, _ => rfl
      | 23, _ => rfl
      | 24, _ => rfl
      | 25, _ => rfl
      | 26, _ => rfl
      | 27, _ => rfl
      | 28, _ => rfl
      | 29, _ => rfl
      | 30, _ => rfl
      | j + 31, h => exact absurd h (by omega)
set_option maxRecDepth 100000 in
set_option maxHeartbeats 8000000 in
theorem keep_gen {B K : Nat} {kl : List (Option Nat)} {S : Nat → Option gE} {m : gM} (hB : 128 ≤ B) (hl : kl.length = 3) (hK3 : K < 3) (h0 : gHas S 0 (gsh_OT kl)) (hK : m.1 0 2 = nI K) (h01 : ∀ k, k < 10 → m.1 22 k = 0 ∨ m.1 22 k = 1) (T : ∃ s1, gTmade B S m s1) :
    ∃ s' : gS, gR gmi gdf gcd 10 139 [.ref 0] ((S, B), m) (some (.int (nI K)), s') ∧ s'.1.2 = B + 31 ∧ gHas s'.1.1 0 (gsh_OT (kl.set K (some B))) ∧ gHas s'.1.1 B (gsh_Town B) ∧ (∀ id, id < B → id ≠ 32 → s'.1.1 id = S id) ∧ (∀ id q, id < B → s'.2.1 id q = if id = 0 ∧ q = 2 then nI (K + 1) else m.1 id q) ∧ gCopied m s'.2 B := by
  obtain ⟨⟨⟨S1, n1⟩, m1⟩, hr, hn, hT, hS, Z, hZ, hZ1, hZ2⟩ := T
  have hn : n1 = B + 31 := hn
  subst hn
  have hZ : m1 = gTnew Z B 3 3 := hZ
  have g0 : gHas S1 0 (gsh_OT kl) := h0.lt (B := B) (show 0 + 81 ≤ B by omega) hS
  have hm : ∀ id q, id < B → m1.1 id q = m.1 id q := fun id q hi => by
    rw [hZ, gTnew_far _ _ _ _ _ _ (Or.inl hi), hZ1 id hi]
  have g1 : gHas S1 1 (gsh_Town 1) := gsub_OT_1 g0
  have hc := town_copy (a := B) (p := 1) m1 (Or.inl (by omega)) (fun k hk => by rw [hm _ _ (by omega)]; exact h01 k hk)
  have h2 : ∀ q, (gTcp m1 B 1).1 0 q = m.1 0 q := fun q => by rw [gTcp_far _ _ _ _ _ (Or.inl (by omega)), hm _ _ (by omega)]
  have e2 : (gTcp m1 B 1).1 0 2 = nI K := (h2 2).trans hK
  refine ⟨gsetN (gsetS ((S1, B + 31), gTcp m1 B 1) 32 (.inr (.inl (12, kl.set K (some B))))) 0 2 ((gTcp m1 B 1).1 0 2 + 1), gR_ofy (mx := 2) rfl rfl (Nat.le_of_ble_eq_true rfl) ?_, rfl, ?_, ?_, ?_, ?_, ?_⟩
  · refine gEy.aload rfl rfl rfl ?_
    refine gEy.getI rfl rfl (h0 0 _ rfl) rfl ?_
    refine gEy.iconst rfl rfl ?_
    refine gEy.lt_go2 (tn := 11) rfl (by show m.1 0 2 < nI 3; rw [hK]; exact nI_lt hK3 (by decide)) rfl rfl ?_
    refine gEy.new (a := B) rfl rfl rfl rfl ?_
    refine gEy.dupR rfl rfl ?_
    refine gEy.special rfl rfl rfl rfl rfl ⟨((S1, B + 31), m1), hr, ?_⟩
    refine gEy.astore (ls' := [some (.ref 0), some (.ref B)]) rfl rfl rfl ?_
    refine gEy.aload rfl rfl rfl ?_
    refine gEy.aload rfl rfl rfl ?_
    refine gEy.getR rfl rfl (g0 0 _ rfl) rfl ?_
    refine gEy.callV (s' := ((S1, B + 31), gTcp m1 B 1)) rfl rfl rfl rfl (hT 0 _ rfl) rfl (t_Town_copyFrom (by decide) (sh := (S1, B + 31)) hT g1 _ hc) ?_
    refine gEy.aload rfl rfl rfl ?_
    refine gEy.getR rfl rfl (g0 0 _ rfl) rfl ?_
    refine gEy.aload rfl rfl rfl ?_
    refine gEy.getI rfl rfl (g0 0 _ rfl) rfl ?_
    refine gEy.aload rfl rfl rfl ?_
    refine gEy.aast (j := K) (kd := 12) (l := kl) (by show ((gTcp m1 B 1).1 0 2).toNatClampNeg = K; rw [e2]; exact nI_clamp (by omega)) rfl rfl (g0 32 _ rfl) (by show gib ((gTcp m1 B 1).1 0 2) kl.length = true; rw [e2, hl]; exact gib_nI hK3 (by decide)) (hT 0 _ rfl) rfl ?_
    refine gEy.aload rfl rfl rfl ?_
    refine gEy.dupR rfl rfl ?_
    refine gEy.getI rfl rfl (g0 0 _ rfl) rfl ?_
    refine gEy.iconst rfl rfl ?_
    refine gEy.iadd rfl rfl ?_
    refine gEy.putI rfl rfl (g0 0 _ rfl) rfl rfl rfl ?_
    refine gEy.aload rfl rfl rfl ?_
    refine gEy.getI rfl rfl (g0 0 _ rfl) rfl ?_
    refine gEy.iconst rfl rfl ?_
    refine gEy.isub rfl rfl ?_
    refine gEy.retE ?_ rfl rfl
    show (gTcp m1 B 1).1 0 2 + 1 - 1 = nI K
    rw [e2, nI_1]
    exact nI_pred K
  · exact (gHas.cons (g0 0 _ rfl) (gHas.cons (g0 1 _ rfl) (gHas.cons (g0 2 _ rfl) (gHas.cons (g0 3 _ rfl) (gHas.cons (g0 4 _ rfl) (gHas.cons (g0 5 _ rfl) (gHas.cons (g0 6 _ rfl) (gHas.cons (g0 7 _ rfl) (gHas.cons (g0 8 _ rfl) (gHas.cons (g0 9 _ rfl) (gHas.cons (g0 10 _ rfl) (gHas.cons (g0 11 _ rfl) (gHas.cons (g0 12 _ rfl) (gHas.cons (g0 13 _ rfl) (gHas.cons (g0 14 _ rfl) (gHas.cons (g0 15 _ rfl) (gHas.cons (g0 16 _ rfl) (gHas.cons (g0 17 _ rfl) (gHas.cons (g0 18 _ rfl) (gHas.cons (g0 19 _ rfl) (gHas.cons (g0 20 _ rfl) (gHas.cons (g0 21 _ rfl) (gHas.cons (g0 22 _ rfl) (gHas.cons (g0 23 _ rfl) (gHas.cons (g0 24 _ rfl) (gHas.cons (g0 25 _ rfl) (gHas.cons (g0 26 _ rfl) (gHas.cons (g0 27 _ rfl) (gHas.cons (g0 28 _ rfl) (gHas.cons (g0 29 _ rfl) (gHas.cons (g0 30 _ rfl) (gHas.cons (g0 31 _ rfl) (gHas.cons rfl (gHas.cons (g0 33 _ rfl) (gHas.cons (g0 34 _ rfl) (gHas.cons (g0 35 _ rfl) (gHas.cons (g0 36 _ rfl) (gHas.cons (g0 37 _ rfl) (gHas.cons (g0 38 _ rfl) (gHas.cons (g0 39 _ rfl) (gHas.cons (g0 40 _ rfl) (gHas.cons (g0 41 _ rfl) (gHas.cons (g0 42 _ rfl) (gHas.cons (g0 43 _ rfl) (gHas.cons (g0 44 _ rfl) (gHas.cons (g0 45 _ rfl) (gHas.cons (g0 46 _ rfl) (gHas.cons (g0 47 _ rfl) (gHas.cons (g0 48 _ rfl) (gHas.cons (g0 49 _ rfl) (gHas.cons (g0 50 _ rfl) (gHas.cons (g0 51 _ rfl) (gHas.cons (g0 52 _ rfl) (gHas.cons (g0 53 _ rfl) (gHas.cons (g0 54 _ rfl) (gHas.cons (g0 55 _ rfl) (gHas.cons (g0 56 _ rfl) (gHas.cons (g0 57 _ rfl) (gHas.cons (g0 58 _ rfl) (gHas.cons (g0 59 _ rfl) (gHas.cons (g0 60 _ rfl) (gHas.cons (g0 61 _ rfl) (gHas.cons (g0 62 _ rfl) (gHas.cons (g0 63 _ rfl) (gHas.cons (g0 64 _ rfl) (gHas.cons (g0 65 _ rfl) (gHas.cons (g0 66 _ rfl) (gHas.cons (g0 67 _ rfl) (gHas.cons (g0 68 _ rfl) (gHas.cons (g0 69 _ rfl) (gHas.cons (g0 70 _ rfl) (gHas.cons (g0 71 _ rfl) (gHas.cons (g0 72 _ rfl) (gHas.cons (g0 73 _ rfl) (gHas.cons (g0 74 _ rfl) (gHas.cons (g0 75 _ rfl) (gHas.cons (g0 76 _ rfl) (gHas.cons (g0 77 _ rfl) (gHas.cons (g0 78 _ rfl) (gHas.cons (g0 79 _ rfl) (gHas.cons (g0 80 _ rfl) gHas.nil)))))))))))))))))))))))))))))))))))))))))))))))))))))))))))))))))))))))))))))))))
  · intro j e hj
    refine (gsh_ne (by omega)).trans (hT j e hj)
  · intro id hid h32
    exact (gsh_ne h32).trans (hS id hid)
  · intro id q hid
    show gup _ 0 2 _ id q = _
    rw [gup_all]
    by_cases h : id = 0 ∧ q = 2
    · rw [if_pos h, if_pos h]
      show (gTcp m1 B 1).1 0 2 + 1 = _
      rw [e2, nI_1]
    · rw [if_neg h, if_neg h]
      show (gTcp m1 B 1).1 id q = _
      rw [gTcp_far _ _ _ _ _ (Or.inl hid), hm _ _ hid]
  · subst hZ
    have ne : 1 + 31 ≤ B ∨ B + 31 ≤ 1 := Or.inl (by omega)
    have zz : ∀ j q, j < 31 → Z.1 (B + j) q = 0 := fun j q hj => by rw [hZ2 _ (by omega) (by omega)]
    have mm : ∀ j q, j < 31 → Z.1 (1 + j) q = m.1 (1 + j) q := fun j q hj => by rw [hZ1 _ (by omega)]
    have up : ∀ p q, p ≠ 0 → gup (gTcp (gTnew Z B 3 3) B 1).1 0 2 ((gTcp (gTnew Z B 3 3) B 1).1 0 2 + 1) p q = (gTcp (gTnew Z B 3 3) B 1).1 p q := fun p q h => gup_row h
    refine ⟨(up _ _ (by omega)).trans ((gTnc_r0 Z B 1 ne).trans (by rw [hZ1 _ (by omega)])), fun q hq => (up _ _ (by omega)).trans ((gTnc_r2 Z B 1 q ne hq).trans (mm 2 q (by omega))), (up _ _ (by omega)).trans ((gTnc_r11 Z B 1 ne).trans (mm 11 1 (by omega))), (up _ _ (by omega)).trans ((gTnc_r17 Z B 1 ne).trans (mm 17 0 (by omega))), fun q => (up _ _ (by omega)).trans ((gTnc_r3 Z B 1 q ne).trans (by rw [mm 3 q (by omega), zz 3 q (by omega)])), fun q => (up _ _ (by omega)).trans ((gTnc_r4 Z B 1 q ne).trans (by rw [mm 4 q (by omega), zz 4 q (by omega)])), fun q => (up _ _ (by omega)).trans ((gTnc_r5 Z B 1 q ne).trans (by rw [mm 5 q (by omega), zz 5 q (by omega)])), fun q => (up _ _ (by omega)).trans ((gTnc_r6 Z B 1 q ne).trans (by rw [mm 6 q (by omega), zz 6 q (by omega)])), fun q => (up _ _ (by omega)).trans ((gTnc_r7 Z B 1 q ne).trans (by rw [mm 7 q (by omega), zz 7 q (by omega)])), fun q => (up _ _ (by omega)).trans ((gTnc_r8 Z B 1 q ne).trans (by rw [mm 8 q (by omega), zz 8 q (by omega)])), fun q => (up _ _ (by omega)).trans ((gTnc_r9 Z B 1 q ne).trans (by rw [mm 9 q (by omega), zz 9 q (by omega)])), fun q => (up _ _ (by omega)).trans ((gTnc_r10 Z B 1 q ne).trans (by rw [mm 10 q (by omega), zz 10 q (by omega)])), fun q => (up _ _ (by omega)).trans ((gTnc_r12 Z B 1 q ne).trans (by rw [mm 12 q (by omega), zz 12 q (by omega)])), fun q => (up _ _ (by omega)).trans ((gTnc_r13 Z B 1 q ne).trans (by rw [mm 13 q (by omega), zz 13 q (by omega)])), fun q => (up _ _ (by omega)).trans ((gTnc_r14 Z B 1 q ne).trans (by rw [mm 14 q (by omega), zz 14 q (by omega)])), fun q => (up _ _ (by omega)).trans ((gTnc_r15 Z B 1 q ne).trans (by rw [mm 15 q (by omega), zz 15 q (by omega)])), fun q => (up _ _ (by omega)).trans ((gTnc_r16 Z B 1 q ne).trans (by rw [mm 16 q (by omega), zz 16 q (by omega)])), fun q => (up _ _ (by omega)).trans ((gTnc_r18 Z B 1 q ne).trans (by rw [mm 18 q (by omega), zz 18 q (by omega)])), fun q => (up _ _ (by omega)).trans ((gTnc_r19 Z B 1 q ne).trans (by rw [mm 19 q (by omega), zz 19 q (by omega)])), fun q => (up _ _ (by omega)).trans ((gTnc_r20 Z B 1 q ne).trans (by rw [mm 20 q (by omega), zz 20 q (by omega)])), fun q => (up _ _ (by omega)).trans ((gTnc_r21 Z B 1 q ne).trans (by rw [mm 21 q (by omega), zz 21 q (by omega)])), fun q => (up _ _ (by omega)).trans ((gTnc_r22 Z B 1 q ne).trans (by rw [mm 22 q (by omega), zz 22 q (by omega)])), fun q => (up _ _ (by omega)).trans ((gTnc_r23 Z B 1 q ne).trans (by rw [mm 23 q (by omega), zz 23 q (by omega)])), fun q => (up _ _ (by omega)).trans ((gTnc_r24 Z B 1 q ne).trans (by rw [mm 24 q (by omega), zz 24 q (by omega)])), fun q => (up _ _ (by omega)).trans ((gTnc_r25 Z B 1 q ne).trans (by rw [mm 25 q (by omega), zz 25 q (by omega)])), fun q => (up _ _ (by omega)).trans ((gTnc_r27 Z B 1 q ne).trans (by rw [mm 27 q (by omega), zz 27 q (by omega)])), fun q => (up _ _ (by omega)).trans ((gTnc_r28 Z B 1 q ne).trans (by rw [mm 28 q (by omega), zz 28 q (by omega)])), fun q => (up _ _ (by omega)).trans ((gTnc_r29 Z B 1 q ne).trans (by rw [mm 29 q (by omega), zz 29 q (by omega)])), fun q => (up _ _ (by omega)).trans ((gTnc_r30 Z B 1 q ne).trans (by rw [mm 30 q (by omega), zz 30 q (by omega)]))⟩
theorem keep_full {kl : List (Option Nat)} {sh : gH} {m : gM} (h0 : gHas sh.1 0 (gsh_OT kl)) (hK : m.1 0 2 = 3) : gR gmi gdf gcd 10 139 [.ref 0] (sh, m) (some (.int (-3)), (sh, m)) := by
  refine gR_ofy (mx := 2) rfl rfl (Nat.le_of_ble_eq_true rfl) ?_
  refine gEy.aload rfl rfl rfl ?_
  refine gEy.getI rfl rfl (h0 0 _ rfl) rfl ?_
  refine gEy.iconst rfl rfl ?_
  refine gEy.ge_go2 (by show ¬ m.1 0 2 < 3; rw [hK]; decide) rfl rfl ?_
  refine gEy.iconst rfl rfl ?_
  exact gEy.reti rfl rfl
theorem gEy.iflt_t {d : Nat} {code : gC} {pc : Nat} {ls : gL} {st : List Value} {s : gS} {bd : Nat × Nat} {r : Option Value × gS} {nx kp : Nat} {v x : Int32} {t : Int} {tn : Nat} (ht : t.toNat = tn) (hp : x < 0) (hc : code pc = some (.ifCond .lt t, nx, v, kp)) (hk : gkeep ls kp = ls) (k : gEy d code tn ls st s bd r) : gEy d code pc ls (.int x :: st) s bd r :=
  gEy.one hc hk (fun post k h => by show gcmp .lt x 0 (k t.toNat ls st s bd) (k nx ls st s bd); unfold gcmp; dsimp only; rw [if_pos hp, ht]; exact h) k
theorem gEy.iflt_f {d : Nat} {code : gC} {pc : Nat} {ls : gL} {st : List Value} {s : gS} {bd : Nat × Nat} {r : Option Value × gS} {nx kp : Nat} {v x : Int32} {t : Int} (hp : ¬ x < 0) (hc : code pc = some (.ifCond .lt t, nx, v, kp)) (hk : gkeep ls kp = ls) (k : gEy d code nx ls st s bd r) : gEy d code pc ls (.int x :: st) s bd r :=
  gEy.one hc hk (fun post k h => by show gcmp .lt x 0 (k t.toNat ls st s bd) (k nx ls st s bd); unfold gcmp; dsimp only; rw [if_neg hp]; exact h) k
theorem gEy.aald {d : Nat} {code : gC} {pc : Nat} {ls : gL} {st : List Value} {s : gS} {bd : Nat × Nat} {r : Option Value × gS} {nx kp : Nat} {v i : Int32} {a kd t : Nat} {l : List (Option Nat)} (hc : code pc = some (.aaload, nx, v, kp)) (hk : gkeep ls kp = ls) (hs : s.1.1 a = some (.inr (.inl (kd, l)))) (hkd : (Nat.beq kd 10 || Nat.beq kd 12) = true) (hi : gib i l.length = true) (hl : l.getD i.toNatClampNeg none = some t) (k : gEy d code nx ls (.ref t :: st) s bd r) : gEy d code pc ls (.int i :: .ref a :: st) s bd r :=
  gEy.one hc hk (fun post k h => by
      show (match s.1.1 a with
          | some (.inr (.inl (kd, l))) => cond (Nat.beq kd 10 || Nat.beq kd 12) (cond (gib i l.length) (match l.getD i.toNatClampNeg none with
              | some t => k nx ls (.ref t :: st) s bd
              | none => k nx ls (.null :: st) s bd) False) False
          | _ => False)
      rw [hs]
      show cond (Nat.beq kd 10 || Nat.beq kd 12) (cond (gib i l.length) (match l.getD i.toNatClampNeg none with
              | some t => k nx ls (.ref t :: st) s bd
              | none => k nx ls (.null :: st) s bd) False) False
      rw [hkd, hi, hl]
      exact h) k
theorem gEy.ifnn {d : Nat} {code : gC} {pc : Nat} {ls : gL} {st : List Value} {s : gS} {bd : Nat × Nat} {r : Option Value × gS} {nx kp x : Nat} {v : Int32} {t : Int} {tn : Nat} (ht : t.toNat = tn) (hc : code pc = some (.ifnonnull t, nx, v, kp)) (hk : gkeep ls kp = ls) (k : gEy d code tn ls st s bd r) : gEy d code pc ls (.ref x :: st) s bd r :=
  gEy.one hc hk (fun post k h => by show k t.toNat ls st s bd; rw [ht]; exact h) k
theorem stand_bad {kl : List (Option Nat)} {sh : gH} {m : gM} {x : Int32} (h0 : gHas sh.1 0 (gsh_OT kl)) (hx : x < 0 ∨ ¬ x < m.1 0 2) : gR gmi gdf gcd 10 140 [.ref 0, .int x] (sh, m) (some (.int (-1)), (sh, m)) := by
  refine gR_ofy (mx := 3) rfl rfl (Nat.le_of_ble_eq_true rfl) ?_
  refine gEy.iload rfl rfl rfl ?_
  by_cases hn : x < 0
  · refine gEy.iflt_t (tn := 12) rfl hn rfl rfl ?_
    refine gEy.lab (ls' := [some (.ref 0), none, none]) rfl rfl ?_
    refine gEy.iconst rfl rfl ?_
    exact gEy.reti rfl rfl
  · refine gEy.iflt_f hn rfl rfl ?_
    refine gEy.iload rfl rfl rfl ?_
    refine gEy.aload rfl rfl rfl ?_
    refine gEy.getI rfl rfl (h0 0 _ rfl) rfl ?_
    refine gEy.ge_go2 (by rcases hx with hx | hx; exact absurd hx hn; exact hx) rfl rfl ?_
    refine gEy.lab (ls' := [some (.ref 0), none, none]) rfl rfl ?_
    refine gEy.iconst rfl rfl ?_
    exact gEy.reti rfl rfl
theorem stand_ok {kl : List (Option Nat)} {sh : gH} {m : gM} {k B : Nat} (h0 : gHas sh.1 0 (gsh_OT kl)) (hl : kl.length = 3) (hk3 : k < 3) (hkl : kl.getD k none = some B) (hT : gHas sh.1 B (gsh_Town B)) (hB : 128 ≤ B) (hx : nI k < m.1 0 2) (h01 : ∀ j, j < 10 → m.1 (B + 21) j = 0 ∨ m.1 (B + 21) j = 1) : gR gmi gdf gcd 10 140 [.ref 0, .int (nI k)] (sh, m) (some (.int 1), (sh, gTcp m 1 B)) := by
  refine gR_ofy (mx := 3) rfl rfl (Nat.le_of_ble_eq_true rfl) ?_
  refine gEy.iload rfl rfl rfl ?_
  refine gEy.iflt_f (nI_pos (by omega)) rfl rfl ?_
  refine gEy.iload rfl rfl rfl ?_
  refine gEy.aload rfl rfl rfl ?_
  refine gEy.getI rfl rfl (h0 0 _ rfl) rfl ?_
  refine gEy.lt_go2 (tn := 14) rfl hx rfl rfl ?_
  refine gEy.aload rfl rfl rfl ?_
  refine gEy.getR rfl rfl (h0 0 _ rfl) rfl ?_
  refine gEy.iload rfl rfl rfl ?_
  refine gEy.aald (t := B) (l := kl) (kd := 12) rfl rfl (h0 32 _ rfl) rfl (by rw [hl]; exact gib_nI hk3 (by decide)) (by rw [nI_clamp (by omega)]; exact hkl) ?_
  refine gEy.astore (ls' := [some (.ref 0), some (.int (nI k)), some (.ref B)]) rfl rfl rfl ?_
  refine gEy.aload rfl rfl rfl ?_
  refine gEy.ifnn (tn := 27) rfl rfl rfl ?_
  refine gEy.aload rfl rfl rfl ?_
  refine gEy.getR rfl rfl (h0 0 _ rfl) rfl ?_
  refine gEy.aload rfl rfl rfl ?_
  refine gEy.callV (s' := (sh, gTcp m 1 B)) rfl rfl rfl rfl (h0 1 _ rfl) rfl (t_Town_copyFrom (by decide) (gsub_OT_1 h0) hT _ (town_copy (a := 1) (p := B) m (Or.inr (by omega)) h01)) ?_
  refine gEy.iconst rfl rfl ?_
  exact gEy.reti rfl rfl
