/-! ===== reading loops: holders, lines ===== -/
def gany (p : Nat → Bool) : Nat → Bool
  | 0 => false
  | n + 1 => gany p n || p n
theorem gany_iff {p : Nat → Bool} : ∀ {n : Nat}, gany p n = true ↔ ∃ k, k < n ∧ p k = true
  | 0 => by
    constructor
    · intro h; cases h
    · rintro ⟨k, h, _⟩; omega
  | n + 1 => by
    show (gany p n || p n) = true ↔ _
    rw [Bool.or_eq_true, gany_iff]
    constructor
    · rintro (⟨k, h1, h2⟩ | h)
      · exact ⟨k, by omega, h2⟩
      · exact ⟨n, by omega, h⟩
    · rintro ⟨k, h1, h2⟩
      by_cases e : k = n
      · subst e; exact Or.inr h2
      · exact Or.inl ⟨k, by omega, h2⟩
/-- a loop that looks for one, and ends when it has it -/
theorem gloopA {F S R : Type} {body : F → F} {bot : F} (app : F → Nat → S → Option R) (n : Nat) (st : Nat → S) (p : Nat → Bool) (o fin : Option R)
    (hstep : ∀ g j, j < n → app (body g) j (st j) = if p j = true then o else app g (j + 1) (st (j + 1))) (hexit : ∀ g, app (body g) n (st n) = fin) (fuel : Nat) (hf : n < fuel) : app (gfix body bot fuel) 0 (st 0) = if gany p n = true then o else fin := by
  have key : ∀ (r j fuel : Nat), j + r = n → r < fuel → gany p j = false → app (gfix body bot fuel) j (st j) = if gany p n = true then o else fin := by
    intro r
    induction r with
    | zero =>
      intro j fuel hj hf hp
      obtain ⟨k, rfl⟩ : ∃ k, fuel = k + 1 := ⟨fuel - 1, by omega⟩
      have : j = n := by omega
      subst this
      rw [hp]
      exact hexit _
    | succ r ih =>
      intro j fuel hj hf hp
      obtain ⟨k, rfl⟩ : ∃ k, fuel = k + 1 := ⟨fuel - 1, by omega⟩
      have h1 := hstep (gfix body bot k) j (by omega)
      cases hpj : p j with
      | true =>
        rw [hpj, if_pos rfl] at h1
        rw [if_pos (gany_iff.mpr ⟨j, by omega, hpj⟩)]
        exact h1
      | false =>
        rw [hpj, if_neg (by decide)] at h1
        refine h1.trans (ih (j + 1) k (by omega) (by omega) ?_)
        show (gany p j || p j) = false
        rw [hp, hpj]
        rfl
  exact key n 0 fuel (by omega) hf rfl
/-- the best of those that are fit, or -4 -/
def gpick (ok : Nat → Bool) (r : Nat → Nat → Bool) : Nat → Int32
  | 0 => -4
  | n + 1 => if (ok n && (decide (gpick ok r n = -4) || r n (gpick ok r n).toNatClampNeg)) = true then nI n else gpick ok r n
theorem gpick_cases (ok : Nat → Bool) (r : Nat → Nat → Bool) : ∀ n, n < 2 ^ 31 → gpick ok r n = -4 ∨ ∃ k, k < n ∧ ok k = true ∧ gpick ok r n = nI k
  | 0, _ => Or.inl rfl
  | n + 1, h => by
    rcases Bool.eq_false_or_eq_true (ok n && (decide (gpick ok r n = -4) || r n (gpick ok r n).toNatClampNeg)) with e | e
    · refine Or.inr ⟨n, by omega, ?_, ?_⟩
      · rw [Bool.and_eq_true] at e; exact e.1
      · unfold gpick; rw [if_pos e]
    · have : gpick ok r (n + 1) = gpick ok r n := by
        conv => lhs; unfold gpick
        rw [e]; rfl
      rw [this]
      rcases gpick_cases ok r n (by omega) with q | ⟨k, h1, h2, h3⟩
      · exact Or.inl q
      · exact Or.inr ⟨k, by omega, h2, h3⟩
theorem nI_ne4 {k : Nat} (h : k < 2 ^ 31) : ¬ nI k = -4 := fun e => by
  have := congrArg Int32.toInt e
  rw [nI_toInt h] at this
  have h4 : (-4 : Int32).toInt = -4 := by decide
  omega
def sWellOn (wp wc lt : Nat → Int32) (p l : Int32) (k : Nat) : Bool := decide (wp k = p) && decide (lt (wc k).toNatClampNeg = l)
theorem cl_hasWellOn {a we : Nat} {p l : Int32} {m : gM} (h : m.1 (a + 17) 0 = nI we) (hwe : we ≤ 10) (hc : ∀ k, k < we → ∃ c, c < 36 ∧ m.1 (a + 19) k = nI c) : f_Town_hasWellOn a p l m = some (if gany (sWellOn (m.1 (a + 18)) (m.1 (a + 19)) (m.1 (a + 9)) p l) we = true then 1 else 0, m) := by
  unfold f_Town_hasWellOn L_Town_hasWellOn_2
  refine (gloopA (fun (f : Int32 → Option (Int32 × gM)) j (_ : Unit) => f (nI j)) we (fun _ => ()) (sWellOn (m.1 (a + 18)) (m.1 (a + 19)) (m.1 (a + 9)) p l) (some (1, m)) (some (0, m)) ?_ ?_ 1000 (by omega)).trans ?_
  · intro g j hj
    obtain ⟨c, hc1, hc2⟩ := hc j hj
    simp (disch := omega) only [gfd_eq, glet_eq, gbind_eq, nI_ltI, nI_1, gok_nI, grd_nI, nI_clamp, if_true, if_false, Nat.lt_irrefl, h, hj, hc2, sWellOn, J_Town_hasWellOn_49, Bool.and_eq_true, decide_eq_true_eq]
    by_cases h1 : m.1 (a + 18) j = p <;> by_cases h2 : m.1 (a + 9) c = l <;> simp only [h1, h2, if_true, if_false, and_true, true_and, and_false, false_and]
  · intro g
    simp (disch := omega) only [gfd_eq, glet_eq, gbind_eq, nI_ltI, nI_1, gok_nI, grd_nI, nI_clamp, if_true, if_false, Nat.lt_irrefl, h]
  · cases gany (sWellOn (m.1 (a + 18)) (m.1 (a + 19)) (m.1 (a + 9)) p l) we <;> rfl
/-- whether lease k ended -/
def sEnded (now : Int32) (un lp ll wp wc lt : Nat → Int32) (we k : Nat) : Bool := !decide (now < un k) && !gany (sWellOn wp wc lt (lp k) (ll k)) we
theorem cl_hasEnded {a we k : Nat} {m : gM} (hk : k < 12) (h : m.1 (a + 17) 0 = nI we) (hwe : we ≤ 10) (hc : ∀ k, k < we → ∃ c, c < 36 ∧ m.1 (a + 19) k = nI c) : f_Town_hasEnded a (nI k) m = some (if sEnded (m.1 a 4) (m.1 (a + 15)) (m.1 (a + 14)) (m.1 (a + 13)) (m.1 (a + 18)) (m.1 (a + 19)) (m.1 (a + 9)) we k = true then 1 else 0, m) := by
  unfold f_Town_hasEnded sEnded
  simp (disch := omega) only [gfd_eq, glet_eq, gbind_eq, nI_ltI, nI_1, gok_nI, grd_nI, nI_clamp, if_true, if_false, Nat.lt_irrefl, cl_hasWellOn h hwe hc]
  by_cases h1 : m.1 a 4 < m.1 (a + 15) k
  · simp only [h1, if_true, decide_true, Bool.not_true, Bool.false_and, Bool.false_eq_true, if_false]
  · simp only [h1, if_false, decide_false, Bool.not_false, Bool.true_and]
    cases gany (sWellOn (m.1 (a + 18)) (m.1 (a + 19)) (m.1 (a + 9)) (m.1 (a + 14) k) (m.1 (a + 13) k)) we <;> rfl
theorem mo_hasEnded {we k : Nat} {m : gM} (hk : k < 12) (h : m.1 81 15 = nI we) (hwe : we ≤ 14) (hc : ∀ k, k < we → ∃ c, c < 36 ∧ m.1 93 k = nI c) : f_MO_hasEnded (nI k) m = some (if sEnded (m.1 81 2) (m.1 90) (m.1 89) (m.1 88) (m.1 92) (m.1 93) (m.1 85) we k = true then 1 else 0, m) := by
  have key : ∀ b : Bool, J_MO_hasEnded_18 (nI k) m (if b = true then 1 else 0) = some (if (b && !gany (sWellOn (m.1 92) (m.1 93) (m.1 85) (m.1 89 k) (m.1 88 k)) we) = true then 1 else 0, m) := by
    intro b
    have b0 : b = (b && !gany (sWellOn (m.1 92) (m.1 93) (m.1 85) (m.1 89 k) (m.1 88 k)) 0) := by cases b <;> rfl
    unfold J_MO_hasEnded_18 L_MO_hasEnded_21
    conv => lhs; rw [b0]
    refine gloopS (fun (f : Int32 → Int32 → Option (Int32 × gM)) j (s : Bool) => f (if s = true then 1 else 0) (nI j)) we (fun j => b && !gany (sWellOn (m.1 92) (m.1 93) (m.1 85) (m.1 89 k) (m.1 88 k)) j) (some (if (b && !gany (sWellOn (m.1 92) (m.1 93) (m.1 85) (m.1 89 k) (m.1 88 k)) we) = true then 1 else 0, m)) ?_ ?_ 1000 (by omega)
    · intro g j hj
      obtain ⟨c, hc1, hc2⟩ := hc j hj
      simp (disch := omega) only [gfd_eq, glet_eq, gbind_eq, nI_ltI, nI_1, gok_nI, grd_nI, nI_clamp, if_true, if_false, Nat.lt_irrefl, h, hj, hc2, J_MO_hasEnded_72, J_MO_hasEnded_68, J_MO_hasEnded_73]
      show _ = g (if (b && !(gany (sWellOn (m.1 92) (m.1 93) (m.1 85) (m.1 89 k) (m.1 88 k)) j || sWellOn (m.1 92) (m.1 93) (m.1 85) (m.1 89 k) (m.1 88 k) j)) = true then 1 else 0) _
      have e : sWellOn (m.1 92) (m.1 93) (m.1 85) (m.1 89 k) (m.1 88 k) j = (decide (m.1 92 j = m.1 89 k) && decide (m.1 85 c = m.1 88 k)) := by
        unfold sWellOn
        rw [hc2, nI_clamp (by omega)]
      rw [e]
      cases b <;> cases gany (sWellOn (m.1 92) (m.1 93) (m.1 85) (m.1 89 k) (m.1 88 k)) j <;> by_cases h1 : m.1 92 j = m.1 89 k <;> by_cases h2 : m.1 85 c = m.1 88 k <;> simp [h1, h2]
    · intro g
      simp (disch := omega) only [gfd_eq, glet_eq, gbind_eq, nI_ltI, nI_1, gok_nI, grd_nI, nI_clamp, if_true, if_false, Nat.lt_irrefl, h]
      exact gzo_b
  unfold f_MO_hasEnded sEnded
  simp (disch := omega) only [gfd_eq, glet_eq, gbind_eq, nI_ltI, nI_1, gok_nI, grd_nI, nI_clamp, if_true, if_false, Nat.lt_irrefl]
  have k0 := key false
  have k1 := key true
  simp only [Bool.false_eq_true, if_false, if_true, Bool.false_and, Bool.true_and] at k0 k1
  by_cases h1 : m.1 81 2 < m.1 90 k
  · simp only [h1, if_true, k0, decide_true, Bool.not_true, Bool.false_and, Bool.false_eq_true, if_false]
  · simp only [h1, if_false, k1, decide_false, Bool.not_false, Bool.true_and]

/-- the best lease of a lot -/
def sHold (ended : Nat → Bool) (ll ls : Nat → Int32) (l : Int32) (le : Nat) : Int32 := gpick (fun k => decide (ll k = l) && !ended k) (fun k b => decide (ls k < ls b)) le
def sHolder (ended : Nat → Bool) (ow ll lp ls : Nat → Int32) (l le : Nat) : Int32 := if sHold ended ll ls (nI l) le = -4 then ow l else lp (sHold ended ll ls (nI l) le).toNatClampNeg
theorem cl_holderOf {a we le l : Nat} {m : gM} (hl : l < 8) (h0 : m.1 (a + 11) 1 = nI le) (hle : le ≤ 12) (h : m.1 (a + 17) 0 = nI we) (hwe : we ≤ 10) (hc : ∀ k, k < we → ∃ c, c < 36 ∧ m.1 (a + 19) k = nI c) : f_Town_holderOf a (nI l) m = some (sHolder (sEnded (m.1 a 4) (m.1 (a + 15)) (m.1 (a + 14)) (m.1 (a + 13)) (m.1 (a + 18)) (m.1 (a + 19)) (m.1 (a + 9)) we) (m.1 (a + 12)) (m.1 (a + 13)) (m.1 (a + 14)) (m.1 (a + 16)) l le, m) := by
  generalize hE : sEnded (m.1 a 4) (m.1 (a + 15)) (m.1 (a + 14)) (m.1 (a + 13)) (m.1 (a + 18)) (m.1 (a + 19)) (m.1 (a + 9)) we = E
  have hEn : ∀ k, k < 12 → f_Town_hasEnded a (nI k) m = some (if E k = true then 1 else 0, m) := fun k hk => by rw [← hE]; exact cl_hasEnded hk h hwe hc
  unfold f_Town_holderOf L_Town_holderOf_5
  refine gloopS (fun (f : Int32 → Int32 → gM → Option (Int32 × gM)) j (s : Int32) => f s (nI j) m) le (fun j => sHold E (m.1 (a + 13)) (m.1 (a + 16)) (nI l) j) _ ?_ ?_ 1000 (by omega)
  · intro g j hj
    have hs : sHold E (m.1 (a + 13)) (m.1 (a + 16)) (nI l) (j + 1) = if ((decide (m.1 (a + 13) j = nI l) && !E j) && (decide (sHold E (m.1 (a + 13)) (m.1 (a + 16)) (nI l) j = -4) || decide (m.1 (a + 16) j < m.1 (a + 16) (sHold E (m.1 (a + 13)) (m.1 (a + 16)) (nI l) j).toNatClampNeg))) = true then nI j else sHold E (m.1 (a + 13)) (m.1 (a + 16)) (nI l) j := rfl
    have hp := gpick_cases (fun k => decide (m.1 (a + 13) k = nI l) && !E k) (fun k b => decide (m.1 (a + 16) k < m.1 (a + 16) b)) j (by omega)
    have hp : sHold E (m.1 (a + 13)) (m.1 (a + 16)) (nI l) j = -4 ∨ ∃ k, k < j ∧ _ ∧ sHold E (m.1 (a + 13)) (m.1 (a + 16)) (nI l) j = nI k := hp
    rw [hs]
    generalize sHold E (m.1 (a + 13)) (m.1 (a + 16)) (nI l) j = b at hp
    simp (disch := omega) only [gfd_eq, glet_eq, gbind_eq, nI_ltI, nI_1, gok_nI, grd_nI, nI_clamp, if_true, if_false, Nat.lt_irrefl, h0, hj, hEn, J_Town_holderOf_64, J_Town_holderOf_66]
    rcases hp with rfl | ⟨k, hk, _, rfl⟩
    · by_cases h1 : m.1 (a + 13) j = nI l <;> cases E j <;> simp [h1]
    · have h4 := nI_ne4 (k := k) (by omega)
      simp (disch := omega) only [gfd_eq, glet_eq, gbind_eq, nI_ltI, nI_1, gok_nI, grd_nI, nI_clamp, if_true, if_false, Nat.lt_irrefl, h4]
      by_cases h1 : m.1 (a + 13) j = nI l <;> by_cases h2 : m.1 (a + 16) j < m.1 (a + 16) k <;> cases E j <;> simp [h1, h2]
  · intro g
    have hp := gpick_cases (fun k => decide (m.1 (a + 13) k = nI l) && !E k) (fun k b => decide (m.1 (a + 16) k < m.1 (a + 16) b)) le (by omega)
    have hp : sHold E (m.1 (a + 13)) (m.1 (a + 16)) (nI l) le = -4 ∨ ∃ k, k < le ∧ _ ∧ sHold E (m.1 (a + 13)) (m.1 (a + 16)) (nI l) le = nI k := hp
    unfold sHolder
    simp (disch := omega) only [gfd_eq, glet_eq, gbind_eq, nI_ltI, nI_1, gok_nI, grd_nI, nI_clamp, if_true, if_false, Nat.lt_irrefl, h0, J_Town_holderOf_72]
    generalize sHold E (m.1 (a + 13)) (m.1 (a + 16)) (nI l) le = b at hp
    rcases hp with rfl | ⟨k, hk, _, rfl⟩
    · simp (disch := omega) only [gfd_eq, glet_eq, gbind_eq, nI_ltI, nI_1, gok_nI, grd_nI, nI_clamp, if_true, if_false, Nat.lt_irrefl]
    · have h4 := nI_ne4 (k := k) (by omega)
      simp (disch := omega) only [gfd_eq, glet_eq, gbind_eq, nI_ltI, nI_1, gok_nI, grd_nI, nI_clamp, if_true, if_false, Nat.lt_irrefl, h4]
theorem mo_holderOf {we le l : Nat} {m : gM} (hl : l < 8) (h0 : m.1 81 10 = nI le) (hle : le ≤ 12) (h : m.1 81 15 = nI we) (hwe : we ≤ 14) (hc : ∀ k, k < we → ∃ c, c < 36 ∧ m.1 93 k = nI c) : f_MO_holderOf (nI l) m = some (sHolder (sEnded (m.1 81 2) (m.1 90) (m.1 89) (m.1 88) (m.1 92) (m.1 93) (m.1 85) we) (m.1 87) (m.1 88) (m.1 89) (m.1 91) l le, m) := by
  generalize hE : sEnded (m.1 81 2) (m.1 90) (m.1 89) (m.1 88) (m.1 92) (m.1 93) (m.1 85) we = E
  have hEn : ∀ k, k < 12 → f_MO_hasEnded (nI k) m = some (if E k = true then 1 else 0, m) := fun k hk => by rw [← hE]; exact mo_hasEnded hk h hwe hc
  unfold f_MO_holderOf L_MO_holderOf_5
  refine gloopS (fun (f : Int32 → Int32 → gM → Option (Int32 × gM)) j (s : Int32) => f s (nI j) m) le (fun j => sHold E (m.1 88) (m.1 91) (nI l) j) _ ?_ ?_ 1000 (by omega)
  · intro g j hj
    have hs : sHold E (m.1 88) (m.1 91) (nI l) (j + 1) = if ((decide (m.1 88 j = nI l) && !E j) && (decide (sHold E (m.1 88) (m.1 91) (nI l) j = -4) || decide (m.1 91 j < m.1 91 (sHold E (m.1 88) (m.1 91) (nI l) j).toNatClampNeg))) = true then nI j else sHold E (m.1 88) (m.1 91) (nI l) j := rfl
    have hp := gpick_cases (fun k => decide (m.1 88 k = nI l) && !E k) (fun k b => decide (m.1 91 k < m.1 91 b)) j (by omega)
    have hp : sHold E (m.1 88) (m.1 91) (nI l) j = -4 ∨ ∃ k, k < j ∧ _ ∧ sHold E (m.1 88) (m.1 91) (nI l) j = nI k := hp
    rw [hs]
    generalize sHold E (m.1 88) (m.1 91) (nI l) j = b at hp
    simp (disch := omega) only [gfd_eq, glet_eq, gbind_eq, nI_ltI, nI_1, gok_nI, grd_nI, nI_clamp, if_true, if_false, Nat.lt_irrefl, h0, hj, hEn, J_MO_holderOf_52, J_MO_holderOf_54]
    rcases hp with rfl | ⟨k, hk, _, rfl⟩
    · by_cases h1 : m.1 88 j = nI l <;> cases E j <;> simp [h1]
    · have h4 := nI_ne4 (k := k) (by omega)
      simp (disch := omega) only [gfd_eq, glet_eq, gbind_eq, nI_ltI, nI_1, gok_nI, grd_nI, nI_clamp, if_true, if_false, Nat.lt_irrefl, h4]
      by_cases h1 : m.1 88 j = nI l <;> by_cases h2 : m.1 91 j < m.1 91 k <;> cases E j <;> simp [h1, h2]
  · intro g
    have hp := gpick_cases (fun k => decide (m.1 88 k = nI l) && !E k) (fun k b => decide (m.1 91 k < m.1 91 b)) le (by omega)
    have hp : sHold E (m.1 88) (m.1 91) (nI l) le = -4 ∨ ∃ k, k < le ∧ _ ∧ sHold E (m.1 88) (m.1 91) (nI l) le = nI k := hp
    unfold sHolder
    simp (disch := omega) only [gfd_eq, glet_eq, gbind_eq, nI_ltI, nI_1, gok_nI, grd_nI, nI_clamp, if_true, if_false, Nat.lt_irrefl, h0, J_MO_holderOf_60]
    generalize sHold E (m.1 88) (m.1 91) (nI l) le = b at hp
    rcases hp with rfl | ⟨k, hk, _, rfl⟩
    · simp (disch := omega) only [gfd_eq, glet_eq, gbind_eq, nI_ltI, nI_1, gok_nI, grd_nI, nI_clamp, if_true, if_false, Nat.lt_irrefl]
    · have h4 := nI_ne4 (k := k) (by omega)
      simp (disch := omega) only [gfd_eq, glet_eq, gbind_eq, nI_ltI, nI_1, gok_nI, grd_nI, nI_clamp, if_true, if_false, Nat.lt_irrefl, h4]
