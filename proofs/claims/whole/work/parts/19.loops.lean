/-! ===== numbers, memory, loops of the pure functions ===== -/
theorem gib_nI {j n : Nat} (h : j < n) (hn : n < 2 ^ 31) : gib (nI j) n = true := by
  unfold gib
  rw [Bool.and_eq_true, decide_eq_true_eq, decide_eq_true_eq, nI_clamp (by omega)]
  exact ⟨nI_pos' (by omega), h⟩
theorem gok_t {R : Type} {c : Bool} {o : Option R} (h : c = true) : gok c o = o := by rw [h]; rfl
theorem gok_T {R : Type} {o : Option R} : gok true o = o := rfl
theorem gok_nI {R : Type} {j n : Nat} {o : Option R} (h : j < n) (hn : n < 2 ^ 31) : gok (gib (nI j) n) o = o := gok_t (gib_nI h hn)
theorem grd_nI (m : gM) (a : Nat) {j : Nat} (h : j < 2 ^ 31) : grd m a (nI j) = m.1 a j := by
  unfold grd; rw [nI_clamp h]
theorem gfd_eq (m : gM) (a k : Nat) : gfd m a k = m.1 a k := rfl
theorem gst_nI (m : gM) (a : Nat) {j : Nat} (x : Int32) (h : j < 2 ^ 31) : gst m a (nI j) x = (gup m.1 a j x, m.2) := by
  unfold gst; rw [nI_clamp h]
theorem gup_at (N : Nat → Nat → Int32) (a i : Nat) (x : Int32) : gup N a i x a i = x := by simp [gup]
theorem gup_row {N : Nat → Nat → Int32} {a i p q : Nat} {x : Int32} (h : p ≠ a) : gup N a i x p q = N p q := by simp [gup, h]
theorem gup_col {N : Nat → Nat → Int32} {a i q : Nat} {x : Int32} (h : q ≠ i) : gup N a i x a q = N a q := by simp [gup, h]
theorem gup_all (N : Nat → Nat → Int32) (a i : Nat) (x : Int32) (p q : Nat) : gup N a i x p q = if p = a ∧ q = i then x else N p q := by
  unfold gup
  by_cases h1 : p = a
  · subst h1
    by_cases h2 : q = i <;> simp [h2]
  · simp [h1]
theorem nI_lit0 : (0 : Int32) = nI 0 := rfl
/-- a fold over the numbers from j on, r of them -/
def gfold {S : Type} (f : Nat → S → S) : Nat → Nat → S → S
  | _, 0, s => s
  | j, r + 1, s => gfold f (j + 1) r (f j s)
theorem gfold_succ {S : Type} (f : Nat → S → S) : ∀ (r j : Nat) (s : S), gfold f j (r + 1) s = f (j + r) (gfold f j r s)
  | 0, j, s => rfl
  | r + 1, j, s => by
    show gfold f (j + 1) (r + 1) (f j s) = _
    rw [gfold_succ f r (j + 1) (f j s)]
    show f (j + 1 + r) (gfold f (j + 1) r (f j s)) = f (j + (r + 1)) (gfold f (j + 1) r (f j s))
    rw [show j + 1 + r = j + (r + 1) by omega]
/-- a loop that counts from j to n: what it comes to; app: how the loop's function is applied at count j in state s -/
theorem gloopN {F S R : Type} {body : F → F} {bot : F} (app : F → Nat → S → Option R) (n : Nat) (f : Nat → S → S) (Inv : Nat → S → Prop) (fin : S → Option R)
    (hstep : ∀ g j s, j < n → Inv j s → app (body g) j s = app g (j + 1) (f j s) ∧ Inv (j + 1) (f j s))
    (hexit : ∀ g s, Inv n s → app (body g) n s = fin s) :
    ∀ (r j fuel : Nat) (s : S), j + r = n → r < fuel → Inv j s → app (gfix body bot fuel) j s = fin (gfold f j r s) ∧ Inv n (gfold f j r s) := by
  intro r
  induction r with
  | zero =>
    intro j fuel s hj hf hI
    obtain ⟨k, rfl⟩ : ∃ k, fuel = k + 1 := ⟨fuel - 1, by omega⟩
    have : j = n := by omega
    subst this
    exact ⟨hexit _ s hI, hI⟩
  | succ r ih =>
    intro j fuel s hj hf hI
    obtain ⟨k, rfl⟩ : ∃ k, fuel = k + 1 := ⟨fuel - 1, by omega⟩
    obtain ⟨h1, h2⟩ := hstep (gfix body bot k) j s (by omega) hI
    have h3 := ih (j + 1) k (f j s) (by omega) (by omega) h2
    exact ⟨h1.trans h3.1, h3.2⟩
/-- the same, where the run may end early: out tells the end -/
theorem gloopE {F S R : Type} {body : F → F} {bot : F} (app : F → Nat → S → Option R) (n : Nat) (f : Nat → S → S) (out : Nat → S → Option (Option R)) (fin : S → Option R)
    (hstep : ∀ g j s, j < n → app (body g) j s = (match out j s with | some o => o | none => app g (j + 1) (f j s)))
    (hexit : ∀ g s, app (body g) n s = fin s) :
    ∀ (r j fuel : Nat) (s : S), j + r = n → r < fuel → app (gfix body bot fuel) j s = (gfold (fun j (q : Option (Option R) × S) => match q.1 with | some o => (some o, q.2) | none => (out j q.2, f j q.2)) j r (none, s) |> fun q => match q.1 with | some o => o | none => fin q.2) := by
  intro r
  have done : ∀ (r j : Nat) (o : Option R) (s : S), (gfold (fun j (q : Option (Option R) × S) => match q.1 with | some o => (some o, q.2) | none => (out j q.2, f j q.2)) j r (some o, s)) = (some o, s) := by
    intro r
    induction r with
    | zero => intro j o s; rfl
    | succ r ih => intro j o s; exact ih (j + 1) o s
  induction r with
  | zero =>
    intro j fuel s hj hf
    obtain ⟨k, rfl⟩ : ∃ k, fuel = k + 1 := ⟨fuel - 1, by omega⟩
    have : j = n := by omega
    subst this
    exact hexit _ s
  | succ r ih =>
    intro j fuel s hj hf
    obtain ⟨k, rfl⟩ : ∃ k, fuel = k + 1 := ⟨fuel - 1, by omega⟩
    show app (body (gfix body bot k)) j s = _
    rw [hstep _ j s (by omega)]
    cases ho : out j s with
    | some o =>
      show o = _
      show o = ((gfold _ (j + 1) r (match (none : Option (Option R)) with | some o => (some o, s) | none => (out j s, f j s))) |> fun q => match q.1 with | some o => o | none => fin q.2)
      rw [ho]
      show o = ((gfold _ (j + 1) r (some o, f j s)) |> fun q => match q.1 with | some o => o | none => fin q.2)
      rw [done]
    | none =>
      show app (gfix body bot k) (j + 1) (f j s) = ((gfold _ (j + 1) r (match (none : Option (Option R)) with | some o => (some o, s) | none => (out j s, f j s))) |> fun q => match q.1 with | some o => o | none => fin q.2)
      rw [ho]
      exact ih (j + 1) k (f j s) (by omega) (by omega)
/-- rows of numbers: filled, copied -/
def gfil (m : gM) (a n : Nat) (x : Int32) : gM := (fun p q => if p = a ∧ q < n then x else m.1 p q, m.2)
theorem gst_fold (p : Nat) (x : Int32) (m : gM) : ∀ n, n < 2 ^ 31 → gfold (fun j m => gst m p (nI j) x) 0 n m = gfil m p n x
  | 0, _ => by
    show m = gfil m p 0 x
    unfold gfil
    simp
  | n + 1, h => by
    rw [gfold_succ, gst_fold p x m n (by omega), Nat.zero_add, gst_nI _ _ _ (by omega)]
    unfold gfil
    refine Prod.ext ?_ rfl
    funext a q
    show gup _ p n x a q = _
    rw [gup_all]
    show (if a = p ∧ q = n then x else if a = p ∧ q < n then x else m.1 a q) = if a = p ∧ q < n + 1 then x else m.1 a q
    by_cases h1 : a = p
    · by_cases h2 : q = n
      · simp [h1, h2]
      · by_cases h3 : q < n
        · simp [h1, h3, show q < n + 1 by omega]
        · simp [h1, h2, h3, show ¬ q < n + 1 by omega]
    · simp [h1]
theorem f_fill_eq (p n : Nat) (x : Int32) (m : gM) (hn : n < 1000) : f_fill p n x m = some (gfil m p n x) := by
  have h := (gloopN (bot := fun _ _ => none) (body := fun rec_5 v2 m1 => if v2 < Int32.ofNat n then (gok (gib v2 n) (glet (gst m1 p v2 x) fun (m2 : gM) => rec_5 (v2 + 1) m2)) else (some m1)) (fun f j (m : gM) => f (nI j) m) n (fun j m => gst m p (nI j) x) (fun _ _ => True) some ?_ ?_ n 0 1000 m (by omega) (by omega) trivial).1
  · rw [gst_fold p x m n (by omega)] at h
    exact h
  · intro g j s hj _
    refine ⟨?_, trivial⟩
    show (if nI j < nI n then _ else _) = _
    rw [if_pos (nI_lt hj (by omega)), gok_nI hj (by omega)]
    show g (nI j + 1) _ = g (nI (j + 1)) _
    rw [nI_1]
  · intro g s _
    show (if nI n < nI n then _ else _) = _
    rw [if_neg (nI_nlt (Nat.le_refl n) (by omega))]
/-- a loop whose states are known: st j at count j, the end at count n -/
theorem gloopS {F S R : Type} {body : F → F} {bot : F} (app : F → Nat → S → Option R) (n : Nat) (st : Nat → S) (o : Option R)
    (hstep : ∀ g j, j < n → app (body g) j (st j) = app g (j + 1) (st (j + 1))) (hexit : ∀ g, app (body g) n (st n) = o) (fuel : Nat) (hf : n < fuel) : app (gfix body bot fuel) 0 (st 0) = o := by
  have key : ∀ (r j fuel : Nat), j + r = n → r < fuel → app (gfix body bot fuel) j (st j) = o := by
    intro r
    induction r with
    | zero =>
      intro j fuel hj hf
      obtain ⟨k, rfl⟩ : ∃ k, fuel = k + 1 := ⟨fuel - 1, by omega⟩
      have : j = n := by omega
      subst this
      exact hexit _
    | succ r ih =>
      intro j fuel hj hf
      obtain ⟨k, rfl⟩ : ∃ k, fuel = k + 1 := ⟨fuel - 1, by omega⟩
      exact (hstep (gfix body bot k) j (by omega)).trans (ih (j + 1) k (by omega) (by omega))
  exact key n 0 fuel (by omega) hf
theorem gif_lt {R : Type} {a b : Nat} {x y : Option R} (h : a < b) (hb : b < 2 ^ 31) : (if nI a < nI b then x else y) = x := if_pos (nI_lt h hb)
theorem gif_ge {R : Type} {a b : Nat} {x y : Option R} (h : b ≤ a) (ha : a < 2 ^ 31) : (if nI a < nI b then x else y) = y := if_neg (nI_nlt h ha)
/-- columns and rows of the first n cells -/
def gcolP (m : gM) (a w n : Nat) : gM := (fun p q => if p = a + 1 ∧ q < n then nI (q % w) else if p = a + 2 ∧ q < n then nI (q / w) else m.1 p q, m.2)
theorem gcolP_0 (m : gM) (a w : Nat) : gcolP m a w 0 = m := by
  unfold gcolP
  simp
theorem gcolP_step (m : gM) (a w y x : Nat) (hx : x < w) : (gup (gup (gcolP m a w (y * w + x)).1 (a + 1) (y * w + x) (nI x)) (a + 2) (y * w + x) (nI y), (gcolP m a w (y * w + x)).2) = gcolP m a w (y * w + x + 1) := by
  have h1 : (y * w + x) % w = x := by rw [Nat.add_comm, Nat.add_mul_mod_self_right, Nat.mod_eq_of_lt hx]
  have h2 : (y * w + x) / w = y := by rw [Nat.add_comm, Nat.add_mul_div_right _ _ (by omega), Nat.div_eq_of_lt hx, Nat.zero_add]
  unfold gcolP
  refine Prod.ext ?_ rfl
  funext p q
  show gup _ (a + 2) (y * w + x) (nI y) p q = _
  rw [gup_all, gup_all]
  show (if p = a + 2 ∧ q = y * w + x then nI y else if p = a + 1 ∧ q = y * w + x then nI x else if p = a + 1 ∧ q < y * w + x then nI (q % w) else if p = a + 2 ∧ q < y * w + x then nI (q / w) else m.1 p q) = if p = a + 1 ∧ q < y * w + x + 1 then nI (q % w) else if p = a + 2 ∧ q < y * w + x + 1 then nI (q / w) else m.1 p q
  by_cases e : q = y * w + x
  · subst e
    by_cases p1 : p = a + 1
    · subst p1; simp [h1]
    · by_cases p2 : p = a + 2
      · subst p2; simp [h2]
      · simp [p1, p2]
  · by_cases l : q < y * w + x
    · have l2 : q < y * w + x + 1 := by omega
      simp [e, l, l2]
    · have l2 : ¬ q < y * w + x + 1 := by omega
      simp [e, l, l2]
theorem pool_cols {a w h : Nat} (hw : w ≤ 6) (hh : h ≤ 6) (k : Int32 → gM → Option gM) (m : gM) : L_Pool_becomeNew_19 a (nI w) (nI h) k 1000 0 m = k (nI h) (gcolP m a w (h * w)) := by
  have inner : ∀ (y : Nat) (k : Int32 → gM → Option gM), y < h → L_Pool_becomeNew_27 a (nI w) (nI y) k 1000 0 (gcolP m a w (y * w)) = k (nI w) (gcolP m a w (y * w + w)) := by
    intro y k hy
    have hmul : y * w + w ≤ 36 := by
      have : (y + 1) * w ≤ 6 * 6 := Nat.mul_le_mul (by omega) hw
      rw [Nat.add_mul, Nat.one_mul] at this
      omega
    unfold L_Pool_becomeNew_27
    refine gloopS (fun (f : Int32 → gM → Option gM) j s => f (nI j) s) w (fun j => gcolP m a w (y * w + j)) _ ?_ ?_ 1000 (by omega)
    · intro g j hj
      try dsimp only
      have hb : gib (nI (y * w + j)) 36 = true := gib_nI (by omega) (by omega)
      have hc : (nI (y * w + j)).toNatClampNeg = y * w + j := nI_clamp (by omega)
      rw [gif_lt hj (by omega), pk_mul, nI_add]
      simp only [glet, hb, gok_T, gst, hc, nI_1]
      show g (nI (j + 1)) (gup (gup (gcolP m a w (y * w + j)).1 (a + 1) (y * w + j) (nI j)) (a + 2) (y * w + j) (nI y), (gcolP m a w (y * w + j)).2) = _
      rw [gcolP_step m a w y j hj]
      rfl
    · intro g
      try dsimp only
      rw [gif_ge (Nat.le_refl w) (by omega)]
  unfold L_Pool_becomeNew_19
  have := gloopS (bot := fun _ _ => none) (body := fun rec_19 v2 m5 => if v2 < nI h then (L_Pool_becomeNew_27 a (nI w) v2 (fun v5 m7 => J_Pool_becomeNew_64 rec_19 v2 v5 m7) 1000 0 m5) else (k v2 m5)) (fun (f : Int32 → gM → Option gM) j s => f (nI j) s) h (fun j => gcolP m a w (j * w)) (k (nI h) (gcolP m a w (h * w))) ?_ ?_ 1000 (by omega)
  · rw [show gcolP m a w (0 * w) = m by rw [Nat.zero_mul]; exact gcolP_0 m a w] at this
    exact this
  · intro g j hj
    try dsimp only
    rw [gif_lt hj (by omega), inner j _ hj]
    unfold J_Pool_becomeNew_64
    rw [nI_1, Nat.add_mul, Nat.one_mul]
  · intro g
    try dsimp only
    rw [gif_ge (Nat.le_refl h) (by omega)]
