/-! ===== lines that hold, distances, why not ===== -/
theorem q0 : (0 : Int32) = nI 0 := rfl
theorem q1 : (1 : Int32) = nI 1 := rfl
theorem q2 : (2 : Int32) = nI 2 := rfl
theorem q3 : (3 : Int32) = nI 3 := rfl
theorem q4 : (4 : Int32) = nI 4 := rfl
theorem q5 : (5 : Int32) = nI 5 := rfl
theorem q9 : (9 : Int32) = nI 9 := rfl
theorem q50 : (50 : Int32) = nI 50 := rfl
theorem q60 : (60 : Int32) = nI 60 := rfl
theorem q99 : (99 : Int32) = nI 99 := rfl
theorem nI_eq0 {k : Nat} (h : k < 2 ^ 31) : nI k = 0 ↔ k = 0 := nI_eq (b := 0) h (by decide)
def LawAt (N : gN) (r : Nat × Nat × Nat × Nat) (nl : Nat) (ru fr nu vo : Nat → Nat) : Prop := ∀ k, k < nl → N r.1 k = nI (ru k) ∧ N r.2.1 k = nI (fr k) ∧ N r.2.2.1 k = nI (nu k) ∧ N r.2.2.2 k = nI (vo k) ∧ ru k ≤ 5 ∧ fr k ≤ 49 ∧ nu k ≤ 999 ∧ vo k ≤ 1
def sLine (ru fr vo : Nat → Nat) (q s nl : Nat) : Int32 := gpick (fun k => decide (ru k = q) && decide (vo k = 0) && !decide (s < fr k)) (fun k b => decide (fr b < fr k)) nl
theorem sLine_cases (ru fr vo : Nat → Nat) (q s : Nat) {nl : Nat} (h : nl ≤ 12) : sLine ru fr vo q s nl = -4 ∨ ∃ k, k < nl ∧ sLine ru fr vo q s nl = nI k := by
  rcases gpick_cases (fun k => decide (ru k = q) && decide (vo k = 0) && !decide (s < fr k)) (fun k b => decide (fr b < fr k)) nl (by omega) with e | ⟨k, h1, _, h3⟩
  · exact Or.inl e
  · exact Or.inr ⟨k, h1, h3⟩
theorem cl_lineIn {a nl q s : Nat} {ru fr nu vo : Nat → Nat} {m : gM} (h0 : m.1 a 0 = nI nl) (hnl : nl ≤ 12) (H : LawAt m.1 (a + 1, a + 2, a + 3, a + 4) nl ru fr nu vo) (hq : q ≤ 5) (hs : s ≤ 100) : f_Orders_lineIn a (nI q) (nI s) m = some (sLine ru fr vo q s nl, m) := by
  unfold f_Orders_lineIn L_Orders_lineIn_6
  refine gloopS (fun (f : Int32 → Int32 → Option (Int32 × gM)) j (s : Int32) => f s (nI j)) nl (fun j => sLine ru fr vo q s j) _ ?_ ?_ 1000 (by omega)
  · intro g j hj
    have hS : sLine ru fr vo q s (j + 1) = if ((decide (ru j = q) && decide (vo j = 0) && !decide (s < fr j)) && (decide (sLine ru fr vo q s j = -4) || decide (fr (sLine ru fr vo q s j).toNatClampNeg < fr j))) = true then nI j else sLine ru fr vo q s j := rfl
    have hp := sLine_cases ru fr vo q s (nl := j) (by omega)
    rw [hS]
    generalize sLine ru fr vo q s j = b at hp
    obtain ⟨e1, e2, e3, e4, e5, e6, e7, e8⟩ := H j hj
    dsimp only at e1 e2 e3 e4
    rcases hp with rfl | ⟨k, hk, rfl⟩
    · simp (disch := omega) only [gfd_eq, glet_eq, gbind_eq, nI_ltI, nI_1, gok_nI, grd_nI, nI_clamp, if_true, if_false, Nat.lt_irrefl, h0, hj, e1, e2, e3, e4, J_Orders_lineIn_69, J_Orders_lineIn_72, q0, nI_eq]
      by_cases h1 : ru j = q <;> by_cases h2 : vo j = 0 <;> by_cases h3 : s < fr j <;> simp [h1, h2, h3]
    · have h4 := nI_ne4 (k := k) (by omega)
      obtain ⟨f1, f2, f3, f4, f5, f6, f7, f8⟩ := H k (by omega)
      dsimp only at f1 f2 f3 f4
      simp (disch := omega) only [gfd_eq, glet_eq, gbind_eq, nI_ltI, nI_1, gok_nI, grd_nI, nI_clamp, if_true, if_false, Nat.lt_irrefl, h0, hj, e1, e2, e3, e4, f2, J_Orders_lineIn_69, J_Orders_lineIn_72, q0, nI_eq, h4]
      by_cases h1 : ru j = q <;> by_cases h2 : vo j = 0 <;> by_cases h3 : s < fr j <;> by_cases h5 : fr k < fr j <;> simp [h1, h2, h3, h5]
  · intro g
    simp (disch := omega) only [gfd_eq, glet_eq, gbind_eq, nI_ltI, nI_1, gok_nI, grd_nI, nI_clamp, if_true, if_false, Nat.lt_irrefl, h0]
theorem mo_lineAt {nl q s : Nat} {ru fr nu vo : Nat → Nat} {m : gM} (h0 : m.1 81 48 = nI nl) (hnl : nl ≤ 12) (H : LawAt m.1 (116, 117, 118, 119) nl ru fr nu vo) (hq : q ≤ 5) (hs : s ≤ 100) : f_MO_lineAt (nI q) (nI s) m = some (sLine ru fr vo q s nl, m) := by
  unfold f_MO_lineAt L_MO_lineAt_6
  refine gloopS (fun (f : Int32 → Int32 → Option (Int32 × gM)) j (s : Int32) => f s (nI j)) nl (fun j => sLine ru fr vo q s j) _ ?_ ?_ 1000 (by omega)
  · intro g j hj
    have hS : sLine ru fr vo q s (j + 1) = if ((decide (ru j = q) && decide (vo j = 0) && !decide (s < fr j)) && (decide (sLine ru fr vo q s j = -4) || decide (fr (sLine ru fr vo q s j).toNatClampNeg < fr j))) = true then nI j else sLine ru fr vo q s j := rfl
    have hp := sLine_cases ru fr vo q s (nl := j) (by omega)
    rw [hS]
    generalize sLine ru fr vo q s j = b at hp
    obtain ⟨e1, e2, e3, e4, e5, e6, e7, e8⟩ := H j hj
    dsimp only at e1 e2 e3 e4
    rcases hp with rfl | ⟨k, hk, rfl⟩
    · simp (disch := omega) only [gfd_eq, glet_eq, gbind_eq, nI_ltI, nI_1, gok_nI, grd_nI, nI_clamp, if_true, if_false, Nat.lt_irrefl, h0, hj, e1, e2, e3, e4, J_MO_lineAt_69, J_MO_lineAt_72, q0, nI_eq]
      by_cases h1 : ru j = q <;> by_cases h2 : vo j = 0 <;> by_cases h3 : s < fr j <;> simp [h1, h2, h3]
    · have h4 := nI_ne4 (k := k) (by omega)
      obtain ⟨f1, f2, f3, f4, f5, f6, f7, f8⟩ := H k (by omega)
      dsimp only at f1 f2 f3 f4
      simp (disch := omega) only [gfd_eq, glet_eq, gbind_eq, nI_ltI, nI_1, gok_nI, grd_nI, nI_clamp, if_true, if_false, Nat.lt_irrefl, h0, hj, e1, e2, e3, e4, f2, J_MO_lineAt_69, J_MO_lineAt_72, q0, nI_eq, h4]
      by_cases h1 : ru j = q <;> by_cases h2 : vo j = 0 <;> by_cases h3 : s < fr j <;> by_cases h5 : fr k < fr j <;> simp [h1, h2, h3, h5]
  · intro g
    simp (disch := omega) only [gfd_eq, glet_eq, gbind_eq, nI_ltI, nI_1, gok_nI, grd_nI, nI_clamp, if_true, if_false, Nat.lt_irrefl, h0]
def sNum (ru fr nu vo : Nat → Nat) (q s nl : Nat) : Nat := if sLine ru fr vo q s nl = -4 then 0 else nu (sLine ru fr vo q s nl).toNatClampNeg
theorem cl_numberIn {a nl q s : Nat} {ru fr nu vo : Nat → Nat} {m : gM} (h0 : m.1 a 0 = nI nl) (hnl : nl ≤ 12) (H : LawAt m.1 (a + 1, a + 2, a + 3, a + 4) nl ru fr nu vo) (hq : q ≤ 5) (hs : s ≤ 100) : f_Orders_numberIn a (nI q) (nI s) m = some (nI (sNum ru fr nu vo q s nl), m) := by
  unfold f_Orders_numberIn sNum
  simp (disch := omega) only [gfd_eq, glet_eq, gbind_eq, nI_ltI, nI_1, gok_nI, grd_nI, nI_clamp, if_true, if_false, Nat.lt_irrefl, cl_lineIn h0 hnl H hq hs]
  rcases sLine_cases ru fr vo q s hnl with e | ⟨k, hk, e⟩
  · simp (disch := omega) only [gfd_eq, glet_eq, gbind_eq, nI_ltI, nI_1, gok_nI, grd_nI, nI_clamp, if_true, if_false, Nat.lt_irrefl, e, q0]
  · obtain ⟨f1, f2, f3, f4, f5, f6, f7, f8⟩ := H k hk
    dsimp only at f3
    simp (disch := omega) only [gfd_eq, glet_eq, gbind_eq, nI_ltI, nI_1, gok_nI, grd_nI, nI_clamp, if_true, if_false, Nat.lt_irrefl, e, nI_ne4, f3]
def sExc (ru fr nu vo : Nat → Nat) (p : Int32) (s k : Nat) : Bool := decide (ru k = 5) && decide (vo k = 0) && !decide (s < fr k) && decide (nI (nu k) = p)
theorem cl_excepts {a nl s : Nat} {p : Int32} {ru fr nu vo : Nat → Nat} {m : gM} (h0 : m.1 a 0 = nI nl) (hnl : nl ≤ 12) (H : LawAt m.1 (a + 1, a + 2, a + 3, a + 4) nl ru fr nu vo) (hs : s ≤ 100) : f_Orders_excepts a p (nI s) m = some (if gany (sExc ru fr nu vo p s) nl = true then 1 else 0, m) := by
  unfold f_Orders_excepts L_Orders_excepts_2
  refine (gloopA (fun (f : Int32 → Option (Int32 × gM)) j (_ : Unit) => f (nI j)) nl (fun _ => ()) (sExc ru fr nu vo p s) (some (1, m)) (some (0, m)) ?_ ?_ 1000 (by omega)).trans ?_
  · intro g j hj
    obtain ⟨e1, e2, e3, e4, e5, e6, e7, e8⟩ := H j hj
    dsimp only at e1 e2 e3 e4
    simp (disch := omega) only [gfd_eq, glet_eq, gbind_eq, nI_ltI, nI_1, gok_nI, grd_nI, nI_clamp, if_true, if_false, Nat.lt_irrefl, h0, hj, e1, e2, e3, e4, J_Orders_excepts_51, q0, q5, nI_eq, sExc]
    by_cases h1 : ru j = 5 <;> by_cases h2 : vo j = 0 <;> by_cases h3 : s < fr j <;> by_cases h4 : nI (nu j) = p <;> simp [h1, h2, h3, h4]
  · intro g
    simp (disch := omega) only [gfd_eq, glet_eq, gbind_eq, nI_ltI, nI_1, gok_nI, grd_nI, nI_clamp, if_true, if_false, Nat.lt_irrefl, h0]
  · cases gany (sExc ru fr nu vo p s) nl <;> rfl
theorem mo_shift {hr : Nat} {m : gM} (h : m.1 81 2 = nI hr) (hh : hr < 2 ^ 31) : f_MO_shift m = some (nI (hr / 4), m) := by
  unfold f_MO_shift gnz
  rw [if_neg (by decide), gfd_eq, h, q4, pk_div hh (by decide) (by decide)]
theorem cl_shift {a hr : Nat} {m : gM} (h : m.1 a 4 = nI hr) (hh : hr < 2 ^ 31) : f_Town_shift a m = some (nI (hr / 4), m) := by
  unfold f_Town_shift gnz
  rw [if_neg (by decide), gfd_eq, h, q4, pk_div hh (by decide) (by decide)]
theorem mo_isExcepted {nl hr : Nat} {p : Int32} {ru fr nu vo : Nat → Nat} {m : gM} (h0 : m.1 81 48 = nI nl) (hnl : nl ≤ 12) (H : LawAt m.1 (116, 117, 118, 119) nl ru fr nu vo) (h2 : m.1 81 2 = nI hr) (hs : hr ≤ 300) : f_MO_isExcepted p m = some (if gany (sExc ru fr nu vo p (hr / 4)) nl = true then 1 else 0, m) := by
  unfold f_MO_isExcepted L_MO_isExcepted_4
  refine gloopS (fun (f : Int32 → Int32 → gM → Option (Int32 × gM)) j (b : Bool) => f (if b = true then 1 else 0) (nI j) m) nl (fun j => gany (sExc ru fr nu vo p (hr / 4)) j) _ ?_ ?_ 1000 (by omega)
  · intro g j hj
    obtain ⟨e1, e2, e3, e4, e5, e6, e7, e8⟩ := H j hj
    dsimp only at e1 e2 e3 e4
    show _ = g (if (gany (sExc ru fr nu vo p (hr / 4)) j || sExc ru fr nu vo p (hr / 4) j) = true then 1 else 0) _ _
    generalize gany (sExc ru fr nu vo p (hr / 4)) j = b
    cases b
    · simp (disch := omega) only [gfd_eq, glet_eq, gbind_eq, nI_ltI, nI_1, gok_nI, grd_nI, nI_clamp, if_true, if_false, Nat.lt_irrefl, h0, hj, e1, e2, e3, e4, J_MO_isExcepted_58, J_MO_isExcepted_62, J_MO_isExcepted_63, mo_shift h2 (by omega), q5, nI_eq, nI_eq0, sExc, Bool.false_eq_true, Bool.false_or]
      by_cases h1 : ru j = 5 <;> by_cases h2 : vo j = 0 <;> by_cases h3 : hr / 4 < fr j <;> by_cases h4 : nI (nu j) = p <;> simp [h1, h2, h3, h4]
    · simp (disch := omega) only [gfd_eq, glet_eq, gbind_eq, nI_ltI, nI_1, gok_nI, grd_nI, nI_clamp, if_true, if_false, Nat.lt_irrefl, h0, hj, J_MO_isExcepted_58, J_MO_isExcepted_63, Bool.true_or]
      rfl
  · intro g
    simp (disch := omega) only [gfd_eq, glet_eq, gbind_eq, nI_ltI, nI_1, gok_nI, grd_nI, nI_clamp, if_true, if_false, Nat.lt_irrefl, h0]
    exact gzo_b
def adiff (a b : Nat) : Nat := (a - b) + (b - a)
theorem nI_sub_lt {a b : Nat} (h : a < b) : nI a - nI b = -(nI (b - a)) := by
  rw [← pk_sub (by omega : a ≤ b), Int32.neg_sub]
theorem nI_neg_lt {k : Nat} (h0 : 0 < k) (h : k < 2 ^ 31) : -(nI k) < 0 := by
  rw [Int32.lt_iff_toInt_lt, Int32.toInt_neg, nI_toInt h, Int.bmod_def]
  have : (0 : Int32).toInt = 0 := by decide
  rw [this]
  have : (2 : Int) ^ 32 = 4294967296 := by decide
  omega
theorem gabs_nI {a b : Nat} (ha : a < 2 ^ 31) (hb : b < 2 ^ 31) : gabs (nI a - nI b) = nI (adiff a b) := by
  unfold gabs adiff
  by_cases h : b ≤ a
  · rw [pk_sub h, if_pos (nI_pos' (by omega)), show b - a = 0 by omega]; rfl
  · have := nI_neg_lt (k := b - a) (by omega) (by omega)
    rw [nI_sub_lt (by omega), if_neg (Int32.not_le.mpr this), show a - b = 0 by omega, Nat.zero_add, Int32.zero_sub, Int32.neg_neg]
def dist (w c d : Nat) : Nat := adiff (c % w) (d % w) + adiff (c / w) (d / w)
theorem cl_howFar {a w n c d : Nat} {m : gM} (hc : c < n) (hd : d < n) (hn : n ≤ 36) (h : ∀ c, c < n → m.1 (a + 1) c = nI (c % w) ∧ m.1 (a + 2) c = nI (c / w)) : f_Pool_howFar a (nI c) (nI d) m = some (nI (dist w c d), m) := by
  have b1 : ∀ x, x < n → x % w ≤ x := fun x _ => Nat.mod_le x w
  have b2 : ∀ x, x < n → x / w ≤ x := fun x _ => Nat.div_le_self x w
  have := b1 c hc
  have := b1 d hd
  have := b2 c hc
  have := b2 d hd
  unfold f_Pool_howFar
  simp (disch := omega) only [gfd_eq, glet_eq, gbind_eq, nI_ltI, nI_1, gok_nI, grd_nI, nI_clamp, if_true, if_false, Nat.lt_irrefl, (h c hc).1, (h c hc).2, (h d hd).1, (h d hd).2, gabs_nI, nI_add, dist]
theorem mo_howFar {w c d : Nat} {m : gM} (hc : c < 36) (hd : d < 36) (hw : 1 ≤ w ∧ w ≤ 6) (h : m.1 81 0 = nI w) : f_MO_howFar (nI c) (nI d) m = some (nI (dist w c d), m) := by
  have b1 := Nat.mod_le c w
  have b2 := Nat.mod_le d w
  have b3 := Nat.div_le_self c w
  have b4 := Nat.div_le_self d w
  have hw0 : ¬ nI w = 0 := nI_ne0 (by omega) (by omega)
  have fin : ∀ x y : Nat, x < 1000 → y < 1000 → ∀ z : Int32 → Option (Int32 × gM), (if nI x - nI y < 0 then z (-(nI x - nI y)) else z (nI x - nI y)) = z (nI (adiff x y)) := by
    intro x y hx hy z
    unfold adiff
    by_cases h : y ≤ x
    · rw [pk_sub h, if_neg (nI_pos (by omega)), show y - x = 0 by omega]; rfl
    · rw [nI_sub_lt (by omega), if_pos (nI_neg_lt (by omega) (by omega)), Int32.neg_neg, show x - y = 0 by omega, Nat.zero_add]
  unfold f_MO_howFar J_MO_howFar_39 J_MO_howFar_52 gnz
  simp (disch := omega) only [gfd_eq, h, hw0, if_false, glet_eq]
  rw [pk_rem (by omega) (by omega) (by omega), pk_rem (by omega) (by omega) (by omega), pk_div (a := c) (by omega) (by omega) (by omega), pk_div (a := d) (by omega) (by omega) (by omega)]
  rw [fin (c % w) (d % w) (by omega) (by omega) (fun v => if nI (c / w) - nI (d / w) < 0 then some (v + -(nI (c / w) - nI (d / w)), m) else some (v + (nI (c / w) - nI (d / w)), m)), fin (c / w) (d / w) (by omega) (by omega) (fun v => some (nI (adiff (c % w) (d % w)) + v, m)), nI_add]
  rfl
def gmn (p : Nat → Bool) (f : Nat → Nat) : Nat → Nat
  | 0 => 99
  | n + 1 => if p n = true then min (gmn p f n) (f n) else gmn p f n
theorem gmn_le (p : Nat → Bool) (f : Nat → Nat) : ∀ n, gmn p f n ≤ 99
  | 0 => Nat.le_refl _
  | n + 1 => by
    have := gmn_le p f n
    unfold gmn
    split <;> omega
theorem gmn_lt (p : Nat → Bool) (f : Nat → Nat) {v : Nat} (hv : v ≤ 99) : ∀ n, gmn p f n < v ↔ gany (fun k => p k && decide (f k < v)) n = true
  | 0 => by
    show 99 < v ↔ false = true
    simp
    exact hv
  | n + 1 => by
    have := gmn_lt p f hv n
    show gmn p f (n + 1) < v ↔ (gany (fun k => p k && decide (f k < v)) n || (p n && decide (f n < v))) = true
    rw [Bool.or_eq_true, ← this, show gmn p f (n + 1) = if p n = true then min (gmn p f n) (f n) else gmn p f n from rfl]
    cases p n
    · simp
    · simp only [if_true, Bool.true_and, decide_eq_true_eq]
      omega
theorem gmin_nI {a b : Nat} (ha : a < 2 ^ 31) (hb : b < 2 ^ 31) : gmin (nI a) (nI b) = nI (min a b) := by
  unfold gmin
  by_cases h : b < a
  · rw [if_pos (nI_lt h ha), show min a b = b by omega]
  · rw [if_neg (nI_nlt (by omega) hb), show min a b = a by omega]
theorem dist_le {w c d : Nat} (hc : c < 36) (hd : d < 36) : dist w c d ≤ 140 := by
  have b1 := Nat.mod_le c w
  have b2 := Nat.mod_le d w
  have b3 := Nat.div_le_self c w
  have b4 := Nat.div_le_self d w
  unfold dist adiff
  generalize c % w = x1 at *
  generalize d % w = x2 at *
  generalize c / w = x3 at *
  generalize d / w = x4 at *
  omega
theorem cl_strangerFrom {a w n c : Nat} {m : gM} (hc : c < n) (hn : n ≤ 36) (h0 : m.1 (a + 1) 2 = nI n) (h : ∀ c, c < n → m.1 (a + 1 + 1) c = nI (c % w) ∧ m.1 (a + 1 + 2) c = nI (c / w)) : f_Ground_strangerFrom a (nI c) m = some (nI (gmn (fun d => !decide (m.1 (a + 8) d = m.1 (a + 8) c)) (dist w c) n), m) := by
  unfold f_Ground_strangerFrom L_Ground_strangerFrom_5
  refine gloopS (fun (f : Int32 → Int32 → gM → Option (Int32 × gM)) j (s : Nat) => f (nI s) (nI j) m) n (fun j => gmn (fun d => !decide (m.1 (a + 8) d = m.1 (a + 8) c)) (dist w c) j) _ ?_ ?_ 1000 (by omega)
  · intro g j hj
    have hl := gmn_le (fun d => !decide (m.1 (a + 8) d = m.1 (a + 8) c)) (dist w c) j
    have hd := dist_le (w := w) (c := c) (d := j) (by omega) (by omega)
    simp (disch := omega) only [gfd_eq, glet_eq, gbind_eq, nI_ltI, nI_1, gok_nI, grd_nI, nI_clamp, if_true, if_false, Nat.lt_irrefl, h0, hj, cl_howFar hc hj hn h, gmin_nI, J_Ground_strangerFrom_45]
    show _ = g (nI (if (!decide (m.1 (a + 8) j = m.1 (a + 8) c)) = true then min (gmn (fun d => !decide (m.1 (a + 8) d = m.1 (a + 8) c)) (dist w c) j) (dist w c j) else gmn (fun d => !decide (m.1 (a + 8) d = m.1 (a + 8) c)) (dist w c) j)) _ _
    by_cases h1 : m.1 (a + 8) j = m.1 (a + 8) c <;> simp [h1]
  · intro g
    simp (disch := omega) only [gfd_eq, glet_eq, gbind_eq, nI_ltI, nI_1, gok_nI, grd_nI, nI_clamp, if_true, if_false, Nat.lt_irrefl, h0]
theorem cl_nearest {a w n c we : Nat} {wc : Nat → Nat} {m : gM} (hc : c < n) (hn : n ≤ 36) (h : ∀ c, c < n → m.1 (a + 2 + 1) c = nI (c % w) ∧ m.1 (a + 2 + 2) c = nI (c / w)) (hw0 : m.1 (a + 17) 0 = nI we) (hwe : we ≤ 10) (hwc : ∀ k, k < we → m.1 (a + 19) k = nI (wc k) ∧ wc k < n) : f_Town_nearestWellFrom a (nI c) m = some (nI (gmn (fun _ => true) (fun k => dist w c (wc k)) we), m) := by
  unfold f_Town_nearestWellFrom L_Town_nearestWellFrom_5
  refine gloopS (fun (f : Int32 → Int32 → gM → Option (Int32 × gM)) j (s : Nat) => f (nI s) (nI j) m) we (fun j => gmn (fun _ => true) (fun k => dist w c (wc k)) j) _ ?_ ?_ 1000 (by omega)
  · intro g j hj
    obtain ⟨e1, e2⟩ := hwc j hj
    have hl := gmn_le (fun _ => true) (fun k => dist w c (wc k)) j
    have hd := dist_le (w := w) (c := c) (d := wc j) (by omega) (by omega)
    simp (disch := omega) only [gfd_eq, glet_eq, gbind_eq, nI_ltI, nI_1, gok_nI, grd_nI, nI_clamp, if_true, if_false, Nat.lt_irrefl, hw0, hj, e1, cl_howFar hc e2 hn h, gmin_nI]
    rfl
  · intro g
    simp (disch := omega) only [gfd_eq, glet_eq, gbind_eq, nI_ltI, nI_1, gok_nI, grd_nI, nI_clamp, if_true, if_false, Nat.lt_irrefl, hw0]

/-- why a person may not drill -/
def sWhy (hold : Int32) (p lc : Int32) (ex st we : Bool) : Int32 := if lc = -4 then 1 else if ¬ hold = p then 1 else if ex = true then 0 else if st = true then 2 else if we = true then 3 else 0
def sNear (lt : Nat → Int32) (w c near d : Nat) : Bool := !decide (lt d = lt c) && decide (dist w c d < near)
def sApart (wc : Nat → Nat) (w c ap k : Nat) : Bool := true && decide (dist w c (wc k) < ap)
theorem cl_whyNotUnder {b a w n c we le nl hr near ap : Nat} {p : Int32} {wc ru fr nu vo : Nat → Nat} {m : gM} (hc : c < n) (hn : n ≤ 36) (h0 : m.1 (a + 2) 2 = nI n) (h : ∀ c, c < n → m.1 (a + 3) c = nI (c % w) ∧ m.1 (a + 4) c = nI (c / w)) (hw0 : m.1 (a + 17) 0 = nI we) (hwe : we ≤ 10) (hwc : ∀ k, k < we → m.1 (a + 19) k = nI (wc k) ∧ wc k < n)
    (hl0 : m.1 (a + 11) 1 = nI le) (hle : le ≤ 12) (hlot : ∀ c, c < 36 → m.1 (a + 9) c = -4 ∨ ∃ l, l < 8 ∧ m.1 (a + 9) c = nI l) (g0 : m.1 b 0 = nI nl) (hnl : nl ≤ 12) (H : LawAt m.1 (b + 1, b + 2, b + 3, b + 4) nl ru fr nu vo) (hh : m.1 a 4 = nI hr) (hhr : hr ≤ 300) (hne : near ≤ 99) (hap : ap ≤ 99) :
    f_Orders_whyNotUnder b a p (nI c) (nI near) (nI ap) m = some (sWhy (sHolder (sEnded (m.1 a 4) (m.1 (a + 15)) (m.1 (a + 14)) (m.1 (a + 13)) (m.1 (a + 18)) (m.1 (a + 19)) (m.1 (a + 9)) we) (m.1 (a + 12)) (m.1 (a + 13)) (m.1 (a + 14)) (m.1 (a + 16)) (m.1 (a + 9) c).toNatClampNeg le) p (m.1 (a + 9) c) (gany (sExc ru fr nu vo p (hr / 4)) nl) (gany (sNear (m.1 (a + 9)) w c near) n) (gany (sApart wc w c ap) we), m) := by
  unfold f_Orders_whyNotUnder sWhy
  have hc36 : ∀ k, k < we → ∃ c, c < 36 ∧ m.1 (a + 19) k = nI c := fun k hk => ⟨wc k, by have := (hwc k hk).2; omega, (hwc k hk).1⟩
  rcases hlot c (by omega) with e | ⟨l, hl, e⟩
  · simp (disch := omega) only [gfd_eq, glet_eq, gbind_eq, nI_ltI, nI_1, gok_nI, grd_nI, nI_clamp, if_true, if_false, Nat.lt_irrefl, e]
  · have e4 := nI_ne4 (k := l) (by omega)
    have st := cl_strangerFrom (a := a + 1) (w := w) (m := m) hc hn h0 h
    have nw := cl_nearest (a := a) (w := w) (m := m) hc hn h hw0 hwe hwc
    have x1 := gmn_lt (fun d => !decide (m.1 (a + 1 + 8) d = m.1 (a + 1 + 8) c)) (dist w c) hne n
    have x2 := gmn_lt (fun _ => true) (fun k => dist w c (wc k)) hap we
    have l1 := gmn_le (fun d => !decide (m.1 (a + 1 + 8) d = m.1 (a + 1 + 8) c)) (dist w c) n
    have l2 := gmn_le (fun _ => true) (fun k => dist w c (wc k)) we
    have x1 : _ ↔ gany (sNear (m.1 (a + 9)) w c near) n = true := x1
    have x2 : _ ↔ gany (sApart wc w c ap) we = true := x2
    simp (disch := omega) only [gfd_eq, glet_eq, gbind_eq, nI_ltI, nI_1, gok_nI, grd_nI, nI_clamp, if_true, if_false, Nat.lt_irrefl, e, e4, cl_holderOf (a := a) hl hl0 hle hw0 hwe hc36, cl_shift hh (by omega), cl_excepts g0 hnl H (s := hr / 4) (by omega), st, nw]
    rw [← e] at *
    generalize gmn (fun d => !decide (m.1 (a + 1 + 8) d = m.1 (a + 1 + 8) c)) (dist w c) n = u1 at *
    generalize gmn (fun _ => true) (fun k => dist w c (wc k)) we = u2 at *
    simp (disch := omega) only [gfd_eq, glet_eq, gbind_eq, nI_ltI, nI_1, gok_nI, grd_nI, nI_clamp, if_true, if_false, Nat.lt_irrefl, x1, x2]
    generalize sHolder (sEnded (m.1 a 4) (m.1 (a + 15)) (m.1 (a + 14)) (m.1 (a + 13)) (m.1 (a + 18)) (m.1 (a + 19)) (m.1 (a + 9)) we) (m.1 (a + 12)) (m.1 (a + 13)) (m.1 (a + 14)) (m.1 (a + 16)) l le = hold
    by_cases k1 : hold = p <;> cases gany (sExc ru fr nu vo p (hr / 4)) nl <;> cases gany (sNear (m.1 (a + 9)) w c near) n <;> cases gany (sApart wc w c ap) we <;> simp [k1]
theorem mo_whyNot {w h9 n c we le nl hr near ap : Nat} {p : Int32} {wc ru fr nu vo : Nat → Nat} {m : gM} (hc : c < n) (hn : n ≤ 36) (hw : 1 ≤ w ∧ w ≤ 6) (h0 : m.1 81 0 = nI w) (h1 : m.1 81 1 = nI h9) (hwh : w * h9 = n) (hw0 : m.1 81 15 = nI we) (hwe : we ≤ 14) (hwc : ∀ k, k < we → m.1 93 k = nI (wc k) ∧ wc k < n)
    (hl0 : m.1 81 10 = nI le) (hle : le ≤ 12) (hlot : ∀ c, c < 36 → m.1 85 c = -4 ∨ ∃ l, l < 8 ∧ m.1 85 c = nI l) (g0 : m.1 81 48 = nI nl) (hnl : nl ≤ 12) (H : LawAt m.1 (116, 117, 118, 119) nl ru fr nu vo) (hh : m.1 81 2 = nI hr) (hhr : hr ≤ 300) (hne : near ≤ 99) (hap : ap ≤ 99) :
    f_MO_whyNot p (nI c) (nI near) (nI ap) m = some (sWhy (sHolder (sEnded (m.1 81 2) (m.1 90) (m.1 89) (m.1 88) (m.1 92) (m.1 93) (m.1 85) we) (m.1 87) (m.1 88) (m.1 89) (m.1 91) (m.1 85 c).toNatClampNeg le) p (m.1 85 c) (gany (sExc ru fr nu vo p (hr / 4)) nl) (gany (sNear (m.1 85) w c near) n) (gany (sApart wc w c ap) we), m) := by
  have hcells : f_MO_cells m = some (nI n, m) := by
    unfold f_MO_cells
    rw [gfd_eq, gfd_eq, h0, h1, pk_mul, hwh]
  have hc36 : ∀ k, k < we → ∃ c, c < 36 ∧ m.1 93 k = nI c := fun k hk => ⟨wc k, by have := (hwc k hk).2; omega, (hwc k hk).1⟩
  have l2 : L_MO_whyNot_87 (nI c) (nI ap) 1000 0 m = some (if gany (sApart wc w c ap) we = true then 3 else 0, m) := by
    unfold L_MO_whyNot_87
    refine (gloopA (fun (f : Int32 → gM → Option (Int32 × gM)) j (_ : Unit) => f (nI j) m) we (fun _ => ()) (sApart wc w c ap) (some (3, m)) (some (0, m)) ?_ ?_ 1000 (by omega)).trans ?_
    · intro g j hj
      obtain ⟨e1, e2⟩ := hwc j hj
      have hd := dist_le (w := w) (c := c) (d := wc j) (by omega) (by omega)
      simp (disch := omega) only [gfd_eq, glet_eq, gbind_eq, nI_ltI, nI_1, gok_nI, grd_nI, nI_clamp, if_true, if_false, Nat.lt_irrefl, hw0, hj, e1, mo_howFar (w := w) (c := c) (d := wc j) (m := m) (by omega) (by omega) hw h0, sApart, Bool.true_and, decide_eq_true_eq]
    · intro g
      simp (disch := omega) only [gfd_eq, glet_eq, gbind_eq, nI_ltI, nI_1, gok_nI, grd_nI, nI_clamp, if_true, if_false, Nat.lt_irrefl, hw0]
    · cases gany (sApart wc w c ap) we <;> rfl
  have l1 : L_MO_whyNot_40 (nI c) (nI near) (fun v3 m3 => J_MO_whyNot_84 (nI c) (nI ap) v3 m3) 1000 0 m = if gany (sNear (m.1 85) w c near) n = true then some (2, m) else some (if gany (sApart wc w c ap) we = true then 3 else 0, m) := by
    unfold L_MO_whyNot_40
    refine gloopA (fun (f : Int32 → gM → Option (Int32 × gM)) j (_ : Unit) => f (nI j) m) n (fun _ => ()) (sNear (m.1 85) w c near) (some (2, m)) _ ?_ ?_ 1000 (by omega)
    · intro g j hj
      have hd := dist_le (w := w) (c := c) (d := j) (by omega) (by omega)
      simp (disch := omega) only [gfd_eq, glet_eq, gbind_eq, nI_ltI, nI_1, gok_nI, grd_nI, nI_clamp, if_true, if_false, Nat.lt_irrefl, hcells, hj, mo_howFar (w := w) (c := c) (d := j) (m := m) (by omega) (by omega) hw h0, sNear, J_MO_whyNot_78]
      by_cases z1 : m.1 85 j = m.1 85 c <;> by_cases z2 : dist w c j < near <;> simp [z1, z2]
    · intro g
      simp (disch := omega) only [gfd_eq, glet_eq, gbind_eq, nI_ltI, nI_1, gok_nI, grd_nI, nI_clamp, if_true, if_false, Nat.lt_irrefl, hcells, J_MO_whyNot_84, l2]
  unfold f_MO_whyNot sWhy
  rcases hlot c (by omega) with e | ⟨l, hl, e⟩
  · simp (disch := omega) only [gfd_eq, glet_eq, gbind_eq, nI_ltI, nI_1, gok_nI, grd_nI, nI_clamp, if_true, if_false, Nat.lt_irrefl, e]
  · have e4 := nI_ne4 (k := l) (by omega)
    simp (disch := omega) only [gfd_eq, glet_eq, gbind_eq, nI_ltI, nI_1, gok_nI, grd_nI, nI_clamp, if_true, if_false, Nat.lt_irrefl, e, e4, mo_holderOf hl hl0 hle hw0 hwe hc36, mo_isExcepted g0 hnl H hh hhr, l1]
    generalize sHolder (sEnded (m.1 81 2) (m.1 90) (m.1 89) (m.1 88) (m.1 92) (m.1 93) (m.1 85) we) (m.1 87) (m.1 88) (m.1 89) (m.1 91) l le = hold
    by_cases k1 : hold = p <;> cases gany (sExc ru fr nu vo p (hr / 4)) nl <;> cases gany (sNear (m.1 85) w c near) n <;> cases gany (sApart wc w c ap) we <;> simp [k1]
