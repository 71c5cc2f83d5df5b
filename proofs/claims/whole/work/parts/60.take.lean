/-! ===== oil taken out of a cell, lot by lot ===== -/
theorem gsum_add (f g : Nat → Nat) : ∀ n, gsum (fun i => f i + g i) n = gsum f n + gsum g n
  | 0 => rfl
  | n + 1 => by
    show gsum (fun i => f i + g i) n + (f n + g n) = gsum f n + f n + (gsum g n + g n)
    rw [gsum_add f g n]
    omega
theorem gsum_mul (a : Nat) (f : Nat → Nat) : ∀ n, gsum (fun i => a * f i) n = a * gsum f n
  | 0 => rfl
  | n + 1 => by
    show gsum (fun i => a * f i) n + a * f n = a * (gsum f n + f n)
    rw [gsum_mul a f n, Nat.mul_add]
theorem gsum_mono (f : Nat → Nat) {j n : Nat} (h : j ≤ n) : gsum f j ≤ gsum f n := by
  obtain ⟨k, rfl⟩ : ∃ k, n = j + k := ⟨n - j, by omega⟩
  clear h
  induction k with
  | zero => exact Nat.le_refl _
  | succ k ih => exact Nat.le_trans ih (Nat.le_add_right _ _)
theorem gsum_one (f : Nat → Nat) {j n : Nat} (h : j < n) : gsum f j + f j ≤ gsum f n := gsum_mono f (show j + 1 ≤ n by omega)
theorem gsum_congr {f g : Nat → Nat} : ∀ {n : Nat}, (∀ i, i < n → f i = g i) → gsum f n = gsum g n
  | 0, _ => rfl
  | n + 1, h => by
    show gsum f n + f n = gsum g n + g n
    rw [gsum_congr (n := n) (fun i hi => h i (by omega)), h n (by omega)]
theorem osum_eq (f : Nat → Nat) (c : Nat) : osum f c = gsum (fun l => f (9 * c + l)) 9 := by
  show _ = 0 + f (9 * c) + f (9 * c + 1) + f (9 * c + 2) + f (9 * c + 3) + f (9 * c + 4) + f (9 * c + 5) + f (9 * c + 6) + f (9 * c + 7) + f (9 * c + 8)
  unfold osum
  omega
theorem osum_one (f : Nat → Nat) (c : Nat) {l : Nat} (hl : l < 9) : f (9 * c + l) ≤ osum f c := by
  rw [osum_eq]
  have := gsum_one (fun l => f (9 * c + l)) hl
  omega
/-- what each lot gives at first; what is lacking before lot l; what it gives -/
def tkp (f : Nat → Nat) (c n l : Nat) : Nat := n * f (9 * c + l) / osum f c
def tkl (f : Nat → Nat) (c n : Nat) : Nat → Nat
  | 0 => n - gsum (tkp f c n) 9
  | l + 1 => if 0 < tkl f c n l ∧ tkp f c n l < f (9 * c + l) then tkl f c n l - 1 else tkl f c n l
def tk (f : Nat → Nat) (c n l : Nat) : Nat := if 0 < tkl f c n l ∧ tkp f c n l < f (9 * c + l) then tkp f c n l + 1 else tkp f c n l
def tkO (f : Nat → Nat) (c n : Nat) : Nat → Nat := fun q => if 9 * c ≤ q ∧ q < 9 * c + 9 then f q - tk f c n (q - 9 * c) else f q
section TK
variable {f : Nat → Nat} {c n : Nat}
theorem tkp_le (hn : n ≤ osum f c) (l : Nat) : tkp f c n l ≤ f (9 * c + l) := by
  unfold tkp
  rcases Nat.eq_zero_or_pos (osum f c) with e | e
  · rw [e, Nat.div_zero]; exact Nat.zero_le _
  · refine Nat.div_le_of_le_mul ?_
    exact Nat.mul_le_mul_right _ hn
theorem tkp_sum : gsum (tkp f c n) 9 ≤ n := by
  rcases Nat.eq_zero_or_pos (osum f c) with e | e
  · have : gsum (tkp f c n) 9 ≤ gsum (fun _ => 0) 9 := gsum_le (fun i _ => by unfold tkp; rw [e, Nat.div_zero]; exact Nat.le_refl 0)
    exact Nat.le_trans this (Nat.zero_le _)
  · have h1 : gsum (fun l => osum f c * tkp f c n l) 9 ≤ gsum (fun l => n * f (9 * c + l)) 9 := gsum_le (fun i _ => by unfold tkp; exact Nat.mul_div_le _ _)
    rw [gsum_mul, gsum_mul, ← osum_eq, Nat.mul_comm] at h1
    exact Nat.le_of_mul_le_mul_right h1 e
theorem tk_le (hn : n ≤ osum f c) (l : Nat) : tk f c n l ≤ f (9 * c + l) := by
  unfold tk
  have := tkp_le hn l
  by_cases h : 0 < tkl f c n l ∧ tkp f c n l < f (9 * c + l)
  · rw [if_pos h]; exact h.2
  · rw [if_neg h]; exact this
theorem tk_run : ∀ j, gsum (tk f c n) j + tkl f c n j = gsum (tkp f c n) j + tkl f c n 0
  | 0 => rfl
  | j + 1 => by
    have ih := tk_run j
    show gsum (tk f c n) j + tk f c n j + tkl f c n (j + 1) = gsum (tkp f c n) j + tkp f c n j + tkl f c n 0
    have h2 : tk f c n j + tkl f c n (j + 1) = tkp f c n j + tkl f c n j := by
      show tk f c n j + (if 0 < tkl f c n j ∧ tkp f c n j < f (9 * c + j) then tkl f c n j - 1 else tkl f c n j) = _
      unfold tk
      by_cases h : 0 < tkl f c n j ∧ tkp f c n j < f (9 * c + j)
      · rw [if_pos h, if_pos h]; omega
      · rw [if_neg h, if_neg h]
    omega
/-- how many lots can give one more -/
def tke (f : Nat → Nat) (c n l : Nat) : Nat := if tkp f c n l < f (9 * c + l) then 1 else 0
theorem tk_elig : ∀ j, tkl f c n j = 0 ∨ tkl f c n j + gsum (tke f c n) j = tkl f c n 0
  | 0 => Or.inr rfl
  | j + 1 => by
    show (if 0 < tkl f c n j ∧ tkp f c n j < f (9 * c + j) then tkl f c n j - 1 else tkl f c n j) = 0 ∨ (if 0 < tkl f c n j ∧ tkp f c n j < f (9 * c + j) then tkl f c n j - 1 else tkl f c n j) + (gsum (tke f c n) j + tke f c n j) = tkl f c n 0
    unfold tke
    rcases tk_elig j with h | h
    · left
      rw [if_neg (by omega)]; exact h
    · by_cases h1 : tkp f c n j < f (9 * c + j)
      · by_cases h2 : 0 < tkl f c n j
        · rw [if_pos ⟨h2, h1⟩, if_pos h1]; right; unfold tke at h; omega
        · left; rw [if_neg (by omega)]; omega
      · rw [if_neg (fun z => h1 z.2), if_neg h1]; right; unfold tke at h; omega
theorem tk_enough (hn : n ≤ osum f c) : tkl f c n 9 = 0 := by
  rcases tk_elig (f := f) (c := c) (n := n) 9 with h | h
  · exact h
  · have key : tkl f c n 0 ≤ gsum (tke f c n) 9 := by
      show n - gsum (tkp f c n) 9 ≤ _
      rcases Nat.eq_zero_or_pos (osum f c) with e | e
      · omega
      · have h1 : gsum (fun l => n * f (9 * c + l)) 9 ≤ gsum (fun l => osum f c * (tkp f c n l + tke f c n l)) 9 := by
          refine gsum_le (fun i _ => ?_)
          have hp := tkp_le hn i
          unfold tke
          by_cases h2 : tkp f c n i < f (9 * c + i)
          · rw [if_pos h2]
            unfold tkp
            exact Nat.le_of_lt (Nat.lt_mul_div_succ _ e)
          · rw [if_neg h2, Nat.add_zero, show tkp f c n i = f (9 * c + i) by omega]
            exact Nat.mul_le_mul_right _ hn
        rw [gsum_mul, gsum_mul, ← osum_eq, gsum_add, Nat.mul_comm] at h1
        have := Nat.le_of_mul_le_mul_left h1 e
        omega
    omega
theorem tk_sum (hn : n ≤ osum f c) : gsum (tk f c n) 9 = n := by
  have h1 := tk_run (f := f) (c := c) (n := n) 9
  have h2 := tk_enough hn
  have h3 := tkp_sum (f := f) (c := c) (n := n)
  have h4 : tkl f c n 0 = n - gsum (tkp f c n) 9 := rfl
  omega
theorem tk_still {j : Nat} (h : tkl f c n j = 0) : ∀ l, j ≤ l → tkl f c n l = 0 ∧ tk f c n l = tkp f c n l := by
  intro l hl
  obtain ⟨k, rfl⟩ : ∃ k, l = j + k := ⟨l - j, by omega⟩
  clear hl
  have z : tkl f c n (j + k) = 0 := by
    induction k with
    | zero => exact h
    | succ k ih =>
      show (if 0 < tkl f c n (j + k) ∧ tkp f c n (j + k) < f (9 * c + (j + k)) then tkl f c n (j + k) - 1 else tkl f c n (j + k)) = 0
      rw [ih, if_neg (by omega)]
  refine ⟨z, ?_⟩
  unfold tk
  rw [z, if_neg (by omega)]
theorem tkO_sum (hn : n ≤ osum f c) (d : Nat) : osum (tkO f c n) d = if d = c then osum f c - n else osum f d := by
  by_cases h : d = c
  · subst h
    rw [if_pos rfl]
    have e : gsum (fun l => tkO f d n (9 * d + l)) 9 + gsum (tk f d n) 9 = gsum (fun l => f (9 * d + l)) 9 := by
      rw [← gsum_add]
      refine gsum_congr (fun i hi => ?_)
      have := tk_le hn i
      unfold tkO
      rw [if_pos (by omega), show 9 * d + i - 9 * d = i by omega]
      omega
    rw [← osum_eq, ← osum_eq, tk_sum hn] at e
    omega
  · rw [if_neg h, osum_eq, osum_eq]
    refine gsum_congr (fun i hi => ?_)
    unfold tkO
    rw [if_neg (by omega)]
theorem tkO_le (q : Nat) : tkO f c n q ≤ f q := by
  unfold tkO
  by_cases h : 9 * c ≤ q ∧ q < 9 * c + 9
  · rw [if_pos h]; omega
  · rw [if_neg h]; omega
end TK
theorem nI_m1 {k : Nat} (h : 0 < k) : nI k + (-1) = nI (k - 1) := by
  obtain ⟨j, rfl⟩ : ∃ j, k = j + 1 := ⟨k - 1, by omega⟩
  rw [show j + 1 - 1 = j by omega, ← nI_pred j, Int32.sub_eq_add_neg]
theorem lt0_nI {k : Nat} (h : k < 2 ^ 31) : (0 < nI k) ↔ 0 < k := nI_ltI (a := 0) (by decide) h
/-- rows while oil is taken -/
def tkR (old : Nat → Int32) (f : Nat → Nat) (c n j : Nat) : Nat → Int32 := fun q => if q < j then nI (tk f c n q) else if q < 9 then nI (tkp f c n q) else old q
def tkS (f : Nat → Nat) (c n j : Nat) : Nat → Int32 := fun q => if 9 * c ≤ q ∧ q < 9 * c + j then nI (f q - tk f c n (q - 9 * c)) else nI (f q)
def tkQ (old : Nat → Int32) (f : Nat → Nat) (c n j : Nat) : Nat → Int32 := fun q => if q < j then nI (tkp f c n q) else old q
theorem tkQ_s (N : gN) (a : Nat) (f : Nat → Nat) (c n j : Nat) : gup (grw N a (tkQ (N a) f c n j)) a j (nI (tkp f c n j)) = grw N a (tkQ (N a) f c n (j + 1)) := by
  rw [gup_grw, grw_grw, grw_eq]
  congr 1
  funext q
  unfold tkQ
  by_cases h : q = j
  · rw [if_pos h, if_pos (by omega), h]
  · rw [if_neg h]
    by_cases h2 : q < j
    · rw [if_pos h2, if_pos (by omega)]
    · rw [if_neg h2, if_neg (by omega)]
theorem tkQ_9 (old : Nat → Int32) (f : Nat → Nat) (c n : Nat) : tkQ old f c n 9 = tkR old f c n 0 := by
  funext q
  unfold tkQ tkR
  rw [if_neg (show ¬ q < 0 by omega)]
theorem tkS_0 (f : Nat → Nat) (c n : Nat) : tkS f c n 0 = fun i => nI (f i) := by
  funext q
  unfold tkS
  rw [if_neg (by omega)]
theorem tkS_9 (f : Nat → Nat) (c n : Nat) : tkS f c n 9 = fun i => nI (tkO f c n i) := by
  funext q
  show tkS f c n 9 q = nI (tkO f c n q)
  unfold tkS tkO
  by_cases h : 9 * c ≤ q ∧ q < 9 * c + 9
  · rw [if_pos h, if_pos h]
  · rw [if_neg h, if_neg h]
theorem tkR_s (N : gN) (a : Nat) (old : Nat → Int32) (f : Nat → Nat) (c n : Nat) {j : Nat} (hj : j < 9) : gup (grw N a (tkR old f c n j)) a j (nI (tk f c n j)) = grw N a (tkR old f c n (j + 1)) := by
  rw [gup_grw, grw_grw, grw_eq]
  congr 1
  funext q
  unfold tkR
  by_cases h : q = j
  · rw [if_pos h, if_pos (by omega), h]
  · rw [if_neg h]
    by_cases h2 : q < j
    · rw [if_pos h2, if_pos (by omega)]
    · rw [if_neg h2, if_neg (show ¬ q < j + 1 by omega)]
theorem tkR_same (old : Nat → Int32) (f : Nat → Nat) (c n : Nat) {j : Nat} (h : tk f c n j = tkp f c n j) (hj : j < 9) : tkR old f c n (j + 1) = tkR old f c n j := by
  funext q
  unfold tkR
  by_cases e : q = j
  · subst e
    rw [if_pos (by omega), if_neg (by omega), if_pos hj, h]
  · by_cases h2 : q < j
    · rw [if_pos h2, if_pos (by omega)]
    · rw [if_neg h2, if_neg (by omega)]
theorem tkS_s (N : gN) (a : Nat) (f : Nat → Nat) (c n j : Nat) : gup (grw N a (tkS f c n j)) a (9 * c + j) (nI (f (9 * c + j) - tk f c n j)) = grw N a (tkS f c n (j + 1)) := by
  rw [gup_grw, grw_grw, grw_eq]
  congr 1
  funext q
  unfold tkS
  by_cases h : q = 9 * c + j
  · rw [if_pos h, if_pos (by omega), h, show 9 * c + j - 9 * c = j by omega]
  · rw [if_neg h]
    by_cases h2 : 9 * c ≤ q ∧ q < 9 * c + j
    · rw [if_pos h2, if_pos (by omega)]
    · rw [if_neg h2, if_neg (by omega)]
theorem grw_comm (N : gN) {a b : Nat} (h : a ≠ b) (f g : Nat → Int32) : grw (grw N a f) b g = grw (grw N b g) a f := by
  funext p
  by_cases h1 : p = a
  · subst h1
    rw [grw_ne h, grw_eq, grw_eq]
  · by_cases h2 : p = b
    · subst h2
      rw [grw_eq, grw_ne h1, grw_eq]
    · rw [grw_ne h2, grw_ne h1, grw_ne h1, grw_ne h2]
theorem gup_grw2 (N : gN) {a b : Nat} (h : a ≠ b) (f : Nat → Int32) (i : Nat) (x : Int32) : gup (grw N a f) b i x = grw (gup N b i x) a f := by
  rw [gup_grw, gup_grw, grw_ne (Ne.symm h), grw_comm N h]
/-- the same out of the machine: the town's side -/
theorem long_div {a b d : Nat} (ha : a < 2 ^ 31) (hb : b < 2 ^ 31) (hd : d < 2 ^ 31) (h0 : 0 < d) : Int64.toInt32 ((nI a).toInt64 * (nI b).toInt64 / (nI d).toInt64) = nI (a * b / d) := by
  have hab : a * b < 2 ^ 31 * 2 ^ 31 := Nat.mul_lt_mul_of_lt_of_lt ha hb
  rw [nI_l ha, nI_l hb, nI_l hd, lN_mul, pk_lDiv (Nat.lt_of_lt_of_le hab (by decide)) h0 (Nat.lt_of_lt_of_le hd (by decide)), lN_i]
theorem gnzL_ok {R : Type} {d : Nat} {o : Option R} (hd : d < 2 ^ 31) (h0 : 0 < d) : gnzL (nI d).toInt64 o = o := by
  refine if_neg (fun e => ?_)
  rw [nI_l hd] at e
  have := (lN_eq (b := 0) hd (by decide)).mp e
  omega
theorem gnz_ok {R : Type} {d : Nat} {o : Option R} (hd : d < 2 ^ 31) (h0 : 0 < d) : gnz (nI d) o = o := by
  refine if_neg (fun e => ?_)
  have := (nI_eq (b := 0) hd (by decide)).mp e
  omega
theorem cl_take {f : Nat → Nat} {c n p3 : Nat} {m : gM} (hc : c < 36) (h11 : m.1 11 = fun i => nI (f i)) (h9 : m.1 9 c = nI (osum f c)) (hn : n ≤ osum f c) (hb : osum f c < 2 ^ 31) (hp : p3 ≠ 9 ∧ p3 ≠ 11) : f_Ground_take 2 (nI c) (nI n) p3 m = some (gup (grw (grw m.1 p3 (tkR (m.1 p3) f c n 9)) 11 (fun i => nI (tkO f c n i))) 9 c (nI (osum f c - n)), m.2) := by
  have hf : ∀ l, l < 9 → f (9 * c + l) < 2 ^ 31 := fun l hl => Nat.lt_of_le_of_lt (osum_one f c hl) hb
  have hps := tkp_sum (f := f) (c := c) (n := n)
  have L1 : ∀ k, L_Ground_take_23 2 (nI c) (nI n) p3 (nI (osum f c)) k 1000 (nI n) 0 m = k (nI (tkl f c n 0)) (nI 9) (grw m.1 p3 (tkR (m.1 p3) f c n 0), m.2) := by
    intro k
    unfold L_Ground_take_23
    refine gloopS0 (fun (g : Int32 → Int32 → gM → Option gM) j (s : Int32 × gM) => g s.1 (nI j) s.2) 9 (fun j => (nI (n - gsum (tkp f c n) j), (grw m.1 p3 (tkQ (m.1 p3) f c n j), m.2))) _ (s0 := (nI n, m)) ?_ ?_ ?_ 1000 (by omega)
    · show (nI (n - 0), (grw m.1 p3 (tkQ (m.1 p3) f c n 0), m.2)) = (nI n, m)
      have : tkQ (m.1 p3) f c n 0 = m.1 p3 := by
        funext q
        unfold tkQ
        rw [if_neg (by omega)]
      rw [this, grw_id]
      rfl
    · intro g j hj
      have e11 : grw m.1 p3 (tkQ (m.1 p3) f c n j) 11 (9 * c + j) = nI (f (9 * c + j)) := by rw [grw_ne (Ne.symm hp.2), h11]
      have hs := gsum_one (tkp f c n) hj
      have fj := hf j hj
      have eQ : grw m.1 p3 (tkQ (m.1 p3) f c n (j + 1)) p3 j = nI (tkp f c n j) := by
        rw [← tkQ_s]
        exact gup_at _ _ _ _
      have eS : nI (n - gsum (tkp f c n) j) - nI (tkp f c n j) = nI (n - gsum (tkp f c n) (j + 1)) := by
        rw [pk_sub (by omega), Nat.sub_sub]
        rfl
      unfold J_Ground_take_61
      by_cases h0 : 0 < osum f c
      · have ep : Int64.toInt32 ((nI n).toInt64 * (nI (f (9 * c + j))).toInt64 / (nI (osum f c)).toInt64) = nI (tkp f c n j) := long_div (by omega) fj hb h0
        simp (disch := omega) only [gfd_eq, glet_eq, gbind_eq, nI_ltI, nI_1, gok_nI, grd_nI, nI_clamp, if_true, if_false, Nat.lt_irrefl, hj, q9, lt0_nI, h0, pk_mul, nI_add, Nat.mul_comm c 9, gnzL_ok, e11, ep, gst_nI, eQ, eS, tkQ_s, i10, gokT]
      · have ep : (0 : Int32) = nI (tkp f c n j) := by
          unfold tkp
          rw [show osum f c = 0 by omega, Nat.div_zero]
          rfl
        rw [← ep] at eQ eS
        have eT := tkQ_s m.1 p3 f c n j
        rw [← ep] at eT
        simp (disch := omega) only [gfd_eq, glet_eq, gbind_eq, nI_ltI, nI_1, gok_nI, grd_nI, nI_clamp, if_true, if_false, Nat.lt_irrefl, hj, q9, lt0_nI, h0, gst_nI, eQ, eS, eT, i10, gokT]
    · intro g
      simp (disch := omega) only [gfd_eq, glet_eq, gbind_eq, nI_ltI, nI_1, gok_nI, grd_nI, nI_clamp, if_true, if_false, Nat.lt_irrefl, q9, tkQ_9, i10, gokT]
      rfl
  have L2 : ∀ k, L_Ground_take_80 2 p3 (nI (9 * c)) k 1000 (nI (tkl f c n 0)) 0 (grw m.1 p3 (tkR (m.1 p3) f c n 0), m.2) = k (nI (tkl f c n 9)) (nI 9) (grw (grw m.1 p3 (tkR (m.1 p3) f c n 9)) 11 (tkS f c n 9), m.2) := by
    intro k
    unfold L_Ground_take_80
    refine gloopS0 (fun (g : Int32 → Int32 → gM → Option gM) j (s : Int32 × gM) => g s.1 (nI j) s.2) 9 (fun j => (nI (tkl f c n j), (grw (grw m.1 p3 (tkR (m.1 p3) f c n j)) 11 (tkS f c n j), m.2))) _ (s0 := (nI (tkl f c n 0), (grw m.1 p3 (tkR (m.1 p3) f c n 0), m.2))) ?_ ?_ ?_ 1000 (by omega)
    · show (nI (tkl f c n 0), (grw (grw m.1 p3 (tkR (m.1 p3) f c n 0)) 11 (tkS f c n 0), m.2)) = _
      have : grw m.1 p3 (tkR (m.1 p3) f c n 0) 11 = tkS f c n 0 := by rw [grw_ne (Ne.symm hp.2), h11, tkS_0]
      rw [← this, grw_id]
    · intro g j hj
      have fj := hf j hj
      have hl0 : tkl f c n j ≤ n := by
        have h1 := tk_run (f := f) (c := c) (n := n) j
        have h4 : tkl f c n 0 = n - gsum (tkp f c n) 9 := rfl
        have h5 := gsum_mono (tkp f c n) (show j ≤ 9 by omega)
        omega
      have ep := tkp_le hn j
      have etk := tk_le hn j
      have r11 : tkS f c n j (9 * c + j) = nI (f (9 * c + j)) := by
        unfold tkS
        rw [if_neg (by omega)]
      have rp : tkR (m.1 p3) f c n j j = nI (tkp f c n j) := by
        unfold tkR
        rw [if_neg (by omega), if_pos hj]
      have e11 : grw (grw m.1 p3 (tkR (m.1 p3) f c n j)) 11 (tkS f c n j) 11 (9 * c + j) = nI (f (9 * c + j)) := by rw [grw_eq, r11]
      have epp : grw (grw m.1 p3 (tkR (m.1 p3) f c n j)) 11 (tkS f c n j) p3 j = nI (tkp f c n j) := by rw [grw_ne hp.2, grw_eq, rp]
      have go : ∀ (v : Int32) (M : gN), M = grw (grw m.1 p3 (tkR (m.1 p3) f c n (j + 1))) 11 (tkS f c n j) → v = nI (tkl f c n (j + 1)) → J_Ground_take_120 2 p3 (nI (9 * c)) g v (nI j) (M, m.2) = g (nI (tkl f c n (j + 1))) (nI (j + 1)) (grw (grw m.1 p3 (tkR (m.1 p3) f c n (j + 1))) 11 (tkS f c n (j + 1)), m.2) := by
        intro v M hM hv
        have a1 : M 11 (9 * c + j) = nI (f (9 * c + j)) := by rw [hM, grw_eq, r11]
        have a2 : M p3 j = nI (tk f c n j) := by
          rw [hM, grw_ne hp.2, grw_eq]
          unfold tkR
          rw [if_pos (by omega)]
        have a3 : gup M 11 (9 * c + j) (nI (f (9 * c + j) - tk f c n j)) = grw (grw m.1 p3 (tkR (m.1 p3) f c n (j + 1))) 11 (tkS f c n (j + 1)) := by rw [hM, tkS_s]
        unfold J_Ground_take_120
        simp (disch := omega) only [gfd_eq, glet_eq, gbind_eq, nI_ltI, nI_1, gok_nI, grd_nI, nI_clamp, if_true, if_false, Nat.lt_irrefl, nI_add, a1, a2, pk_sub, gst_nI, a3, hv, Nat.reduceAdd, i10, gokT]
      have elt : (nI (tkp f c n j) < nI (f (9 * c + j))) ↔ tkp f c n j < f (9 * c + j) := nI_ltI (by omega) fj
      have e0 : (0 < nI (tkl f c n j)) ↔ 0 < tkl f c n j := lt0_nI (by omega)
      by_cases c1 : 0 < tkl f c n j
      · by_cases c2 : tkp f c n j < f (9 * c + j)
        · have t1 : tk f c n j = tkp f c n j + 1 := if_pos ⟨c1, c2⟩
          have t2 : tkl f c n (j + 1) = tkl f c n j - 1 := if_pos ⟨c1, c2⟩
          have M1 : gup (grw (grw m.1 p3 (tkR (m.1 p3) f c n j)) 11 (tkS f c n j)) p3 j (nI (tkp f c n j + 1)) = grw (grw m.1 p3 (tkR (m.1 p3) f c n (j + 1))) 11 (tkS f c n j) := by
            rw [gup_grw2 _ (Ne.symm hp.2), ← t1, tkR_s _ _ _ _ _ _ hj]
          simp (disch := omega) only [gfd_eq, glet_eq, gbind_eq, nI_ltI, nI_1, gok_nI, grd_nI, nI_clamp, if_true, if_false, Nat.lt_irrefl, hj, q9, e0, c1, nI_add, e11, epp, elt, c2, gst_nI, Nat.reduceAdd, i10, gokT]
          exact go _ _ M1 (by rw [t2]; exact nI_m1 c1)
        · have t1 : tk f c n j = tkp f c n j := if_neg (fun z => c2 z.2)
          have t2 : tkl f c n (j + 1) = tkl f c n j := if_neg (fun z => c2 z.2)
          simp (disch := omega) only [gfd_eq, glet_eq, gbind_eq, nI_ltI, nI_1, gok_nI, grd_nI, nI_clamp, if_true, if_false, Nat.lt_irrefl, hj, q9, e0, c1, nI_add, e11, epp, elt, c2, Nat.reduceAdd, i10, gokT]
          exact go _ _ (by rw [tkR_same _ _ _ _ t1 hj]) (by rw [t2])
      · have t1 : tk f c n j = tkp f c n j := if_neg (fun z => c1 z.1)
        have t2 : tkl f c n (j + 1) = tkl f c n j := if_neg (fun z => c1 z.1)
        simp (disch := omega) only [gfd_eq, glet_eq, gbind_eq, nI_ltI, nI_1, gok_nI, grd_nI, nI_clamp, if_true, if_false, Nat.lt_irrefl, hj, q9, e0, c1, i10, gokT]
        exact go _ _ (by rw [tkR_same _ _ _ _ t1 hj]) (by rw [t2])
    · intro g
      simp (disch := omega) only [gfd_eq, glet_eq, gbind_eq, nI_ltI, nI_1, gok_nI, grd_nI, nI_clamp, if_true, if_false, Nat.lt_irrefl, q9, i10, gokT]
  have e9 : grw (grw m.1 p3 (tkR (m.1 p3) f c n 9)) 11 (fun i => nI (tkO f c n i)) 9 c = nI (osum f c) := by rw [grw_ne (by decide), grw_ne (Ne.symm hp.1)]; exact h9
  unfold f_Ground_take J_Ground_take_77 J_Ground_take_143
  simp (disch := omega) only [gfd_eq, glet_eq, gbind_eq, nI_ltI, nI_1, gok_nI, grd_nI, nI_clamp, if_true, if_false, Nat.lt_irrefl, h9, L1, pk_mul, q9, Nat.mul_comm c 9, L2, tkS_9, e9, pk_sub, gst_nI, Nat.reduceAdd, i10, gokT]
theorem L71_s (x1 : Int32) (k : Int32 → Int32 → gM → Option gM) (F : Nat) (v5 v6 : Int32) (m5 : gM) : L_MO_take_71 x1 k (F + 1) v5 v6 m5 = (if v6 < 9 then (if 0 < v5 then (gok (gib ((9 * x1) + v6) 324) (gok (gib v6 9) (if (grd m5 105 v6) < (grd m5 86 ((9 * x1) + v6)) then (gok (gib v6 9) (gok (gib v6 9) (glet (gst m5 105 v6 ((grd m5 105 v6) + 1)) fun (m7 : gM) => J_MO_take_119 (L_MO_take_71 x1 k F) (v5 + (-1)) v6 m7))) else (J_MO_take_119 (L_MO_take_71 x1 k F) v5 v6 m5)))) else (k v5 v6 m5)) else (k v5 v6 m5)) := rfl
/-- the reference's side -/
theorem mo_take {f : Nat → Nat} {c n : Nat} {m : gM} (hc : c < 36) (h86 : m.1 86 = fun i => nI (f i)) (hn : n ≤ osum f c) (hb : n * osum f c < 2 ^ 31) (hb2 : osum f c < 2 ^ 31) : f_MO_take (nI c) (nI n) m = some (grw (grw m.1 105 (tkR (m.1 105) f c n 9)) 86 (fun i => nI (tkO f c n i)), m.2) := by
  have hf : ∀ l, l < 9 → f (9 * c + l) < 2 ^ 31 := fun l hl => Nat.lt_of_le_of_lt (osum_one f c hl) hb2
  have hnf : ∀ l, l < 9 → n * f (9 * c + l) < 2 ^ 31 := fun l hl => Nat.lt_of_le_of_lt (Nat.mul_le_mul_left n (osum_one f c hl)) hb
  have hps := tkp_sum (f := f) (c := c) (n := n)
  have L1 : ∀ (k : Int32 → Int32 → gM → Option gM) (M : gM), L_MO_take_12 (nI c) (nI n) (nI (osum f c), M) k 1000 (nI n) 0 m = k (nI (tkl f c n 0)) (nI 9) (grw m.1 105 (tkR (m.1 105) f c n 0), m.2) := by
    intro k M
    unfold L_MO_take_12
    refine gloopS0 (fun (g : Int32 → Int32 → gM → Option gM) j (s : Int32 × gM) => g s.1 (nI j) s.2) 9 (fun j => (nI (n - gsum (tkp f c n) j), (grw m.1 105 (tkQ (m.1 105) f c n j), m.2))) _ (s0 := (nI n, m)) ?_ ?_ ?_ 1000 (by omega)
    · show (nI (n - 0), (grw m.1 105 (tkQ (m.1 105) f c n 0), m.2)) = (nI n, m)
      have : tkQ (m.1 105) f c n 0 = m.1 105 := by
        funext q
        unfold tkQ
        rw [if_neg (by omega)]
      rw [this, grw_id]
      rfl
    · intro g j hj
      have e11 : grw m.1 105 (tkQ (m.1 105) f c n j) 86 (9 * c + j) = nI (f (9 * c + j)) := by rw [grw_ne (by decide), h86]
      have hs := gsum_one (tkp f c n) hj
      have fj := hf j hj
      have nfj := hnf j hj
      have eQ : grw m.1 105 (tkQ (m.1 105) f c n (j + 1)) 105 j = nI (tkp f c n j) := by
        rw [← tkQ_s]
        exact gup_at _ _ _ _
      have eS : nI (n - gsum (tkp f c n) j) - nI (tkp f c n j) = nI (n - gsum (tkp f c n) (j + 1)) := by
        rw [pk_sub (by omega), Nat.sub_sub]
        rfl
      unfold J_MO_take_49
      by_cases h0 : 0 < osum f c
      · have ne0 : ¬ nI (osum f c) = 0 := fun e => by
          have := (nI_eq (b := 0) hb2 (by decide)).mp e
          omega
        have ep : nI (n * f (9 * c + j)) / nI (osum f c) = nI (tkp f c n j) := pk_div nfj h0 hb2
        simp (disch := omega) only [gfd_eq, glet_eq, gbind_eq, nI_ltI, nI_1, gok_nI, grd_nI, nI_clamp, if_true, if_false, Nat.lt_irrefl, hj, q9, ne0, pk_mul, nI_add, gnz_ok, e11, ep, gst_nI, eQ, eS, tkQ_s, i10, gokT]
      · have ep : (0 : Int32) = nI (tkp f c n j) := by
          unfold tkp
          rw [show osum f c = 0 by omega, Nat.div_zero]
          rfl
        have ne0 : nI (osum f c) = 0 := by rw [show osum f c = 0 by omega]; rfl
        rw [← ep] at eQ eS
        have eT := tkQ_s m.1 105 f c n j
        rw [← ep] at eT
        simp (disch := omega) only [gfd_eq, glet_eq, gbind_eq, nI_ltI, nI_1, gok_nI, grd_nI, nI_clamp, if_true, if_false, Nat.lt_irrefl, hj, q9, ne0, gst_nI, eQ, eS, eT, i10, gokT]
    · intro g
      simp (disch := omega) only [gfd_eq, glet_eq, gbind_eq, nI_ltI, nI_1, gok_nI, grd_nI, nI_clamp, if_true, if_false, Nat.lt_irrefl, q9, tkQ_9, i10, gokT]
      rfl
  have L3 : ∀ M : gN, M 86 = (fun i => nI (f i)) → M 105 = tkR (m.1 105) f c n 9 → L_MO_take_128 (nI c) 1000 0 (M, m.2) = some (grw M 86 (fun i => nI (tkO f c n i)), m.2) := by
    intro M hM hR
    unfold L_MO_take_128
    refine gloopS0 (fun (g : Int32 → gM → Option gM) j (s : gM) => g (nI j) s) 9 (fun j => (grw M 86 (tkS f c n j), m.2)) _ ?_ ?_ ?_ 1000 (by omega)
    · show (grw M 86 (tkS f c n 0), m.2) = _
      rw [tkS_0, ← hM, grw_id]
    · intro g j hj
      have etk := tk_le hn j
      have a1 : grw M 86 (tkS f c n j) 86 (9 * c + j) = nI (f (9 * c + j)) := by
        rw [grw_eq]
        unfold tkS
        rw [if_neg (by omega)]
      have a2 : grw M 86 (tkS f c n j) 105 j = nI (tk f c n j) := by
        rw [grw_ne (by decide), hR]
        unfold tkR
        rw [if_pos hj]
      simp (disch := omega) only [gfd_eq, glet_eq, gbind_eq, nI_ltI, nI_1, gok_nI, grd_nI, nI_clamp, if_true, if_false, Nat.lt_irrefl, hj, q9, pk_mul, nI_add, a1, a2, pk_sub, gst_nI, tkS_s, i10, gokT]
    · intro g
      simp (disch := omega) only [gfd_eq, glet_eq, gbind_eq, nI_ltI, nI_1, gok_nI, grd_nI, nI_clamp, if_true, if_false, Nat.lt_irrefl, q9, tkS_9, i10, gokT]
  have L2 : ∀ (r j fuel : Nat), j + r = 9 → r < fuel → L_MO_take_71 (nI c) (fun v5 v6 m5 => J_MO_take_125 (nI c) m5) fuel (nI (tkl f c n j)) (nI j) (grw m.1 105 (tkR (m.1 105) f c n j), m.2) = some (grw (grw m.1 105 (tkR (m.1 105) f c n 9)) 86 (fun i => nI (tkO f c n i)), m.2) := by
    have fin : ∀ j, j ≤ 9 → tkl f c n j = 0 ∨ j = 9 → J_MO_take_125 (nI c) (grw m.1 105 (tkR (m.1 105) f c n j), m.2) = some (grw (grw m.1 105 (tkR (m.1 105) f c n 9)) 86 (fun i => nI (tkO f c n i)), m.2) := by
      intro j hj hz
      have e : tkR (m.1 105) f c n j = tkR (m.1 105) f c n 9 := by
        rcases hz with hz | hz
        · funext q
          unfold tkR
          by_cases h1 : q < j
          · rw [if_pos h1, if_pos (by omega)]
          · rw [if_neg h1]
            by_cases h2 : q < 9
            · rw [if_pos h2, if_pos h2, (tk_still hz q (by omega)).2]
            · rw [if_neg h2, if_neg h2]
        · rw [hz]
      unfold J_MO_take_125
      rw [e]
      exact L3 _ (by rw [grw_ne (by decide), h86]) (grw_eq _ _ _)
    intro r
    induction r with
    | zero =>
      intro j fuel hj hf'
      obtain ⟨F, rfl⟩ : ∃ F, fuel = F + 1 := ⟨fuel - 1, by omega⟩
      have : j = 9 := by omega
      subst this
      rw [L71_s]
      simp (disch := omega) only [gfd_eq, glet_eq, gbind_eq, nI_ltI, nI_1, gok_nI, grd_nI, nI_clamp, if_true, if_false, Nat.lt_irrefl, q9, i10, gokT]
      exact fin 9 (by omega) (Or.inr rfl)
    | succ r ih =>
      intro j fuel hj hf'
      obtain ⟨F, rfl⟩ : ∃ F, fuel = F + 1 := ⟨fuel - 1, by omega⟩
      have hj9 : j < 9 := by omega
      have fj := hf j hj9
      have hl0 : tkl f c n j ≤ n := by
        have h1 := tk_run (f := f) (c := c) (n := n) j
        have h4 : tkl f c n 0 = n - gsum (tkp f c n) 9 := rfl
        have h5 := gsum_mono (tkp f c n) (show j ≤ 9 by omega)
        omega
      have ep := tkp_le hn j
      have epp : grw m.1 105 (tkR (m.1 105) f c n j) 105 j = nI (tkp f c n j) := by
        rw [grw_eq]
        unfold tkR
        rw [if_neg (by omega), if_pos hj9]
      have e86 : grw m.1 105 (tkR (m.1 105) f c n j) 86 (9 * c + j) = nI (f (9 * c + j)) := by rw [grw_ne (by decide), h86]
      have elt : (nI (tkp f c n j) < nI (f (9 * c + j))) ↔ tkp f c n j < f (9 * c + j) := nI_ltI (by omega) fj
      have e0 : (0 < nI (tkl f c n j)) ↔ 0 < tkl f c n j := lt0_nI (by omega)
      have IH := ih (j + 1) F (by omega) (by omega)
      rw [L71_s]
      unfold J_MO_take_119
      by_cases c1 : 0 < tkl f c n j
      · by_cases c2 : tkp f c n j < f (9 * c + j)
        · have t1 : tk f c n j = tkp f c n j + 1 := if_pos ⟨c1, c2⟩
          have t2 : tkl f c n (j + 1) = tkl f c n j - 1 := if_pos ⟨c1, c2⟩
          have M1 : gup (grw m.1 105 (tkR (m.1 105) f c n j)) 105 j (nI (tkp f c n j + 1)) = grw m.1 105 (tkR (m.1 105) f c n (j + 1)) := by
            rw [← t1, tkR_s _ _ _ _ _ _ hj9]
          simp (disch := omega) only [gfd_eq, glet_eq, gbind_eq, nI_ltI, nI_1, gok_nI, grd_nI, nI_clamp, if_true, if_false, Nat.lt_irrefl, hj9, q9, e0, c1, pk_mul, nI_add, e86, epp, elt, c2, gst_nI, M1, nI_m1, i10, gokT]
          rw [← t2]
          exact IH
        · have t1 : tk f c n j = tkp f c n j := if_neg (fun z => c2 z.2)
          have t2 : tkl f c n (j + 1) = tkl f c n j := if_neg (fun z => c2 z.2)
          simp (disch := omega) only [gfd_eq, glet_eq, gbind_eq, nI_ltI, nI_1, gok_nI, grd_nI, nI_clamp, if_true, if_false, Nat.lt_irrefl, hj9, q9, e0, c1, pk_mul, nI_add, e86, epp, elt, c2, i10, gokT]
          rw [← t2, ← tkR_same _ _ _ _ t1 hj9]
          exact IH
      · simp (disch := omega) only [gfd_eq, glet_eq, gbind_eq, nI_ltI, nI_1, gok_nI, grd_nI, nI_clamp, if_true, if_false, Nat.lt_irrefl, hj9, q9, e0, c1, i10, gokT]
        exact fin j (by omega) (Or.inl (by omega))
  have o := mo_oilOf (m := m) hc h86
  have l2 : L_MO_take_71 (nI c) (fun v5 v6 m5 => J_MO_take_125 (nI c) m5) 1000 (nI (tkl f c n 0)) 0 (grw m.1 105 (tkR (m.1 105) f c n 0), m.2) = _ := L2 9 0 1000 (by omega) (by omega)
  unfold f_MO_take J_MO_take_68
  simp (disch := omega) only [gfd_eq, glet_eq, gbind_eq, nI_ltI, nI_1, gok_nI, grd_nI, nI_clamp, if_true, if_false, Nat.lt_irrefl, o, L1, l2, i10, gokT]
