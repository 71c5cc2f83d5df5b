/-! ===== steady ===== -/
theorem L_Race_isSteady_2_s (a : Nat) (x1 : Int32) (F : Nat) (v1 : Int32) (m1 : gM) : L_Race_isSteady_2 a x1 (F + 1) v1 m1 = (if v1 < (gfd m1 a 4) then ((f_Race_gainOf a (x1 ^^^ ((1 : Int32) <<< (v1 &&& 31))) v1 m1).bind fun (r1 : Int32 × gM) => (f_Race_gainOf a x1 v1 r1.2).bind fun (r2 : Int32 × gM) => if r2.1 < r1.1 then (some (0, r2.2)) else ((L_Race_isSteady_2 a x1 F) (v1 + 1) r2.2)) else (some (1, m1))) := rfl
theorem L_Race_leastSteady_2_s (a : Nat) (F : Nat) (v1 : Int32) (m1 : gM) : L_Race_leastSteady_2 a (F + 1) v1 m1 = (if v1 < ((1 : Int32) <<< ((gfd m1 a 4) &&& 31)) then ((f_Race_isSteady a v1 m1).bind fun (r1 : Int32 × gM) => if r1.1 = 0 then ((L_Race_leastSteady_2 a F) (v1 + 1) r1.2) else (some (v1, r1.2))) else (some ((-4), m1))) := rfl
theorem L_MO_isSteady_5_s (x1 : Int32) (x2 : Int32) (m : gM) (F : Nat) (v1 : Int32) (v2 : Int32) : L_MO_isSteady_5 x1 x2 m (F + 1) v1 v2 = (if v2 < x1 then (if v1 = 0 then (J_MO_isSteady_49 (L_MO_isSteady_5 x1 x2 m F) v1 v2) else (gok (gib ((4 * (x2 ^^^ ((1 : Int32) <<< (v2 &&& 31)))) + v2) 64) (gok (gib ((4 * x2) + v2) 64) (if (grd m 124 ((4 * x2) + v2)) < (grd m 124 ((4 * (x2 ^^^ ((1 : Int32) <<< (v2 &&& 31)))) + v2)) then (J_MO_isSteady_49 (L_MO_isSteady_5 x1 x2 m F) v1 v2) else (J_MO_isSteady_50 (L_MO_isSteady_5 x1 x2 m F) v1 v2 1))))) else (gzo v1 (some (v1, m)))) := rfl
section ST
variable (G : Nat → Nat → Int32)
/-- is a set steady; the sum of its gains -/
def stB (set : Nat) : Nat → Bool
  | 0 => true
  | n + 1 => stB set n && decide (¬ G set n < G (set ^^^ 2 ^ n) n)
def smS (set : Nat) : Nat → Int32
  | 0 => 0
  | n + 1 => smS set n + G set n
/-- how many sets are steady; the first of them; the richest -/
def stC (n : Nat) : Nat → Nat
  | 0 => 0
  | k + 1 => if stB G k n = true then stC n k + 1 else stC n k
def stL (n : Nat) : Nat → Option Nat
  | 0 => none
  | k + 1 => if stB G k n = true then (if stC G n k = 0 then some k else stL n k) else stL n k
def rcB (n : Nat) (c : Nat → Bool) : Nat → Option Nat
  | 0 => none
  | k + 1 => if c k = true then (match rcB n c k with | none => some k | some b => if smS G b n < smS G k n then some k else some b) else rcB n c k
end ST
def oI : Option Nat → Int32
  | none => -4
  | some k => nI k
theorem stB_iff {G : Nat → Nat → Int32} {set : Nat} : ∀ {n : Nat}, stB G set n = true ↔ ∀ p, p < n → ¬ G set p < G (set ^^^ 2 ^ p) p
  | 0 => ⟨fun _ p hp => by omega, fun _ => rfl⟩
  | n + 1 => by
    have ih := stB_iff (G := G) (set := set) (n := n)
    show (stB G set n && decide (¬ G set n < G (set ^^^ 2 ^ n) n)) = true ↔ _
    rw [Bool.and_eq_true, ih, decide_eq_true_iff]
    constructor
    · intro h p hp
      by_cases e : p = n
      · rw [e]; exact h.2
      · exact h.1 p (by omega)
    · intro h
      exact ⟨fun p hp => h p (by omega), h n (by omega)⟩
theorem rcB_lt (G : Nat → Nat → Int32) (n : Nat) (c : Nat → Bool) : ∀ k b, rcB G n c k = some b → b < k
  | 0, b, h => by cases h
  | k + 1, b, h => by
    have ih := rcB_lt G n c k
    have h : (if c k = true then (match rcB G n c k with | none => some k | some b => if smS G b n < smS G k n then some k else some b) else rcB G n c k) = some b := h
    by_cases hc : c k = true
    · rw [if_pos hc] at h
      cases e : rcB G n c k with
      | none => rw [e] at h; cases h; omega
      | some b0 =>
        rw [e] at h
        have := ih b0 e
        dsimp only at h
        by_cases z : smS G b0 n < smS G k n
        · rw [if_pos z] at h; cases h; omega
        · rw [if_neg z] at h; cases h; omega
    · rw [if_neg hc] at h
      have := ih b h
      omega
theorem rcB_none (G : Nat → Nat → Int32) (n : Nat) : ∀ k, rcB G n (fun s => stB G s n) k = none ↔ stC G n k = 0
  | 0 => ⟨fun _ => rfl, fun _ => rfl⟩
  | k + 1 => by
    have ih := rcB_none G n k
    show (if stB G k n = true then (match rcB G n (fun s => stB G s n) k with | none => some k | some b => if smS G b n < smS G k n then some k else some b) else rcB G n (fun s => stB G s n) k) = none ↔ (if stB G k n = true then stC G n k + 1 else stC G n k) = 0
    by_cases hc : stB G k n = true
    · rw [if_pos hc, if_pos hc]
      cases e : rcB G n (fun s => stB G s n) k with
      | none => exact ⟨fun z => (by cases z), fun z => (by omega)⟩
      | some b0 =>
        dsimp only
        refine ⟨fun z => ?_, fun z => by omega⟩
        by_cases y : smS G b0 n < smS G k n
        · rw [if_pos y] at z; cases z
        · rw [if_neg y] at z; cases z
    · rw [if_neg hc, if_neg hc]; exact ih
theorem xr_ok : ∀ set, set < 16 → ∀ p, p < 4 → (nI set ^^^ ((1 : Int32) <<< (nI p &&& 31))) = nI (set ^^^ 2 ^ p) := by decide
theorem or_ok : ∀ set, set < 16 → ∀ p, p < 4 → (nI set ||| ((1 : Int32) <<< (nI p &&& 31))) = nI (set ||| 2 ^ p) := by decide
theorem xr_lt {set p n : Nat} (hs : set < 2 ^ n) (hp : p < n) : set ^^^ 2 ^ p < 2 ^ n := Nat.xor_lt_two_pow hs (Nat.pow_lt_pow_right (by decide) hp)
theorem or_lt2 {set p n : Nat} (hs : set < 2 ^ n) (hp : p < n) : set ||| 2 ^ p < 2 ^ n := Nat.or_lt_two_pow hs (Nat.pow_lt_pow_right (by decide) hp)
section SU
variable {G : Nat → Nat → Int32} {n : Nat}
/-- the class's gains, the reference's gains -/
def gnC (G : Nat → Nat → Int32) (n : Nat) (m : gM) : Prop := n ≤ 4 ∧ m.1 54 4 = nI n ∧ ∀ i, i < 2 ^ n → ∀ p, p < n → m.1 71 (4 * i + p) = G i p
def gnM (G : Nat → Nat → Int32) (n : Nat) (m : gM) : Prop := n ≤ 4 ∧ ∀ i, i < 2 ^ n → ∀ p, p < n → m.1 124 (4 * i + p) = G i p
theorem cl_gainOf {m : gM} (D : gnC G n m) {set p : Nat} (hs : set < 2 ^ n) (hp : p < n) : f_Race_gainOf 54 (nI set) (nI p) m = some (G set p, m) := by
  have := D.2.2 set hs p hp
  have h16 := pow16 D.1
  have n4 := D.1
  have ix : set * 4 + p = 4 * set + p := by omega
  unfold f_Race_gainOf
  simp (disch := omega) only [gfd_eq, glet_eq, gbind_eq, nI_ltI, nI_1, gok_nI, grd_nI, nI_clamp, if_true, if_false, Nat.lt_irrefl, n4c, pk_mul, nI_add, ix, this, Nat.reduceAdd, i10, gokT]
theorem cl_rSum {m : gM} (D : gnC G n m) {set : Nat} (hs : set < 2 ^ n) : f_Race_sumOf 54 (nI set) m = some (smS G set n, m) := by
  have n4 := D.1
  have h4 := D.2.1
  unfold f_Race_sumOf L_Race_sumOf_4
  refine gloopS0 (fun (g : Int32 → Int32 → gM → Option (Int32 × gM)) j (s : Int32) => g s (nI j) m) n (fun j => smS G set j) _ rfl ?_ ?_ 1000 (by omega)
  · intro g j hj
    have e := cl_gainOf D hs hj
    simp (disch := omega) only [gfd_eq, glet_eq, gbind_eq, nI_ltI, nI_1, gok_nI, grd_nI, nI_clamp, if_true, if_false, Nat.lt_irrefl, h4, hj, e, i10, gokT]
    rfl
  · intro g
    simp (disch := omega) only [gfd_eq, glet_eq, gbind_eq, nI_ltI, nI_1, gok_nI, grd_nI, nI_clamp, if_true, if_false, Nat.lt_irrefl, h4, i10, gokT]
theorem mo_rSum {m : gM} (D : gnM G n m) {set : Nat} (hs : set < 2 ^ n) : f_MO_sumOf (nI n) (nI set) m = some (smS G set n, m) := by
  have n4 := D.1
  have h16 := pow16 D.1
  unfold f_MO_sumOf L_MO_sumOf_5
  refine gloopS0 (fun (g : Int32 → Int32 → Option (Int32 × gM)) j (s : Int32) => g s (nI j)) n (fun j => smS G set j) _ rfl ?_ ?_ 1000 (by omega)
  · intro g j hj
    have e := D.2 set hs j hj
    simp (disch := omega) only [gfd_eq, glet_eq, gbind_eq, nI_ltI, nI_1, gok_nI, grd_nI, nI_clamp, if_true, if_false, Nat.lt_irrefl, hj, n4c, pk_mul, nI_add, e, i10, gokT]
    rfl
  · intro g
    simp (disch := omega) only [gfd_eq, glet_eq, gbind_eq, nI_ltI, nI_1, gok_nI, grd_nI, nI_clamp, if_true, if_false, Nat.lt_irrefl, i10, gokT]
theorem cl_st1 {m : gM} (D : gnC G n m) {set : Nat} (hs : set < 2 ^ n) (hv : ∀ p, p < n → ¬ G set p < G (set ^^^ 2 ^ p) p) : ∀ (r p F : Nat), p + r = n → r < F → L_Race_isSteady_2 54 (nI set) F (nI p) m = some (1, m) := by
  have n4 := D.1
  have h4 := D.2.1
  have h16 := pow16 D.1
  intro r
  induction r with
  | zero =>
    intro p F hp hF
    obtain ⟨F, rfl⟩ : ∃ F', F = F' + 1 := ⟨F - 1, by omega⟩
    have e : p = n := by omega
    subst e
    rw [L_Race_isSteady_2_s]
    simp (disch := omega) only [gfd_eq, glet_eq, gbind_eq, nI_ltI, nI_1, gok_nI, grd_nI, nI_clamp, if_true, if_false, Nat.lt_irrefl, h4, i10, gokT]
  | succ r ih =>
    intro p F hp hF
    obtain ⟨F, rfl⟩ : ∃ F', F = F' + 1 := ⟨F - 1, by omega⟩
    have hpn : p < n := by omega
    have x := xr_ok set (by omega) p (by omega)
    have e1 := cl_gainOf D (xr_lt hs hpn) hpn
    have e2 := cl_gainOf D hs hpn
    have e3 := hv p hpn
    rw [L_Race_isSteady_2_s]
    simp (disch := omega) only [gfd_eq, glet_eq, gbind_eq, nI_ltI, nI_1, gok_nI, grd_nI, nI_clamp, if_true, if_false, Nat.lt_irrefl, h4, hpn, x, e1, e2, e3, i10, gokT]
    exact ih (p + 1) F (by omega) (by omega)
theorem cl_st0 {m : gM} (D : gnC G n m) {set b : Nat} (hs : set < 2 ^ n) (hb : b < n) (hv : G set b < G (set ^^^ 2 ^ b) b) : ∀ (r p F : Nat), p + r = n → p ≤ b → r < F → L_Race_isSteady_2 54 (nI set) F (nI p) m = some (0, m) := by
  have n4 := D.1
  have h4 := D.2.1
  have h16 := pow16 D.1
  intro r
  induction r with
  | zero => intro p F hp h1; omega
  | succ r ih =>
    intro p F hp h1 hF
    obtain ⟨F, rfl⟩ : ∃ F', F = F' + 1 := ⟨F - 1, by omega⟩
    have hpn : p < n := by omega
    have x := xr_ok set (by omega) p (by omega)
    have e1 := cl_gainOf D (xr_lt hs hpn) hpn
    have e2 := cl_gainOf D hs hpn
    rw [L_Race_isSteady_2_s]
    by_cases e3 : G set p < G (set ^^^ 2 ^ p) p
    · simp (disch := omega) only [gfd_eq, glet_eq, gbind_eq, nI_ltI, nI_1, gok_nI, grd_nI, nI_clamp, if_true, if_false, Nat.lt_irrefl, h4, hpn, x, e1, e2, e3, i10, gokT]
    · have hne : p ≠ b := fun z => e3 (by rw [z]; exact hv)
      simp (disch := omega) only [gfd_eq, glet_eq, gbind_eq, nI_ltI, nI_1, gok_nI, grd_nI, nI_clamp, if_true, if_false, Nat.lt_irrefl, h4, hpn, x, e1, e2, e3, i10, gokT]
      exact ih (p + 1) F (by omega) (by omega) (by omega)
theorem st_bad {set n : Nat} (h : ¬ stB G set n = true) : ∃ b, b < n ∧ G set b < G (set ^^^ 2 ^ b) b := by
  rw [stB_iff] at h
  obtain ⟨b, hb⟩ := Classical.not_forall.mp h
  obtain ⟨h1, h2⟩ := Classical.not_imp.mp hb
  exact ⟨b, h1, Classical.not_not.mp h2⟩
theorem cl_isSteady {m : gM} (D : gnC G n m) {set : Nat} (hs : set < 2 ^ n) : f_Race_isSteady 54 (nI set) m = some (if stB G set n = true then 1 else 0, m) := by
  have n4 := D.1
  unfold f_Race_isSteady
  by_cases hv : stB G set n = true
  · rw [if_pos hv]
    exact cl_st1 D hs (stB_iff.mp hv) n 0 1000 (by omega) (by omega)
  · rw [if_neg hv]
    obtain ⟨b, h1, h2⟩ := st_bad hv
    exact cl_st0 D hs h1 h2 n 0 1000 (by omega) (by omega) (by omega)
theorem mo_st1 {m : gM} (D : gnM G n m) {set : Nat} (hs : set < 2 ^ n) (hv : ∀ p, p < n → ¬ G set p < G (set ^^^ 2 ^ p) p) : ∀ (r p F : Nat), p + r = n → r < F → L_MO_isSteady_5 (nI n) (nI set) m F 1 (nI p) = some (1, m) := by
  have n4 := D.1
  have h16 := pow16 D.1
  intro r
  induction r with
  | zero =>
    intro p F hp hF
    obtain ⟨F, rfl⟩ : ∃ F', F = F' + 1 := ⟨F - 1, by omega⟩
    have e : p = n := by omega
    subst e
    rw [L_MO_isSteady_5_s]
    simp (disch := omega) only [gfd_eq, glet_eq, gbind_eq, nI_ltI, nI_1, gok_nI, grd_nI, nI_clamp, if_true, if_false, Nat.lt_irrefl, gzo_t (Or.inr rfl), i10, gokT]
  | succ r ih =>
    intro p F hp hF
    obtain ⟨F, rfl⟩ : ∃ F', F = F' + 1 := ⟨F - 1, by omega⟩
    have hpn : p < n := by omega
    have x := xr_ok set (by omega) p (by omega)
    have xl := xr_lt hs hpn
    have e1 := D.2 _ xl p hpn
    have e2 := D.2 set hs p hpn
    have e3 := hv p hpn
    generalize set ^^^ 2 ^ p = y at *
    rw [L_MO_isSteady_5_s]
    unfold J_MO_isSteady_50
    simp (disch := omega) only [gfd_eq, glet_eq, gbind_eq, nI_ltI, nI_1, gok_nI, grd_nI, nI_clamp, if_true, if_false, Nat.lt_irrefl, hpn, x, n4c, pk_mul, nI_add, e1, e2, e3, i10, gokT]
    exact ih (p + 1) F (by omega) (by omega)
theorem mo_st00 {m : gM} (n4 : n ≤ 4) {set : Nat} : ∀ (r p F : Nat), p + r = n → r < F → L_MO_isSteady_5 (nI n) (nI set) m F 0 (nI p) = some (0, m) := by
  intro r
  induction r with
  | zero =>
    intro p F hp hF
    obtain ⟨F, rfl⟩ : ∃ F', F = F' + 1 := ⟨F - 1, by omega⟩
    have e : p = n := by omega
    subst e
    rw [L_MO_isSteady_5_s]
    simp (disch := omega) only [gfd_eq, glet_eq, gbind_eq, nI_ltI, nI_1, gok_nI, grd_nI, nI_clamp, if_true, if_false, Nat.lt_irrefl, gzo_t (Or.inl rfl), i10, gokT]
  | succ r ih =>
    intro p F hp hF
    obtain ⟨F, rfl⟩ : ∃ F', F = F' + 1 := ⟨F - 1, by omega⟩
    have hpn : p < n := by omega
    rw [L_MO_isSteady_5_s]
    unfold J_MO_isSteady_49 J_MO_isSteady_50
    simp (disch := omega) only [gfd_eq, glet_eq, gbind_eq, nI_ltI, nI_1, gok_nI, grd_nI, nI_clamp, if_true, if_false, Nat.lt_irrefl, hpn, i10, gokT]
    exact ih (p + 1) F (by omega) (by omega)
theorem mo_st0 {m : gM} (D : gnM G n m) {set b : Nat} (hs : set < 2 ^ n) (hb : b < n) (hv : G set b < G (set ^^^ 2 ^ b) b) : ∀ (r p F : Nat), p + r = n → p ≤ b → r < F → L_MO_isSteady_5 (nI n) (nI set) m F 1 (nI p) = some (0, m) := by
  have n4 := D.1
  have h16 := pow16 D.1
  intro r
  induction r with
  | zero => intro p F hp h1; omega
  | succ r ih =>
    intro p F hp h1 hF
    obtain ⟨F, rfl⟩ : ∃ F', F = F' + 1 := ⟨F - 1, by omega⟩
    have hpn : p < n := by omega
    have x := xr_ok set (by omega) p (by omega)
    have xl := xr_lt hs hpn
    have e1 := D.2 _ xl p hpn
    have e2 := D.2 set hs p hpn
    rw [L_MO_isSteady_5_s]
    unfold J_MO_isSteady_49 J_MO_isSteady_50
    by_cases e3 : G set p < G (set ^^^ 2 ^ p) p
    · have E3 := eq_true e3
      generalize set ^^^ 2 ^ p = y at *
      simp (disch := omega) only [gfd_eq, glet_eq, gbind_eq, nI_ltI, nI_1, gok_nI, grd_nI, nI_clamp, if_true, if_false, Nat.lt_irrefl, hpn, x, n4c, pk_mul, nI_add, e1, e2, E3, i10, gokT]
      exact mo_st00 n4 r (p + 1) F (by omega) (by omega)
    · have hne : p ≠ b := fun z => e3 (by rw [z]; exact hv)
      have E3 := eq_false e3
      generalize set ^^^ 2 ^ p = y at *
      simp (disch := omega) only [gfd_eq, glet_eq, gbind_eq, nI_ltI, nI_1, gok_nI, grd_nI, nI_clamp, if_true, if_false, Nat.lt_irrefl, hpn, x, n4c, pk_mul, nI_add, e1, e2, E3, i10, gokT]
      exact ih (p + 1) F (by omega) (by omega) (by omega)
theorem mo_isSteady {m : gM} (D : gnM G n m) {set : Nat} (hs : set < 2 ^ n) : f_MO_isSteady (nI n) (nI set) m = some (if stB G set n = true then 1 else 0, m) := by
  have n4 := D.1
  unfold f_MO_isSteady
  by_cases hv : stB G set n = true
  · rw [if_pos hv]
    exact mo_st1 D hs (stB_iff.mp hv) n 0 1000 (by omega) (by omega)
  · rw [if_neg hv]
    obtain ⟨b, h1, h2⟩ := st_bad hv
    exact mo_st0 D hs h1 h2 n 0 1000 (by omega) (by omega) (by omega)
end SU
