/-! ===== lines read: what is drafted, what has failed ===== -/
theorem L_Orders_tells_2_s (a : Nat) (x1 : Int32) (x2 : Int32) (m : gM) (F : Nat) (v1 : Int32) : L_Orders_tells_2 a x1 x2 m (F + 1) v1 = (if v1 < (gfd m a 0) then (gok (gib v1 12) (if (grd m (a + 1) v1) = x1 then (gok (gib v1 12) (if (grd m (a + 2) v1) = x2 then (some (1, m)) else (J_Orders_tells_32 (L_Orders_tells_2 a x1 x2 m F) v1))) else (J_Orders_tells_32 (L_Orders_tells_2 a x1 x2 m F) v1))) else (some (0, m))) := rfl
theorem L_Orders_tellsExcept_2_s (a : Nat) (x1 : Int32) (x2 : Int32) (m : gM) (F : Nat) (v1 : Int32) : L_Orders_tellsExcept_2 a x1 x2 m (F + 1) v1 = (if v1 < (gfd m a 0) then (gok (gib v1 12) (if (grd m (a + 1) v1) = 5 then (gok (gib v1 12) (if (grd m (a + 2) v1) = x2 then (gok (gib v1 12) (if (grd m (a + 3) v1) = x1 then (some (1, m)) else (J_Orders_tellsExcept_42 (L_Orders_tellsExcept_2 a x1 x2 m F) v1))) else (J_Orders_tellsExcept_42 (L_Orders_tellsExcept_2 a x1 x2 m F) v1))) else (J_Orders_tellsExcept_42 (L_Orders_tellsExcept_2 a x1 x2 m F) v1))) else (some (0, m))) := rfl
theorem L_MO_once_3_s (x1 : Int32) (x2 : Int32) (x3 : Int32) (F : Nat) (v1 : Int32) (m1 : gM) : L_MO_once_3 x1 x2 x3 (F + 1) v1 m1 = (if v1 < (gfd m1 81 53) then (if (gfd m1 81 39) = 0 then (gok (gib v1 12) (if (grd m1 120 v1) = x1 then (gok (gib v1 12) (if (grd m1 121 v1) = x2 then (if x1 = 5 then (gok (gib v1 12) (if (grd m1 122 v1) = x3 then (J_MO_once_57 (L_MO_once_3 x1 x2 x3 F) v1 m1) else (J_MO_once_62 (L_MO_once_3 x1 x2 x3 F) v1 m1))) else (J_MO_once_57 (L_MO_once_3 x1 x2 x3 F) v1 m1)) else (J_MO_once_62 (L_MO_once_3 x1 x2 x3 F) v1 m1))) else (J_MO_once_62 (L_MO_once_3 x1 x2 x3 F) v1 m1))) else (some m1)) else (some m1)) := rfl
/-- the lines drafted so far -/
def drC_ (N : gN) (nl : Nat) (ru fr nu : Nat → Nat) : Prop := N 36 0 = nI nl ∧ (∀ k, k < nl → N 37 k = nI (ru k) ∧ N 38 k = nI (fr k) ∧ N 39 k = nI (nu k)) ∧ ∀ k, k < 12 → N 40 k = 0
def drM_ (M : gN) (nl : Nat) (ru fr nu : Nat → Nat) : Prop := M 81 53 = nI nl ∧ ∀ k, k < nl → M 120 k = nI (ru k) ∧ M 121 k = nI (fr k) ∧ M 122 k = nI (nu k)
def drB (nl : Nat) (ru fr nu : Nat → Nat) : Prop := nl ≤ 12 ∧ ∀ k, k < nl → ru k ≤ 5 ∧ fr k ≤ 49 ∧ nu k ≤ 999 ∧ (ru k ≤ 1 → nu k ≤ 9)
/-- a line more -/
def adC (N : gN) (nl q f n : Nat) : gN := gup (gup (gup (gup (gup N 37 nl (nI q)) 38 nl (nI f)) 39 nl (nI n)) 40 nl 0) 36 0 (nI (nl + 1))
def adM (M : gN) (nl q f n : Nat) : gN := gup (gup (gup (gup M 120 nl (nI q)) 121 nl (nI f)) 122 nl (nI n)) 81 53 (nI (nl + 1))
def addF (g : Nat → Nat) (nl x : Nat) : Nat → Nat := fun k => if k = nl then x else g k
theorem tS_g (N : gN) (f pl a_ tk st vl : Int32) {p : Nat} (hp : p ≠ 34) (i : Nat) (x : Int32) : gup (tS N f pl a_ tk st vl) p i x = tS (gup N p i x) f pl a_ tk st vl := by
  funext p' q
  rw [gup_all]
  unfold tS
  by_cases h : p' = 34
  · subst h
    rw [if_neg (by omega), if_pos rfl, if_pos rfl, gup_row (by omega)]
  · rw [if_neg h, if_neg h, gup_all]
theorem rS_g (M : gN) (f pl a_ st tk vl : Int32) {p : Nat} (hp : p ≠ 81) (i : Nat) (x : Int32) : gup (rS M f pl a_ st tk vl) p i x = rS (gup M p i x) f pl a_ st tk vl := by
  funext p' q
  rw [gup_all]
  unfold rS
  by_cases h : p' = 81
  · subst h
    rw [if_neg (by omega), if_pos rfl, if_pos rfl, gup_row (by omega)]
  · rw [if_neg h, if_neg h, gup_all]
theorem rS_g53 (M : gN) (f pl a_ st tk vl x : Int32) : gup (rS M f pl a_ st tk vl) 81 53 x = rS (gup M 81 53 x) f pl a_ st tk vl := by
  funext p q
  rw [gup_all]
  unfold rS
  by_cases h : p = 81
  · subst h
    rw [if_pos rfl, if_pos rfl]
    by_cases h53 : q = 53
    · subst h53
      simp [gup_at]
    · simp [h53, gup_col h53]
  · rw [if_neg (fun z => h z.1), if_neg h, if_neg h, gup_row h]
theorem adC_row (N : gN) (nl q f n : Nat) : (∀ p, p < 36 ∨ 40 < p → adC N nl q f n p = N p) ∧ adC N nl q f n 36 0 = nI (nl + 1) ∧ (∀ k, adC N nl q f n 37 k = if k = nl then nI q else N 37 k) ∧ (∀ k, adC N nl q f n 38 k = if k = nl then nI f else N 38 k) ∧ (∀ k, adC N nl q f n 39 k = if k = nl then nI n else N 39 k) ∧ ∀ k, adC N nl q f n 40 k = if k = nl then 0 else N 40 k := by
  unfold adC
  refine ⟨fun p hp => ?_, gup_at _ _ _ _, fun k => ?_, fun k => ?_, fun k => ?_, fun k => ?_⟩
  · rw [gup_ne (by omega), gup_ne (by omega), gup_ne (by omega), gup_ne (by omega), gup_ne (by omega)]
  · rw [gup_row (by decide), gup_row (by decide), gup_row (by decide), gup_row (by decide), gup_eq]
  · rw [gup_row (by decide), gup_row (by decide), gup_row (by decide), gup_eq, gup_ne (by decide)]
  · rw [gup_row (by decide), gup_row (by decide), gup_eq, gup_ne (by decide), gup_ne (by decide)]
  · rw [gup_row (by decide), gup_eq, gup_ne (by decide), gup_ne (by decide), gup_ne (by decide)]
theorem adM_row (M : gN) (nl q f n : Nat) : (∀ p, p ≠ 81 → (p < 120 ∨ 122 < p) → adM M nl q f n p = M p) ∧ (∀ i, i ≠ 53 → adM M nl q f n 81 i = M 81 i) ∧ adM M nl q f n 81 53 = nI (nl + 1) ∧ (∀ k, adM M nl q f n 120 k = if k = nl then nI q else M 120 k) ∧ (∀ k, adM M nl q f n 121 k = if k = nl then nI f else M 121 k) ∧ ∀ k, adM M nl q f n 122 k = if k = nl then nI n else M 122 k := by
  unfold adM
  refine ⟨fun p hp h2 => ?_, fun i hi => ?_, gup_at _ _ _ _, fun k => ?_, fun k => ?_, fun k => ?_⟩
  · rw [gup_ne hp, gup_ne (by omega), gup_ne (by omega), gup_ne (by omega)]
  · rw [gup_col hi, gup_ne (by decide), gup_ne (by decide), gup_ne (by decide)]
  · rw [gup_row (by decide), gup_row (by decide), gup_row (by decide), gup_eq]
  · rw [gup_row (by decide), gup_row (by decide), gup_eq, gup_ne (by decide)]
  · rw [gup_row (by decide), gup_eq, gup_ne (by decide), gup_ne (by decide)]
theorem drC_.add {N : gN} {nl q f n : Nat} {ru fr nu : Nat → Nat} (D : drC_ N nl ru fr nu) : drC_ (adC N nl q f n) (nl + 1) (addF ru nl q) (addF fr nl f) (addF nu nl n) := by
  obtain ⟨d1, d2, d3⟩ := D
  obtain ⟨a0, a1, a2, a3, a4, a5⟩ := adC_row N nl q f n
  refine ⟨a1, fun k hk => ?_, fun k hk => ?_⟩
  · rw [a2, a3, a4]
    unfold addF
    by_cases e : k = nl
    · rw [if_pos e, if_pos e, if_pos e, if_pos e, if_pos e, if_pos e]; exact ⟨rfl, rfl, rfl⟩
    · rw [if_neg e, if_neg e, if_neg e, if_neg e, if_neg e, if_neg e]; exact d2 k (by omega)
  · rw [a5]
    by_cases e : k = nl
    · rw [if_pos e]
    · rw [if_neg e]; exact d3 k hk
theorem drM_.add {M : gN} {nl q f n : Nat} {ru fr nu : Nat → Nat} (D : drM_ M nl ru fr nu) : drM_ (adM M nl q f n) (nl + 1) (addF ru nl q) (addF fr nl f) (addF nu nl n) := by
  obtain ⟨d1, d2⟩ := D
  obtain ⟨a0, -, a1, a2, a3, a4⟩ := adM_row M nl q f n
  refine ⟨a1, fun k hk => ?_⟩
  rw [a2, a3, a4]
  unfold addF
  by_cases e : k = nl
  · rw [if_pos e, if_pos e, if_pos e, if_pos e, if_pos e, if_pos e]; exact ⟨rfl, rfl, rfl⟩
  · rw [if_neg e, if_neg e, if_neg e, if_neg e, if_neg e, if_neg e]; exact d2 k (by omega)
/-! is such a line drafted already? -/
section TL
variable {nl : Nat} {ru fr nu : Nat → Nat}
theorem cl_tells1 {m : gM} (h12 : nl ≤ 12) (h0 : m.1 36 0 = nI nl) (D : ∀ k, k < nl → m.1 37 k = nI (ru k) ∧ m.1 38 k = nI (fr k) ∧ m.1 39 k = nI (nu k)) (hB : ∀ k, k < nl → ru k ≤ 5 ∧ fr k ≤ 49 ∧ nu k ≤ 999) {q f b : Nat} (hq : q ≤ 5) (hf : f ≤ 49) (hb : b < nl) (h1 : ru b = q ∧ fr b = f) : ∀ (r k F : Nat), k + r = nl → k ≤ b → r < F → L_Orders_tells_2 36 (nI q) (nI f) m F (nI k) = some (1, m) := by
  intro r
  induction r with
  | zero => intro k F hk hkb; omega
  | succ r ih =>
    intro k F hk hkb hF
    obtain ⟨F, rfl⟩ : ∃ F', F = F' + 1 := ⟨F - 1, by omega⟩
    have hlt : k < nl := by omega
    obtain ⟨d1, d2, d3⟩ := D k hlt
    obtain ⟨b1, b2, b3⟩ := hB k hlt
    have e1 := eq_lit (b := ru k) (k := q) (by omega) (by omega)
    have e2 := eq_lit (b := fr k) (k := f) (by omega) (by omega)
    rw [L_Orders_tells_2_s]
    unfold J_Orders_tells_32
    by_cases c1 : ru k = q
    · by_cases c2 : fr k = f
      · simp (disch := omega) only [gfd_eq, glet_eq, gbind_eq, nI_ltI, nI_1, gok_nI, grd_nI, nI_clamp, if_true, if_false, Nat.lt_irrefl, h0, hlt, d1, d2, c1, c2, Nat.reduceAdd, i10, gokT]
      · have : k ≠ b := fun z => c2 (by rw [z]; exact h1.2)
        simp (disch := omega) only [gfd_eq, glet_eq, gbind_eq, nI_ltI, nI_1, gok_nI, grd_nI, nI_clamp, if_true, if_false, Nat.lt_irrefl, h0, hlt, d1, d2, c1, e2, c2, Nat.reduceAdd, i10, gokT]
        exact ih (k + 1) F (by omega) (by omega) (by omega)
    · have : k ≠ b := fun z => c1 (by rw [z]; exact h1.1)
      simp (disch := omega) only [gfd_eq, glet_eq, gbind_eq, nI_ltI, nI_1, gok_nI, grd_nI, nI_clamp, if_true, if_false, Nat.lt_irrefl, h0, hlt, d1, e1, c1, Nat.reduceAdd, i10, gokT]
      exact ih (k + 1) F (by omega) (by omega) (by omega)
theorem cl_tells0 {m : gM} (h12 : nl ≤ 12) (h0 : m.1 36 0 = nI nl) (D : ∀ k, k < nl → m.1 37 k = nI (ru k) ∧ m.1 38 k = nI (fr k) ∧ m.1 39 k = nI (nu k)) (hB : ∀ k, k < nl → ru k ≤ 5 ∧ fr k ≤ 49 ∧ nu k ≤ 999) {q f : Nat} (hq : q ≤ 5) (hf : f ≤ 49) (hn : ∀ b, b < nl → ¬ (ru b = q ∧ fr b = f)) : ∀ (r k F : Nat), k + r = nl → r < F → L_Orders_tells_2 36 (nI q) (nI f) m F (nI k) = some (0, m) := by
  intro r
  induction r with
  | zero =>
    intro k F hk hF
    obtain ⟨F, rfl⟩ : ∃ F', F = F' + 1 := ⟨F - 1, by omega⟩
    have e : k = nl := by omega
    subst e
    rw [L_Orders_tells_2_s]
    simp (disch := omega) only [gfd_eq, glet_eq, gbind_eq, nI_ltI, nI_1, gok_nI, grd_nI, nI_clamp, if_true, if_false, Nat.lt_irrefl, h0, i10, gokT]
  | succ r ih =>
    intro k F hk hF
    obtain ⟨F, rfl⟩ : ∃ F', F = F' + 1 := ⟨F - 1, by omega⟩
    have hlt : k < nl := by omega
    obtain ⟨d1, d2, d3⟩ := D k hlt
    obtain ⟨b1, b2, b3⟩ := hB k hlt
    have e1 := eq_lit (b := ru k) (k := q) (by omega) (by omega)
    have e2 := eq_lit (b := fr k) (k := f) (by omega) (by omega)
    have no := hn k hlt
    rw [L_Orders_tells_2_s]
    unfold J_Orders_tells_32
    by_cases c1 : ru k = q
    · have c2 : ¬ fr k = f := fun z => no ⟨c1, z⟩
      simp (disch := omega) only [gfd_eq, glet_eq, gbind_eq, nI_ltI, nI_1, gok_nI, grd_nI, nI_clamp, if_true, if_false, Nat.lt_irrefl, h0, hlt, d1, d2, c1, e2, c2, Nat.reduceAdd, i10, gokT]
      exact ih (k + 1) F (by omega) (by omega)
    · simp (disch := omega) only [gfd_eq, glet_eq, gbind_eq, nI_ltI, nI_1, gok_nI, grd_nI, nI_clamp, if_true, if_false, Nat.lt_irrefl, h0, hlt, d1, e1, c1, Nat.reduceAdd, i10, gokT]
      exact ih (k + 1) F (by omega) (by omega)
theorem cl_tellsAny {m : gM} (h12 : nl ≤ 12) (h0 : m.1 36 0 = nI nl) (x y : Int32) : ∀ (r k F : Nat), k + r = nl → r < F → ∃ z : Int32, L_Orders_tells_2 36 x y m F (nI k) = some (z, m) := by
  intro r
  induction r with
  | zero =>
    intro k F hk hF
    obtain ⟨F, rfl⟩ : ∃ F', F = F' + 1 := ⟨F - 1, by omega⟩
    have e : k = nl := by omega
    subst e
    refine ⟨0, ?_⟩
    rw [L_Orders_tells_2_s]
    simp (disch := omega) only [gfd_eq, glet_eq, gbind_eq, nI_ltI, nI_1, gok_nI, grd_nI, nI_clamp, if_true, if_false, Nat.lt_irrefl, h0, i10, gokT]
  | succ r ih =>
    intro k F hk hF
    obtain ⟨F, rfl⟩ : ∃ F', F = F' + 1 := ⟨F - 1, by omega⟩
    have hlt : k < nl := by omega
    rw [L_Orders_tells_2_s]
    unfold J_Orders_tells_32
    by_cases c1 : m.1 37 k = x
    · by_cases c2 : m.1 38 k = y
      · exact ⟨1, by simp (disch := omega) only [gfd_eq, glet_eq, gbind_eq, nI_ltI, nI_1, gok_nI, grd_nI, nI_clamp, if_true, if_false, Nat.lt_irrefl, h0, hlt, c1, c2, Nat.reduceAdd, i10, gokT]⟩
      · simp (disch := omega) only [gfd_eq, glet_eq, gbind_eq, nI_ltI, nI_1, gok_nI, grd_nI, nI_clamp, if_true, if_false, Nat.lt_irrefl, h0, hlt, c1, c2, Nat.reduceAdd, i10, gokT]
        exact ih (k + 1) F (by omega) (by omega)
    · simp (disch := omega) only [gfd_eq, glet_eq, gbind_eq, nI_ltI, nI_1, gok_nI, grd_nI, nI_clamp, if_true, if_false, Nat.lt_irrefl, h0, hlt, c1, Nat.reduceAdd, i10, gokT]
      exact ih (k + 1) F (by omega) (by omega)
theorem cl_exc1 {m : gM} (h12 : nl ≤ 12) (h0 : m.1 36 0 = nI nl) (D : ∀ k, k < nl → m.1 37 k = nI (ru k) ∧ m.1 38 k = nI (fr k) ∧ m.1 39 k = nI (nu k)) (hB : ∀ k, k < nl → ru k ≤ 5 ∧ fr k ≤ 49 ∧ nu k ≤ 999) {n f b : Nat} (hn : n ≤ 999) (hf : f ≤ 49) (hb : b < nl) (h1 : ru b = 5 ∧ fr b = f ∧ nu b = n) : ∀ (r k F : Nat), k + r = nl → k ≤ b → r < F → L_Orders_tellsExcept_2 36 (nI n) (nI f) m F (nI k) = some (1, m) := by
  intro r
  induction r with
  | zero => intro k F hk hkb; omega
  | succ r ih =>
    intro k F hk hkb hF
    obtain ⟨F, rfl⟩ : ∃ F', F = F' + 1 := ⟨F - 1, by omega⟩
    have hlt : k < nl := by omega
    obtain ⟨d1, d2, d3⟩ := D k hlt
    obtain ⟨b1, b2, b3⟩ := hB k hlt
    have e1 : (nI (ru k) = 5) ↔ ru k = 5 := eq_lit (b := ru k) (k := 5) (by omega) (by omega)
    have e2 := eq_lit (b := fr k) (k := f) (by omega) (by omega)
    have e3 : (nI (nu k) = nI n) ↔ nu k = n := nI_eq (by omega) (by omega)
    rw [L_Orders_tellsExcept_2_s]
    unfold J_Orders_tellsExcept_42
    by_cases c1 : ru k = 5
    · have c1' : m.1 37 k = 5 := by rw [d1, c1]; rfl
      by_cases c2 : fr k = f
      · by_cases c3 : nu k = n
        · simp (disch := omega) only [gfd_eq, glet_eq, gbind_eq, nI_ltI, nI_1, gok_nI, grd_nI, nI_clamp, if_true, if_false, Nat.lt_irrefl, h0, hlt, c1', d2, c2, d3, c3, Nat.reduceAdd, i10, gokT]
        · have : k ≠ b := fun z => c3 (by rw [z]; exact h1.2.2)
          simp (disch := omega) only [gfd_eq, glet_eq, gbind_eq, nI_ltI, nI_1, gok_nI, grd_nI, nI_clamp, if_true, if_false, Nat.lt_irrefl, h0, hlt, c1', d2, c2, d3, e3, c3, Nat.reduceAdd, i10, gokT]
          exact ih (k + 1) F (by omega) (by omega) (by omega)
      · have : k ≠ b := fun z => c2 (by rw [z]; exact h1.2.1)
        simp (disch := omega) only [gfd_eq, glet_eq, gbind_eq, nI_ltI, nI_1, gok_nI, grd_nI, nI_clamp, if_true, if_false, Nat.lt_irrefl, h0, hlt, c1', d2, e2, c2, Nat.reduceAdd, i10, gokT]
        exact ih (k + 1) F (by omega) (by omega) (by omega)
    · have : k ≠ b := fun z => c1 (by rw [z]; exact h1.1)
      simp (disch := omega) only [gfd_eq, glet_eq, gbind_eq, nI_ltI, nI_1, gok_nI, grd_nI, nI_clamp, if_true, if_false, Nat.lt_irrefl, h0, hlt, d1, e1, c1, Nat.reduceAdd, i10, gokT]
      exact ih (k + 1) F (by omega) (by omega) (by omega)
theorem cl_exc0 {m : gM} (h12 : nl ≤ 12) (h0 : m.1 36 0 = nI nl) (D : ∀ k, k < nl → m.1 37 k = nI (ru k) ∧ m.1 38 k = nI (fr k) ∧ m.1 39 k = nI (nu k)) (hB : ∀ k, k < nl → ru k ≤ 5 ∧ fr k ≤ 49 ∧ nu k ≤ 999) {n f : Nat} (hn : n ≤ 999) (hf : f ≤ 49) (hno : ∀ b, b < nl → ¬ (ru b = 5 ∧ fr b = f ∧ nu b = n)) : ∀ (r k F : Nat), k + r = nl → r < F → L_Orders_tellsExcept_2 36 (nI n) (nI f) m F (nI k) = some (0, m) := by
  intro r
  induction r with
  | zero =>
    intro k F hk hF
    obtain ⟨F, rfl⟩ : ∃ F', F = F' + 1 := ⟨F - 1, by omega⟩
    have e : k = nl := by omega
    subst e
    rw [L_Orders_tellsExcept_2_s]
    simp (disch := omega) only [gfd_eq, glet_eq, gbind_eq, nI_ltI, nI_1, gok_nI, grd_nI, nI_clamp, if_true, if_false, Nat.lt_irrefl, h0, i10, gokT]
  | succ r ih =>
    intro k F hk hF
    obtain ⟨F, rfl⟩ : ∃ F', F = F' + 1 := ⟨F - 1, by omega⟩
    have hlt : k < nl := by omega
    obtain ⟨d1, d2, d3⟩ := D k hlt
    obtain ⟨b1, b2, b3⟩ := hB k hlt
    have e1 : (nI (ru k) = 5) ↔ ru k = 5 := eq_lit (b := ru k) (k := 5) (by omega) (by omega)
    have e2 := eq_lit (b := fr k) (k := f) (by omega) (by omega)
    have e3 : (nI (nu k) = nI n) ↔ nu k = n := nI_eq (by omega) (by omega)
    have no := hno k hlt
    rw [L_Orders_tellsExcept_2_s]
    unfold J_Orders_tellsExcept_42
    by_cases c1 : ru k = 5
    · have c1' : m.1 37 k = 5 := by rw [d1, c1]; rfl
      by_cases c2 : fr k = f
      · have c3 : ¬ nu k = n := fun z => no ⟨c1, c2, z⟩
        simp (disch := omega) only [gfd_eq, glet_eq, gbind_eq, nI_ltI, nI_1, gok_nI, grd_nI, nI_clamp, if_true, if_false, Nat.lt_irrefl, h0, hlt, c1', d2, c2, d3, e3, c3, Nat.reduceAdd, i10, gokT]
        exact ih (k + 1) F (by omega) (by omega)
      · simp (disch := omega) only [gfd_eq, glet_eq, gbind_eq, nI_ltI, nI_1, gok_nI, grd_nI, nI_clamp, if_true, if_false, Nat.lt_irrefl, h0, hlt, c1', d2, e2, c2, Nat.reduceAdd, i10, gokT]
        exact ih (k + 1) F (by omega) (by omega)
    · simp (disch := omega) only [gfd_eq, glet_eq, gbind_eq, nI_ltI, nI_1, gok_nI, grd_nI, nI_clamp, if_true, if_false, Nat.lt_irrefl, h0, hlt, d1, e1, c1, Nat.reduceAdd, i10, gokT]
      exact ih (k + 1) F (by omega) (by omega)
theorem cl_excAny {m : gM} (h12 : nl ≤ 12) (h0 : m.1 36 0 = nI nl) (x y : Int32) : ∀ (r k F : Nat), k + r = nl → r < F → ∃ z : Int32, L_Orders_tellsExcept_2 36 x y m F (nI k) = some (z, m) := by
  intro r
  induction r with
  | zero =>
    intro k F hk hF
    obtain ⟨F, rfl⟩ : ∃ F', F = F' + 1 := ⟨F - 1, by omega⟩
    have e : k = nl := by omega
    subst e
    refine ⟨0, ?_⟩
    rw [L_Orders_tellsExcept_2_s]
    simp (disch := omega) only [gfd_eq, glet_eq, gbind_eq, nI_ltI, nI_1, gok_nI, grd_nI, nI_clamp, if_true, if_false, Nat.lt_irrefl, h0, i10, gokT]
  | succ r ih =>
    intro k F hk hF
    obtain ⟨F, rfl⟩ : ∃ F', F = F' + 1 := ⟨F - 1, by omega⟩
    have hlt : k < nl := by omega
    rw [L_Orders_tellsExcept_2_s]
    unfold J_Orders_tellsExcept_42
    by_cases c1 : m.1 37 k = 5
    · by_cases c2 : m.1 38 k = y
      · by_cases c3 : m.1 39 k = x
        · exact ⟨1, by simp (disch := omega) only [gfd_eq, glet_eq, gbind_eq, nI_ltI, nI_1, gok_nI, grd_nI, nI_clamp, if_true, if_false, Nat.lt_irrefl, h0, hlt, c1, c2, c3, Nat.reduceAdd, i10, gokT]⟩
        · simp (disch := omega) only [gfd_eq, glet_eq, gbind_eq, nI_ltI, nI_1, gok_nI, grd_nI, nI_clamp, if_true, if_false, Nat.lt_irrefl, h0, hlt, c1, c2, c3, Nat.reduceAdd, i10, gokT]
          exact ih (k + 1) F (by omega) (by omega)
      · simp (disch := omega) only [gfd_eq, glet_eq, gbind_eq, nI_ltI, nI_1, gok_nI, grd_nI, nI_clamp, if_true, if_false, Nat.lt_irrefl, h0, hlt, c1, c2, Nat.reduceAdd, i10, gokT]
        exact ih (k + 1) F (by omega) (by omega)
    · simp (disch := omega) only [gfd_eq, glet_eq, gbind_eq, nI_ltI, nI_1, gok_nI, grd_nI, nI_clamp, if_true, if_false, Nat.lt_irrefl, h0, hlt, c1, Nat.reduceAdd, i10, gokT]
      exact ih (k + 1) F (by omega) (by omega)
/-- the reference asks once for both -/
def onM (ru fr nu : Nat → Nat) (q f n b : Nat) : Prop := ru b = q ∧ fr b = f ∧ (q = 5 → nu b = n)
theorem mo_once1 {M : gN} {L : Nat → Nat → Int64} {wa a_ st tk vl : Int32} (h12 : nl ≤ 12) (D : drM_ M nl ru fr nu) (hB : ∀ k, k < nl → ru k ≤ 5 ∧ fr k ≤ 49 ∧ nu k ≤ 999) {q f n b : Nat} (hq : q ≤ 5) (hf : f ≤ 49) (hn : n ≤ 999) (hb : b < nl) (h1 : onM ru fr nu q f n b) : ∀ (r k F : Nat), k + r = nl → k ≤ b → r + 1 < F → L_MO_once_3 (nI q) (nI f) (nI n) F (nI k) (rS M 0 wa a_ st tk vl, L) = some (rS M 5 st a_ st tk vl, L) := by
  have n5 : ¬ (5 : Int32) = 0 := by decide
  have z0 : ((0 : Int32) = 0) = True := eq_true rfl
  intro r
  induction r with
  | zero => intro k F hk hkb; omega
  | succ r ih =>
    intro k F hk hkb hF
    obtain ⟨F, rfl⟩ : ∃ F', F = F' + 1 + 1 := ⟨F - 2, by omega⟩
    have hlt : k < nl := by omega
    have d0 := D.1
    obtain ⟨d1, d2, d3⟩ := D.2 k hlt
    obtain ⟨b1, b2, b3⟩ := hB k hlt
    have c0 : rS M 0 wa a_ st tk vl 81 53 = nI nl := d0
    have r1 : rS M 0 wa a_ st tk vl 120 k = nI (ru k) := (congrFun (rS_ne (by decide)) k).trans d1
    have r2 : rS M 0 wa a_ st tk vl 121 k = nI (fr k) := (congrFun (rS_ne (by decide)) k).trans d2
    have r3 : rS M 0 wa a_ st tk vl 122 k = nI (nu k) := (congrFun (rS_ne (by decide)) k).trans d3
    have e1 := eq_lit (b := ru k) (k := q) (by omega) (by omega)
    have e2 := eq_lit (b := fr k) (k := f) (by omega) (by omega)
    have e3 : (nI (nu k) = nI n) ↔ nu k = n := nI_eq (by omega) (by omega)
    have e5 : (nI q = 5) ↔ q = 5 := eq_lit (b := q) (k := 5) (by omega) (by omega)
    have hit : L_MO_once_3 (nI q) (nI f) (nI n) (F + 1) (nI (k + 1)) (rS M 5 st a_ st tk vl, L) = some (rS M 5 st a_ st tk vl, L) := by
      rw [L_MO_once_3_s]
      by_cases y : nI (k + 1) < gfd (rS M 5 st a_ st tk vl, L) 81 53
      · rw [if_pos y]
        exact if_neg n5
      · rw [if_neg y]
    rw [L_MO_once_3_s]
    unfold J_MO_once_57 J_MO_once_62
    by_cases c1 : ru k = q
    · have C1 : (nI (ru k) = nI q) = True := eq_true (e1.mpr c1)
      by_cases c2 : fr k = f
      · have C2 : (nI (fr k) = nI f) = True := eq_true (e2.mpr c2)
        by_cases c5 : q = 5
        · have C5 : (nI q = 5) = True := eq_true (e5.mpr c5)
          by_cases c3 : nu k = n
          · have C3 : (nI (nu k) = nI n) = True := eq_true (e3.mpr c3)
            simp (disch := omega) only [gfd_eq, glet_eq, gbind_eq, nI_ltI, nI_1, gok_nI, grd_nI, nI_clamp, if_true, if_false, Nat.lt_irrefl, c0, hlt, rS_r39, z0, r1, C1, r2, C2, C5, r3, C3, mo_fails0, hit, i10, gokT]
          · have C3 : (nI (nu k) = nI n) = False := eq_false (fun z => c3 (e3.mp z))
            have : k ≠ b := fun z => c3 (by rw [z]; exact h1.2.2 c5)
            simp (disch := omega) only [gfd_eq, glet_eq, gbind_eq, nI_ltI, nI_1, gok_nI, grd_nI, nI_clamp, if_true, if_false, Nat.lt_irrefl, c0, hlt, rS_r39, z0, r1, C1, r2, C2, C5, r3, C3, i10, gokT]
            exact ih (k + 1) (F + 1) (by omega) (by omega) (by omega)
        · have C5 : (nI q = 5) = False := eq_false (fun z => c5 (e5.mp z))
          simp (disch := omega) only [gfd_eq, glet_eq, gbind_eq, nI_ltI, nI_1, gok_nI, grd_nI, nI_clamp, if_true, if_false, Nat.lt_irrefl, c0, hlt, rS_r39, z0, r1, C1, r2, C2, C5, mo_fails0, hit, i10, gokT]
      · have C2 : (nI (fr k) = nI f) = False := eq_false (fun z => c2 (e2.mp z))
        have : k ≠ b := fun z => c2 (by rw [z]; exact h1.2.1)
        simp (disch := omega) only [gfd_eq, glet_eq, gbind_eq, nI_ltI, nI_1, gok_nI, grd_nI, nI_clamp, if_true, if_false, Nat.lt_irrefl, c0, hlt, rS_r39, z0, r1, C1, r2, C2, i10, gokT]
        exact ih (k + 1) (F + 1) (by omega) (by omega) (by omega)
    · have C1 : (nI (ru k) = nI q) = False := eq_false (fun z => c1 (e1.mp z))
      have : k ≠ b := fun z => c1 (by rw [z]; exact h1.1)
      simp (disch := omega) only [gfd_eq, glet_eq, gbind_eq, nI_ltI, nI_1, gok_nI, grd_nI, nI_clamp, if_true, if_false, Nat.lt_irrefl, c0, hlt, rS_r39, z0, r1, C1, i10, gokT]
      exact ih (k + 1) (F + 1) (by omega) (by omega) (by omega)
theorem mo_once0 {M : gN} {L : Nat → Nat → Int64} {wa a_ st tk vl : Int32} (h12 : nl ≤ 12) (D : drM_ M nl ru fr nu) (hB : ∀ k, k < nl → ru k ≤ 5 ∧ fr k ≤ 49 ∧ nu k ≤ 999) {q f n : Nat} (hq : q ≤ 5) (hf : f ≤ 49) (hn : n ≤ 999) (hno : ∀ b, b < nl → ¬ onM ru fr nu q f n b) : ∀ (r k F : Nat), k + r = nl → r < F → L_MO_once_3 (nI q) (nI f) (nI n) F (nI k) (rS M 0 wa a_ st tk vl, L) = some (rS M 0 wa a_ st tk vl, L) := by
  have z0 : ((0 : Int32) = 0) = True := eq_true rfl
  have d0 := D.1
  have c0 : rS M 0 wa a_ st tk vl 81 53 = nI nl := d0
  intro r
  induction r with
  | zero =>
    intro k F hk hF
    obtain ⟨F, rfl⟩ : ∃ F', F = F' + 1 := ⟨F - 1, by omega⟩
    have e : k = nl := by omega
    subst e
    rw [L_MO_once_3_s]
    simp (disch := omega) only [gfd_eq, glet_eq, gbind_eq, nI_ltI, nI_1, gok_nI, grd_nI, nI_clamp, if_true, if_false, Nat.lt_irrefl, c0, i10, gokT]
  | succ r ih =>
    intro k F hk hF
    obtain ⟨F, rfl⟩ : ∃ F', F = F' + 1 := ⟨F - 1, by omega⟩
    have hlt : k < nl := by omega
    obtain ⟨d1, d2, d3⟩ := D.2 k hlt
    obtain ⟨b1, b2, b3⟩ := hB k hlt
    have r1 : rS M 0 wa a_ st tk vl 120 k = nI (ru k) := (congrFun (rS_ne (by decide)) k).trans d1
    have r2 : rS M 0 wa a_ st tk vl 121 k = nI (fr k) := (congrFun (rS_ne (by decide)) k).trans d2
    have r3 : rS M 0 wa a_ st tk vl 122 k = nI (nu k) := (congrFun (rS_ne (by decide)) k).trans d3
    have e1 := eq_lit (b := ru k) (k := q) (by omega) (by omega)
    have e2 := eq_lit (b := fr k) (k := f) (by omega) (by omega)
    have e3 : (nI (nu k) = nI n) ↔ nu k = n := nI_eq (by omega) (by omega)
    have e5 : (nI q = 5) ↔ q = 5 := eq_lit (b := q) (k := 5) (by omega) (by omega)
    have no := hno k hlt
    rw [L_MO_once_3_s]
    unfold J_MO_once_62
    by_cases c1 : ru k = q
    · have C1 : (nI (ru k) = nI q) = True := eq_true (e1.mpr c1)
      by_cases c2 : fr k = f
      · have C2 : (nI (fr k) = nI f) = True := eq_true (e2.mpr c2)
        have c5 : q = 5 := Classical.byContradiction (fun z => no ⟨c1, c2, fun y => (z y).elim⟩)
        have C5 : (nI q = 5) = True := eq_true (e5.mpr c5)
        have c3 : ¬ nu k = n := fun z => no ⟨c1, c2, fun _ => z⟩
        have C3 : (nI (nu k) = nI n) = False := eq_false (fun z => c3 (e3.mp z))
        simp (disch := omega) only [gfd_eq, glet_eq, gbind_eq, nI_ltI, nI_1, gok_nI, grd_nI, nI_clamp, if_true, if_false, Nat.lt_irrefl, c0, hlt, rS_r39, z0, r1, C1, r2, C2, C5, r3, C3, i10, gokT]
        exact ih (k + 1) F (by omega) (by omega)
      · have C2 : (nI (fr k) = nI f) = False := eq_false (fun z => c2 (e2.mp z))
        simp (disch := omega) only [gfd_eq, glet_eq, gbind_eq, nI_ltI, nI_1, gok_nI, grd_nI, nI_clamp, if_true, if_false, Nat.lt_irrefl, c0, hlt, rS_r39, z0, r1, C1, r2, C2, i10, gokT]
        exact ih (k + 1) F (by omega) (by omega)
    · have C1 : (nI (ru k) = nI q) = False := eq_false (fun z => c1 (e1.mp z))
      simp (disch := omega) only [gfd_eq, glet_eq, gbind_eq, nI_ltI, nI_1, gok_nI, grd_nI, nI_clamp, if_true, if_false, Nat.lt_irrefl, c0, hlt, rS_r39, z0, r1, C1, i10, gokT]
      exact ih (k + 1) F (by omega) (by omega)
end TL
