/-! ===== must ===== -/
theorem L_MO_must_60_s (x1 : Int32) (x5 : Int32) (r4 : gM) (k_60 : Int32 → Int32 → Int32 → Int32 → Option (Int32 × gM)) (F : Nat) (v5 : Int32) (v6 : Int32) (v7 : Int32) (v8 : Int32) : L_MO_must_60 x1 x5 r4 k_60 (F + 1) v5 v6 v7 v8 = (if v8 < ((1 : Int32) <<< (x1 &&& 31)) then (if ((v8 >>> (x5 &&& 31)) &&& 1) = 0 then (gok (gib ((4 * (v8 ||| ((1 : Int32) <<< (x5 &&& 31)))) + x5) 64) (gok (gib ((4 * v8) + x5) 64) (glet ((grd r4 124 ((4 * (v8 ||| ((1 : Int32) <<< (x5 &&& 31)))) + x5)) - (grd r4 124 ((4 * v8) + x5))) fun (v44 : Int32) => if v5 = 0 then (J_MO_must_124 (L_MO_must_60 x1 x5 r4 k_60 F) v5 v6 v7 v8 v44) else (if 0 < v44 then (J_MO_must_125 (L_MO_must_60 x1 x5 r4 k_60 F) v5 v6 v7 v8 v44 1) else (J_MO_must_124 (L_MO_must_60 x1 x5 r4 k_60 F) v5 v6 v7 v8 v44))))) else (J_MO_must_161 (L_MO_must_60 x1 x5 r4 k_60 F) v5 v6 v7 v8)) else (k_60 v5 v6 v7 v8)) := rfl
theorem L_Race_urgeOf_7_s (a : Nat) (x1 : Int32) (k_7 : Int32 → Int32 → Int32 → gM → Option (Int32 × gM)) (F : Nat) (v4 : Int32) (v5 : Int32) (v6 : Int32) (m2 : gM) : L_Race_urgeOf_7 a x1 k_7 (F + 1) v4 v5 v6 m2 = (if v6 < ((1 : Int32) <<< ((gfd m2 a 4) &&& 31)) then ((f_Race_drills v6 x1 m2).bind fun (r1 : Int32 × gM) => if r1.1 = 0 then ((f_Race_gainOf a (v6 ||| ((1 : Int32) <<< (x1 &&& 31))) x1 r1.2).bind fun (r2 : Int32 × gM) => (f_Race_gainOf a v6 x1 r2.2).bind fun (r3 : Int32 × gM) => glet (r2.1 - r3.1) fun (v26 : Int32) => if v26 < 0 then (some (0, r3.2)) else (if v4 = 0 then (J_Race_urgeOf_68 (L_Race_urgeOf_7 a x1 k_7 F) v4 v5 v6 v26 r3.2) else (if 0 < v26 then (J_Race_urgeOf_69 (L_Race_urgeOf_7 a x1 k_7 F) v4 v5 v6 v26 1 r3.2) else (J_Race_urgeOf_68 (L_Race_urgeOf_7 a x1 k_7 F) v4 v5 v6 v26 r3.2)))) else (J_Race_urgeOf_85 (L_Race_urgeOf_7 a x1 k_7 F) v4 v5 v6 r1.2)) else (k_7 v4 v5 v6 m2)) := rfl
theorem bit_ok0 : ∀ set, set < 16 → ∀ p, p < 4 → (((nI set >>> (nI p &&& 31)) &&& 1 = 0) ↔ ¬ set / 2 ^ p % 2 = 1) := by decide
def bI (b : Bool) : Int32 := if b = true then 1 else 0
section MU
variable (G : Nat → Nat → Int32) (p : Nat)
/-- what more p gains who drills where others do as the set says -/
def muG (set : Nat) : Int32 := G (set ||| 2 ^ p) p - G set p
def muA : Nat → Bool
  | 0 => true
  | k + 1 => if k / 2 ^ p % 2 = 1 then muA k else muA k && decide (0 < muG G p k)
def muN : Nat → Bool
  | 0 => true
  | k + 1 => if k / 2 ^ p % 2 = 1 then muN k else muN k && decide (¬ muG G p k < 0)
def muO : Nat → Bool
  | 0 => false
  | k + 1 => if k / 2 ^ p % 2 = 1 then muO k else muO k || decide (0 < muG G p k)
end MU
section MV
variable {G : Nat → Nat → Int32} {p n : Nat}
theorem mu_AN : ∀ k, muA G p k = true → muN G p k = true
  | 0, _ => rfl
  | k + 1, h => by
    have h : (if k / 2 ^ p % 2 = 1 then muA G p k else muA G p k && decide (0 < muG G p k)) = true := h
    show (if k / 2 ^ p % 2 = 1 then muN G p k else muN G p k && decide (¬ muG G p k < 0)) = true
    by_cases hb : k / 2 ^ p % 2 = 1
    · rw [if_pos hb] at h ⊢; exact mu_AN k h
    · rw [if_neg hb] at h ⊢
      rw [Bool.and_eq_true, decide_eq_true_iff] at h ⊢
      exact ⟨mu_AN k h.1, Int32.lt_asymm h.2⟩
theorem muN_stay {k : Nat} (h : muN G p k = false) : ∀ d, muN G p (k + d) = false
  | 0 => h
  | d + 1 => by
    have i := muN_stay h d
    show (if (k + d) / 2 ^ p % 2 = 1 then muN G p (k + d) else muN G p (k + d) && decide (¬ muG G p (k + d) < 0)) = false
    rw [i]
    split <;> rfl
theorem mo_mustStep (a b c : Bool) (mv : Int32) (k : Nat) (g : Int32 → Int32 → Int32 → Int32 → Option (Int32 × gM)) : (if bI a = 0 then J_MO_must_124 g (bI a) (bI b) (bI c) (nI k) mv else if 0 < mv then J_MO_must_125 g (bI a) (bI b) (bI c) (nI k) mv 1 else J_MO_must_124 g (bI a) (bI b) (bI c) (nI k) mv) = g (bI (a && decide (0 < mv))) (bI (b && decide (¬ mv < 0))) (bI (c || decide (0 < mv))) (nI (k + 1)) := by
  unfold J_MO_must_124 J_MO_must_125 J_MO_must_141 J_MO_must_142 J_MO_must_154 J_MO_must_159 J_MO_must_161
  rw [nI_1]
  have t1 : bI true = 1 := rfl
  have t0 : bI false = 0 := rfl
  by_cases h1 : 0 < mv <;> by_cases h2 : mv < 0 <;> cases a <;> cases b <;> cases c <;> simp only [t1, t0, h1, h2, i10, if_true, if_false, decide_true, decide_false, Bool.and_true, Bool.and_false, Bool.or_true, Bool.or_false, Bool.true_and, Bool.false_and, Bool.true_or, Bool.false_or, not_true, not_false_iff]
theorem mo_mustLoop {m : gM} (D : gnM G n m) (hp : p < n) (K : Int32 → Int32 → Int32 → Int32 → Option (Int32 × gM)) : ∀ (r k F : Nat), k + r = 2 ^ n → r < F → L_MO_must_60 (nI n) (nI p) m K F (bI (muA G p k)) (bI (muN G p k)) (bI (muO G p k)) (nI k) = K (bI (muA G p (2 ^ n))) (bI (muN G p (2 ^ n))) (bI (muO G p (2 ^ n))) (nI (2 ^ n)) := by
  have n4 := D.1
  have h16 := pow16 n4
  have sh := sh_ok n n4
  intro r
  induction r with
  | zero =>
    intro k F hk hF
    obtain ⟨F, rfl⟩ : ∃ F', F = F' + 1 := ⟨F - 1, by omega⟩
    have e : k = 2 ^ n := by omega
    subst e
    rw [L_MO_must_60_s]
    simp (disch := omega) only [gfd_eq, glet_eq, gbind_eq, nI_ltI, nI_1, gok_nI, grd_nI, nI_clamp, if_true, if_false, Nat.lt_irrefl, sh, i10, gokT]
  | succ r ih =>
    intro k F hk hF
    obtain ⟨F, rfl⟩ : ∃ F', F = F' + 1 := ⟨F - 1, by omega⟩
    have hs : k < 2 ^ n := by omega
    have IH := ih (k + 1) F (by omega) (by omega)
    have b0 := bit_ok0 k (by omega) p (by omega)
    rw [L_MO_must_60_s]
    by_cases hb : k / 2 ^ p % 2 = 1
    · have B0 : ((nI k >>> (nI p &&& 31)) &&& 1 = 0) = False := eq_false (fun z => b0.mp z hb)
      rw [show muA G p (k + 1) = muA G p k from if_pos hb, show muN G p (k + 1) = muN G p k from if_pos hb, show muO G p (k + 1) = muO G p k from if_pos hb] at IH
      unfold J_MO_must_161
      simp (disch := omega) only [gfd_eq, glet_eq, gbind_eq, nI_ltI, nI_1, gok_nI, grd_nI, nI_clamp, if_true, if_false, Nat.lt_irrefl, sh, hs, B0, i10, gokT]
      exact IH
    · have B0 : ((nI k >>> (nI p &&& 31)) &&& 1 = 0) = True := eq_true (b0.mpr hb)
      rw [show muA G p (k + 1) = (muA G p k && decide (0 < muG G p k)) from if_neg hb, show muN G p (k + 1) = (muN G p k && decide (¬ muG G p k < 0)) from if_neg hb, show muO G p (k + 1) = (muO G p k || decide (0 < muG G p k)) from if_neg hb] at IH
      have x := or_ok k (by omega) p (by omega)
      have xl := or_lt2 hs hp
      have e1 := D.2 _ xl p hp
      have e2 := D.2 k hs p hp
      have em : G (k ||| 2 ^ p) p - G k p = muG G p k := rfl
      rw [← e1] at em
      generalize k ||| 2 ^ p = y at *
      simp (disch := omega) only [gfd_eq, glet_eq, gbind_eq, nI_ltI, nI_1, gok_nI, grd_nI, nI_clamp, if_true, if_false, Nat.lt_irrefl, sh, hs, B0, x, n4c, pk_mul, nI_add, e2, em, i10, gokT]
      exact (mo_mustStep _ _ _ _ _ _).trans IH
theorem cl_urgeStep (a c : Bool) (mv : Int32) (k : Nat) (g : Int32 → Int32 → Int32 → gM → Option (Int32 × gM)) (m : gM) : (if bI a = 0 then J_Race_urgeOf_68 g (bI a) (bI c) (nI k) mv m else if 0 < mv then J_Race_urgeOf_69 g (bI a) (bI c) (nI k) mv 1 m else J_Race_urgeOf_68 g (bI a) (bI c) (nI k) mv m) = g (bI (a && decide (0 < mv))) (bI (c || decide (0 < mv))) (nI (k + 1)) m := by
  unfold J_Race_urgeOf_68 J_Race_urgeOf_69 J_Race_urgeOf_79 J_Race_urgeOf_84 J_Race_urgeOf_85
  rw [nI_1]
  have t1 : bI true = 1 := rfl
  have t0 : bI false = 0 := rfl
  by_cases h1 : 0 < mv <;> cases a <;> cases c <;> simp only [t1, t0, h1, i10, if_true, if_false, decide_true, decide_false, Bool.and_true, Bool.and_false, Bool.or_true, Bool.or_false, Bool.true_and, Bool.false_and, Bool.true_or, Bool.false_or]
theorem cl_urgeLoop {m : gM} (D : gnC G n m) (hp : p < n) (K : Int32 → Int32 → Int32 → gM → Option (Int32 × gM)) : ∀ (r k F : Nat), k + r = 2 ^ n → muN G p k = true → r < F → L_Race_urgeOf_7 54 (nI p) K F (bI (muA G p k)) (bI (muO G p k)) (nI k) m = if muN G p (2 ^ n) = true then K (bI (muA G p (2 ^ n))) (bI (muO G p (2 ^ n))) (nI (2 ^ n)) m else some (0, m) := by
  have n4 := D.1
  have h4 := D.2.1
  have h16 := pow16 n4
  have sh := sh_ok n n4
  intro r
  induction r with
  | zero =>
    intro k F hk hN hF
    obtain ⟨F, rfl⟩ : ∃ F', F = F' + 1 := ⟨F - 1, by omega⟩
    have e : k = 2 ^ n := by omega
    subst e
    rw [L_Race_urgeOf_7_s, if_pos hN]
    simp (disch := omega) only [gfd_eq, glet_eq, gbind_eq, nI_ltI, nI_1, gok_nI, grd_nI, nI_clamp, if_true, if_false, Nat.lt_irrefl, h4, sh, i10, gokT]
  | succ r ih =>
    intro k F hk hN hF
    obtain ⟨F, rfl⟩ : ∃ F', F = F' + 1 := ⟨F - 1, by omega⟩
    have hs : k < 2 ^ n := by omega
    have dl := cl_drills (set := k) (p := p) m (by omega) (by omega)
    rw [L_Race_urgeOf_7_s]
    by_cases hb : k / 2 ^ p % 2 = 1
    · rw [if_pos hb] at dl
      have IH := ih (k + 1) F (by omega) (by rw [show muN G p (k + 1) = muN G p k from if_pos hb]; exact hN) (by omega)
      rw [show muA G p (k + 1) = muA G p k from if_pos hb, show muO G p (k + 1) = muO G p k from if_pos hb] at IH
      unfold J_Race_urgeOf_85
      simp (disch := omega) only [gfd_eq, glet_eq, gbind_eq, nI_ltI, nI_1, gok_nI, grd_nI, nI_clamp, if_true, if_false, Nat.lt_irrefl, h4, sh, hs, dl, i10, gokT]
      exact IH
    · rw [if_neg hb] at dl
      have x := or_ok k (by omega) p (by omega)
      have e1 := cl_gainOf D (or_lt2 hs hp) hp
      have e2 := cl_gainOf D hs hp
      have em : G (k ||| 2 ^ p) p - G k p = muG G p k := rfl
      have hNs : muN G p (k + 1) = (muN G p k && decide (¬ muG G p k < 0)) := if_neg hb
      by_cases h0 : muG G p k < 0
      · have hN0 : muN G p (k + 1) = false := by rw [hNs, hN, decide_eq_false (fun z => z h0)]; rfl
        have := muN_stay hN0 r
        rw [show k + 1 + r = 2 ^ n by omega] at this
        have tf : ¬ muN G p (2 ^ n) = true := by rw [this]; decide
        rw [if_neg tf]
        simp (disch := omega) only [gfd_eq, glet_eq, gbind_eq, nI_ltI, nI_1, gok_nI, grd_nI, nI_clamp, if_true, if_false, Nat.lt_irrefl, h4, sh, hs, dl, x, e1, e2, em, h0, i10, gokT]
      · have hN1 : muN G p (k + 1) = true := by rw [hNs, hN, decide_eq_true h0]; rfl
        have IH := ih (k + 1) F (by omega) hN1 (by omega)
        rw [show muA G p (k + 1) = (muA G p k && decide (0 < muG G p k)) from if_neg hb, show muO G p (k + 1) = (muO G p k || decide (0 < muG G p k)) from if_neg hb] at IH
        simp (disch := omega) only [gfd_eq, glet_eq, gbind_eq, nI_ltI, nI_1, gok_nI, grd_nI, nI_clamp, if_true, if_false, Nat.lt_irrefl, h4, sh, hs, dl, x, e1, e2, em, h0, i10, gokT]
        exact (cl_urgeStep _ _ _ _ _ _).trans IH
end MV
theorem p_must {n0 K : Nat} {m : gM} (hn0 : n0 < 512) (x1 x2 x3 x4 x5 : Int32) (I : Inv n0 K m.1) : gBoth n0 K (f_OT_must x1 x2 x3 x4 x5) (f_MO_must x1 x2 x3 x4 x5) m := by
  rcases race_pre hn0 x1 x2 x3 x4 I with ⟨ra, rb⟩ | ⟨n, v, c, H, rfl, rfl, rfl, rfl, ⟨n1, n4, v1, c1, h1, h2⟩, ra, rb, hsp⟩
  · refine gBoth.same (-1) I ?_ ?_
    · unfold f_OT_must
      simp (disch := omega) only [gfd_eq, glet_eq, gbind_eq, nI_ltI, nI_1, gok_nI, grd_nI, nI_clamp, if_true, if_false, Nat.lt_irrefl, ra, i10, gokT]
    · unfold f_MO_must
      simp (disch := omega) only [gfd_eq, glet_eq, gbind_eq, nI_ltI, nI_1, gok_nI, grd_nI, nI_clamp, if_true, if_false, Nat.lt_irrefl, rb, i10, gokT]
  have hp16 := pow16 n4
  have rb0 := rb m rfl
  have b5 : ∀ (x : Int32) (m : gM), f_MO_in x.toInt64 (Int32.toInt64 0) (Int32.toInt64 (nI n - 1)) m = _ := fun x m => mo_in0 (x := x) (n := n) (by omega) m
  rcases gib_cases x5 n with hg | ⟨p, hp, rfl, hp2⟩
  · refine gBoth.same (-1) I ?_ ?_
    · unfold f_OT_must
      simp (disch := omega) only [gfd_eq, glet_eq, gbind_eq, nI_ltI, nI_1, gok_nI, grd_nI, nI_clamp, if_true, if_false, Nat.lt_irrefl, ra, i10, gokT]
      rcases gib_no (by omega) hg with z | ⟨z, z2⟩
      · rw [if_pos z]
      · rw [if_neg z, if_neg z2]
    · unfold f_MO_must
      simp (disch := omega) only [gfd_eq, glet_eq, gbind_eq, nI_ltI, nI_1, gok_nI, grd_nI, nI_clamp, if_true, if_false, Nat.lt_irrefl, rb0, b5, hg, Bool.false_eq_true, i10, gokT]
  have hgp := gib_iff.mpr ⟨p, hp, rfl, hp2⟩
  have s0 := nI_nneg (k := p) (by omega)
  rcases hsp with ⟨sa, sb⟩ | ⟨sa, w, h, hr, we, sd, gs, wt, ol, wp, wc, ww, wo, sp, W, sb⟩
  · refine gBoth.same (-2) I ?_ ?_
    · unfold f_OT_must
      simp (disch := omega) only [gfd_eq, glet_eq, gbind_eq, nI_ltI, nI_1, gok_nI, grd_nI, nI_clamp, if_true, if_false, Nat.lt_irrefl, ra, s0, hp, sa, i10, gokT]
    · unfold f_MO_must
      simp (disch := omega) only [gfd_eq, glet_eq, gbind_eq, nI_ltI, nI_1, gok_nI, grd_nI, nI_clamp, if_true, if_false, Nat.lt_irrefl, rb0, b5, hgp, sb, i10, gokT]
  obtain ⟨N2, L2, N3, r2, h54, D2, e8, W2, r3, D3, I3⟩ := race_all (c := c) I h2 v1 n4 W
  have rb2 := rb (N2, L2) e8
  have sb2 := sb (N2, L2) W2
  have cp := cl_prepare n v c H m
  have DC : gnC (rGn w h sd gs we wp wc ww wo n sp v H c ol wt) n (N2, L2) := ⟨n4, h54, D2⟩
  have DM : gnM (rGn w h sd gs we wp wc ww wo n sp v H c ol wt) n (N3, L2) := ⟨n4, D3⟩
  generalize rGn w h sd gs we wp wc ww wo n sp v H c ol wt = G at DC DM
  have a1 : bI (muA G p 0) = 1 := rfl
  have a2 : bI (muN G p 0) = 1 := rfl
  have a3 : bI (muO G p 0) = 0 := rfl
  have a4 : nI 0 = 0 := rfl
  have lm := mo_mustLoop DM hp (fun v5 v6 v7 v8 => J_MO_must_167 v5 v6 v7 v8 (N3, L2)) (2 ^ n) 0 1000 (by omega) (by omega)
  rw [a1, a2, a3, a4] at lm
  have lc := cl_urgeLoop DC hp (fun v4 v5 v6 m2 => J_Race_urgeOf_91 v4 v5 v6 m2) (2 ^ n) 0 1000 (by omega) rfl (by omega)
  rw [a1, a3, a4] at lc
  have an := mu_AN (G := G) (p := p) (2 ^ n)
  have t1 : bI true = 1 := rfl
  have t0 : bI false = 0 := rfl
  have key : ∀ (a b o : Bool), (a = true → b = true) → ∃ V : Int32, (if b = true then J_Race_urgeOf_91 (bI a) (bI o) (nI (2 ^ n)) (N2, L2) else some (0, (N2, L2))) = some (V, (N2, L2)) ∧ J_MO_must_167 (bI a) (bI b) (bI o) (nI (2 ^ n)) (N3, L2) = some (V, (N3, L2)) := by
    intro a b o hab
    unfold J_Race_urgeOf_91 J_MO_must_167
    cases a with
    | true =>
      have hb := hab rfl
      subst hb
      refine ⟨2, ?_, ?_⟩
      · simp only [t1, i10, if_true, if_false]
      · simp only [t1, i10, if_false]
    | false =>
      cases b with
      | false => exact ⟨0, by simp only [Bool.false_eq_true, if_false], by simp only [t0, if_true]⟩
      | true =>
        cases o with
        | false => exact ⟨0, by simp only [t0, if_true], by simp only [t0, t1, i10, if_true, if_false]⟩
        | true => exact ⟨1, by simp only [t0, t1, i10, if_true, if_false], by simp only [t0, t1, i10, if_true, if_false]⟩
  obtain ⟨V, k1, k2⟩ := key _ _ (muO G p (2 ^ n)) an
  refine ⟨V, (N2, L2), (N3, L2), ?_, ?_, I3⟩
  · have u : f_Race_urgeOf 54 (nI p) (N2, L2) = some (V, (N2, L2)) := by
      unfold f_Race_urgeOf
      rw [lc]
      exact k1
    unfold f_OT_must
    simp (disch := omega) only [gfd_eq, glet_eq, gbind_eq, nI_ltI, nI_1, gok_nI, grd_nI, nI_clamp, if_true, if_false, Nat.lt_irrefl, ra, s0, hp, sa, cp, r2, u, i10, gokT]
  · unfold f_MO_must
    simp (disch := omega) only [gfd_eq, glet_eq, gbind_eq, nI_ltI, nI_1, gok_nI, grd_nI, nI_clamp, if_true, if_false, Nat.lt_irrefl, rb2, b5, hgp, sb2, r3, i10, gokT]
    rw [lm]
    exact k2
