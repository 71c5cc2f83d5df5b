/-! ===== steady, whole ===== -/
theorem L_MO_steady_64_s (x1 : Int32) (k_64 : Int32 → Int32 → Int32 → Int32 → Int32 → gM → Option (Int32 × gM)) (F : Nat) (v6 : Int32) (v7 : Int32) (v8 : Int32) (v9 : Int32) (v10 : Int32) (m2 : gM) : L_MO_steady_64 x1 k_64 (F + 1) v6 v7 v8 v9 v10 m2 = (if v10 < ((1 : Int32) <<< (x1 &&& 31)) then ((f_MO_isSteady x1 v10 m2).bind fun (r9 : Int32 × gM) => if r9.1 = 0 then (J_MO_steady_130 x1 (L_MO_steady_64 x1 k_64 F) v6 v7 v8 v9 v10 r9.2) else (if v6 = 0 then (J_MO_steady_94 x1 (L_MO_steady_64 x1 k_64 F) v6 v7 v8 v9 v10 v10 r9.2) else (J_MO_steady_94 x1 (L_MO_steady_64 x1 k_64 F) v6 v7 v8 v9 v10 v7 r9.2))) else (k_64 v6 v7 v8 v9 v10 m2)) := rfl
section SW
variable {G : Nat → Nat → Int32} {n : Nat}
theorem stL_stay {k : Nat} (h : stC G n k ≠ 0) : ∀ d, stL G n (k + d) = stL G n k ∧ stC G n (k + d) ≠ 0
  | 0 => ⟨rfl, h⟩
  | d + 1 => by
    obtain ⟨i1, i2⟩ := stL_stay h d
    show (if stB G (k + d) n = true then (if stC G n (k + d) = 0 then some (k + d) else stL G n (k + d)) else stL G n (k + d)) = _ ∧ (if stB G (k + d) n = true then stC G n (k + d) + 1 else stC G n (k + d)) ≠ 0
    rw [if_neg i2]
    by_cases hv : stB G (k + d) n = true
    · rw [if_pos hv, if_pos hv]; exact ⟨i1, by omega⟩
    · rw [if_neg hv, if_neg hv]; exact ⟨i1, i2⟩
theorem stL_none : ∀ {k : Nat}, stC G n k = 0 → stL G n k = none
  | 0, _ => rfl
  | k + 1, h => by
    have h : (if stB G k n = true then stC G n k + 1 else stC G n k) = 0 := h
    show (if stB G k n = true then (if stC G n k = 0 then some k else stL G n k) else stL G n k) = none
    by_cases hv : stB G k n = true
    · rw [if_pos hv] at h; omega
    · rw [if_neg hv] at h ⊢; exact stL_none h
theorem stC_le : ∀ k, stC G n k ≤ k
  | 0 => Nat.le_refl 0
  | k + 1 => by
    have := stC_le k
    show (if stB G k n = true then stC G n k + 1 else stC G n k) ≤ k + 1
    split <;> omega
theorem cl_steadySets {m : gM} (D : gnC G n m) : f_Race_steadySets 54 m = some (nI (stC G n (2 ^ n)), m) := by
  have n4 := D.1
  have h4 := D.2.1
  have h16 := pow16 n4
  have sh := sh_ok n n4
  unfold f_Race_steadySets L_Race_steadySets_4
  refine gloopS0 (fun (g : Int32 → Int32 → gM → Option (Int32 × gM)) j (s : Int32) => g s (nI j) m) (2 ^ n) (fun j => nI (stC G n j)) _ rfl ?_ ?_ 1000 (by omega)
  · intro g j hj
    have e := cl_isSteady D hj
    have hc : stC G n (j + 1) = if stB G j n = true then stC G n j + 1 else stC G n j := rfl
    unfold J_Race_steadySets_25
    by_cases hv : stB G j n = true
    · rw [if_pos hv] at e hc
      rw [hc]
      simp (disch := omega) only [gfd_eq, glet_eq, gbind_eq, nI_ltI, nI_1, gok_nI, grd_nI, nI_clamp, if_true, if_false, Nat.lt_irrefl, h4, sh, hj, e, i10, gokT]
    · rw [if_neg hv] at e hc
      rw [hc]
      simp (disch := omega) only [gfd_eq, glet_eq, gbind_eq, nI_ltI, nI_1, gok_nI, grd_nI, nI_clamp, if_true, if_false, Nat.lt_irrefl, h4, sh, hj, e, i10, gokT]
  · intro g
    simp (disch := omega) only [gfd_eq, glet_eq, gbind_eq, nI_ltI, nI_1, gok_nI, grd_nI, nI_clamp, if_true, if_false, Nat.lt_irrefl, h4, sh, i10, gokT]
theorem cl_least {m : gM} (D : gnC G n m) : ∀ (r k F : Nat), k + r = 2 ^ n → stC G n k = 0 → r < F → L_Race_leastSteady_2 54 F (nI k) m = some (oI (stL G n (2 ^ n)), m) := by
  have n4 := D.1
  have h4 := D.2.1
  have h16 := pow16 n4
  have sh := sh_ok n n4
  intro r
  induction r with
  | zero =>
    intro k F hk h0 hF
    obtain ⟨F, rfl⟩ : ∃ F', F = F' + 1 := ⟨F - 1, by omega⟩
    have e : k = 2 ^ n := by omega
    subst e
    rw [stL_none h0, L_Race_leastSteady_2_s]
    simp (disch := omega) only [gfd_eq, glet_eq, gbind_eq, nI_ltI, nI_1, gok_nI, grd_nI, nI_clamp, if_true, if_false, Nat.lt_irrefl, h4, sh, i10, gokT]
    rfl
  | succ r ih =>
    intro k F hk h0 hF
    obtain ⟨F, rfl⟩ : ∃ F', F = F' + 1 := ⟨F - 1, by omega⟩
    have hs : k < 2 ^ n := by omega
    have e := cl_isSteady D hs
    rw [L_Race_leastSteady_2_s]
    by_cases hv : stB G k n = true
    · rw [if_pos hv] at e
      have hc : stC G n (k + 1) = stC G n k + 1 := if_pos hv
      have hl : stL G n (k + 1) = some k := by
        show (if stB G k n = true then (if stC G n k = 0 then some k else stL G n k) else stL G n k) = some k
        rw [if_pos hv, if_pos h0]
      have st := (stL_stay (G := G) (n := n) (k := k + 1) (by omega) r).1
      rw [show k + 1 + r = 2 ^ n by omega, hl] at st
      rw [st]
      simp (disch := omega) only [gfd_eq, glet_eq, gbind_eq, nI_ltI, nI_1, gok_nI, grd_nI, nI_clamp, if_true, if_false, Nat.lt_irrefl, h4, sh, hs, e, i10, gokT]
      rfl
    · rw [if_neg hv] at e
      have hc : stC G n (k + 1) = stC G n k := if_neg hv
      simp (disch := omega) only [gfd_eq, glet_eq, gbind_eq, nI_ltI, nI_1, gok_nI, grd_nI, nI_clamp, if_true, if_false, Nat.lt_irrefl, h4, sh, hs, e, i10, gokT]
      exact ih (k + 1) F (by omega) (by omega) (by omega)
theorem cl_leastSteady {m : gM} (D : gnC G n m) : f_Race_leastSteady 54 m = some (oI (stL G n (2 ^ n)), m) := by
  have h16 := pow16 D.1
  unfold f_Race_leastSteady
  exact cl_least D (2 ^ n) 0 1000 (by omega) rfl (by omega)
/-- the richer of two -/
def rcS (G : Nat → Nat → Int32) (n : Nat) (o : Option Nat) (k : Nat) : Option Nat := match o with | none => some k | some b => if smS G b n < smS G k n then some k else some b
theorem rcB_s (c : Nat → Bool) (k : Nat) : rcB G n c (k + 1) = if c k = true then rcS G n (rcB G n c k) k else rcB G n c k := rfl
theorem cl_rich27 {m : gM} (D : gnC G n m) {o : Option Nat} {k : Nat} (ho : ∀ b, o = some b → b < k) (hk : k < 2 ^ n) (g : Int32 → Int32 → gM → Option (Int32 × gM)) : J_Race_richest_27 54 g (oI o) (nI k) m = g (oI (rcS G n o k)) (nI (k + 1)) m := by
  have h16 := pow16 D.1
  unfold J_Race_richest_27 J_Race_richest_46 J_Race_richest_48
  cases o with
  | none =>
    rw [if_pos (show oI none = -4 from rfl), nI_1]
    rfl
  | some b =>
    have hb := ho b rfl
    have e1 := cl_rSum D hk
    have e2 := cl_rSum D (show b < 2 ^ n by omega)
    have n4 := nI_ne4 (show b < 2 ^ 31 by omega)
    have ob : oI (some b) = nI b := rfl
    show (if nI b = -4 then _ else _) = g (oI (if smS G b n < smS G k n then some k else some b)) _ m
    by_cases z : smS G b n < smS G k n
    · rw [if_pos z]
      simp (disch := omega) only [gfd_eq, glet_eq, gbind_eq, nI_ltI, nI_1, gok_nI, grd_nI, nI_clamp, if_true, if_false, Nat.lt_irrefl, ob, n4, e1, e2, z, i10, gokT]
      rfl
    · rw [if_neg z]
      simp (disch := omega) only [gfd_eq, glet_eq, gbind_eq, nI_ltI, nI_1, gok_nI, grd_nI, nI_clamp, if_true, if_false, Nat.lt_irrefl, ob, n4, e1, e2, z, i10, gokT]
theorem cl_richest1 {m : gM} (D : gnC G n m) : f_Race_richest 54 1 m = some (oI (rcB G n (fun s => stB G s n) (2 ^ n)), m) := by
  have n4 := D.1
  have h4 := D.2.1
  have h16 := pow16 n4
  have sh := sh_ok n n4
  have n1 : ¬ (1 : Int32) = 0 := by decide
  unfold f_Race_richest L_Race_richest_5
  refine gloopS0 (fun (g : Int32 → Int32 → gM → Option (Int32 × gM)) j (s : Int32) => g s (nI j) m) (2 ^ n) (fun j => oI (rcB G n (fun s => stB G s n) j)) _ rfl ?_ ?_ 1000 (by omega)
  · intro g j hj
    have e := cl_isSteady D hj
    have r := rcB_s (G := G) (n := n) (fun s => stB G s n) j
    have J := cl_rich27 D (o := rcB G n (fun s => stB G s n) j) (fun b hb => rcB_lt _ _ _ _ _ hb) hj g
    by_cases hv : stB G j n = true
    · rw [if_pos hv] at e r
      rw [r]
      simp (disch := omega) only [gfd_eq, glet_eq, gbind_eq, nI_ltI, nI_1, gok_nI, grd_nI, nI_clamp, if_true, if_false, Nat.lt_irrefl, h4, sh, hj, n1, e, i10, gokT]
      exact J
    · rw [if_neg hv] at e r
      rw [r]
      unfold J_Race_richest_48
      simp (disch := omega) only [gfd_eq, glet_eq, gbind_eq, nI_ltI, nI_1, gok_nI, grd_nI, nI_clamp, if_true, if_false, Nat.lt_irrefl, h4, sh, hj, n1, e, i10, gokT]
  · intro g
    simp (disch := omega) only [gfd_eq, glet_eq, gbind_eq, nI_ltI, nI_1, gok_nI, grd_nI, nI_clamp, if_true, if_false, Nat.lt_irrefl, h4, sh, i10, gokT]
theorem cl_richest0 {m : gM} (D : gnC G n m) : f_Race_richest 54 0 m = some (oI (rcB G n (fun _ => true) (2 ^ n)), m) := by
  have n4 := D.1
  have h4 := D.2.1
  have h16 := pow16 n4
  have sh := sh_ok n n4
  unfold f_Race_richest L_Race_richest_5
  refine gloopS0 (fun (g : Int32 → Int32 → gM → Option (Int32 × gM)) j (s : Int32) => g s (nI j) m) (2 ^ n) (fun j => oI (rcB G n (fun _ => true) j)) _ rfl ?_ ?_ 1000 (by omega)
  · intro g j hj
    have r : rcB G n (fun _ => true) (j + 1) = rcS G n (rcB G n (fun _ => true) j) j := rfl
    have J := cl_rich27 D (o := rcB G n (fun _ => true) j) (fun b hb => rcB_lt _ _ _ _ _ hb) hj g
    rw [r]
    simp (disch := omega) only [gfd_eq, glet_eq, gbind_eq, nI_ltI, nI_1, gok_nI, grd_nI, nI_clamp, if_true, if_false, Nat.lt_irrefl, h4, sh, hj, i10, gokT]
    exact J
  · intro g
    simp (disch := omega) only [gfd_eq, glet_eq, gbind_eq, nI_ltI, nI_1, gok_nI, grd_nI, nI_clamp, if_true, if_false, Nat.lt_irrefl, h4, sh, i10, gokT]
/-- the richest of all sets, as the reference finds it -/
def moR (G : Nat → Nat → Int32) (n k : Nat) : Nat := (rcB G n (fun _ => true) k).getD 0
theorem rcB_all {k : Nat} (h : 0 < k) : rcB G n (fun _ => true) k ≠ none := by
  obtain ⟨j, rfl⟩ : ∃ j, k = j + 1 := ⟨k - 1, by omega⟩
  show rcS G n (rcB G n (fun _ => true) j) j ≠ none
  cases e : rcB G n (fun _ => true) j with
  | none => exact fun z => (by cases z)
  | some b =>
    show (if smS G b n < smS G j n then some j else some b) ≠ none
    by_cases z : smS G b n < smS G j n
    · rw [if_pos z]; exact fun z => (by cases z)
    · rw [if_neg z]; exact fun z => (by cases z)
theorem moR_s (k : Nat) : moR G n (k + 1) = if smS G (moR G n k) n < smS G k n then k else moR G n k := by
  show (rcS G n (rcB G n (fun _ => true) k) k).getD 0 = if smS G ((rcB G n (fun _ => true) k).getD 0) n < smS G k n then k else (rcB G n (fun _ => true) k).getD 0
  cases e : rcB G n (fun _ => true) k with
  | none =>
    have k0 : k = 0 := by
      rcases Nat.eq_zero_or_pos k with z | z
      · exact z
      · exact (rcB_all z e).elim
    subst k0
    show 0 = if _ then 0 else 0
    split <;> rfl
  | some b =>
    show (if smS G b n < smS G k n then some k else some b).getD 0 = if smS G b n < smS G k n then k else b
    split <;> rfl
theorem moR_lt {k : Nat} (h : 0 < k) : moR G n k < k := by
  unfold moR
  cases e : rcB G n (fun _ => true) k with
  | none => exact h
  | some b => exact rcB_lt _ _ _ _ _ e
theorem moR_end {k : Nat} (h : 0 < k) : oI (rcB G n (fun _ => true) k) = nI (moR G n k) := by
  unfold moR
  cases e : rcB G n (fun _ => true) k with
  | none => exact (rcB_all h e).elim
  | some b => rfl
theorem mo_st130 {m : gM} (D : gnM G n m) {k : Nat} (hk : k < 2 ^ n) (g : Int32 → Int32 → Int32 → Int32 → Int32 → gM → Option (Int32 × gM)) (a b c : Int32) : J_MO_steady_130 (nI n) g a b c (nI (moR G n k)) (nI k) m = g a b c (nI (moR G n (k + 1))) (nI (k + 1)) m := by
  have h16 := pow16 D.1
  have hl : moR G n k < 2 ^ n := by
    rcases Nat.eq_zero_or_pos k with z | z
    · subst z; exact hk
    · have := moR_lt (G := G) (n := n) z; omega
  have e1 := mo_rSum D hk
  have e2 := mo_rSum D hl
  have s := moR_s (G := G) (n := n) k
  rw [s]
  unfold J_MO_steady_130 J_MO_steady_154
  by_cases z : smS G (moR G n k) n < smS G k n
  · rw [if_pos z]
    simp (disch := omega) only [gfd_eq, glet_eq, gbind_eq, nI_ltI, nI_1, gok_nI, grd_nI, nI_clamp, if_true, if_false, Nat.lt_irrefl, e1, e2, z, i10, gokT]
  · rw [if_neg z]
    simp (disch := omega) only [gfd_eq, glet_eq, gbind_eq, nI_ltI, nI_1, gok_nI, grd_nI, nI_clamp, if_true, if_false, Nat.lt_irrefl, e1, e2, z, i10, gokT]
theorem mo_steadyLoop {m : gM} (D : gnM G n m) (K : Int32 → Int32 → Int32 → Int32 → Int32 → gM → Option (Int32 × gM)) : ∀ (r k F : Nat), k + r = 2 ^ n → r < F → L_MO_steady_64 (nI n) K F (nI (stC G n k)) (oI (stL G n k)) (oI (rcB G n (fun s => stB G s n) k)) (nI (moR G n k)) (nI k) m = K (nI (stC G n (2 ^ n))) (oI (stL G n (2 ^ n))) (oI (rcB G n (fun s => stB G s n) (2 ^ n))) (nI (moR G n (2 ^ n))) (nI (2 ^ n)) m := by
  have n4 := D.1
  have h16 := pow16 n4
  have sh := sh_ok n n4
  intro r
  induction r with
  | zero =>
    intro k F hk hF
    obtain ⟨F, rfl⟩ : ∃ F', F = F' + 1 := ⟨F - 1, by omega⟩
    have e : k = 2 ^ n := by omega
    subst e
    rw [L_MO_steady_64_s]
    simp (disch := omega) only [gfd_eq, glet_eq, gbind_eq, nI_ltI, nI_1, gok_nI, grd_nI, nI_clamp, if_true, if_false, Nat.lt_irrefl, sh, i10, gokT]
  | succ r ih =>
    intro k F hk hF
    obtain ⟨F, rfl⟩ : ∃ F', F = F' + 1 := ⟨F - 1, by omega⟩
    have hs : k < 2 ^ n := by omega
    have e := mo_isSteady D hs
    have hcl := stC_le (G := G) (n := n) k
    have IH := ih (k + 1) F (by omega) (by omega)
    have r0 := rcB_s (G := G) (n := n) (fun s => stB G s n) k
    rw [L_MO_steady_64_s]
    by_cases hv : stB G k n = true
    · rw [if_pos hv] at e r0
      have hc : stC G n (k + 1) = stC G n k + 1 := if_pos hv
      have hl : stL G n (k + 1) = if stC G n k = 0 then some k else stL G n k := if_pos hv
      have eo := eqn0 (k := stC G n k) (by omega)
      have nn := rcB_none G n k
      rw [r0, hc, hl] at IH
      by_cases h0 : stC G n k = 0
      · have rn : rcB G n (fun s => stB G s n) k = none := nn.mpr h0
        rw [if_pos h0, rn, h0] at IH
        rw [rn, h0]
        unfold J_MO_steady_94 J_MO_steady_118 J_MO_steady_125
        have z0 : (nI 0 = 0) = True := eq_true rfl
        simp (disch := omega) only [gfd_eq, glet_eq, gbind_eq, nI_ltI, nI_1, gok_nI, grd_nI, nI_clamp, if_true, if_false, Nat.lt_irrefl, sh, hs, e, z0, mo_st130 D hs, i10, gokT]
        exact IH
      · rw [if_neg h0] at IH
        cases rb : rcB G n (fun s => stB G s n) k with
        | none => exact (h0 (nn.mp rb)).elim
        | some b =>
          have hb := rcB_lt _ _ _ _ _ rb
          have e1 := mo_rSum D hs
          have e2 := mo_rSum D (show b < 2 ^ n by omega)
          have ob : oI (some b) = nI b := rfl
          have IH : L_MO_steady_64 (nI n) K F (nI (stC G n k + 1)) (oI (stL G n k)) (oI (rcS G n (rcB G n (fun s => stB G s n) k) k)) (nI (moR G n (k + 1))) (nI (k + 1)) m = _ := IH
          rw [rb] at IH
          have IH : L_MO_steady_64 (nI n) K F (nI (stC G n k + 1)) (oI (stL G n k)) (oI (if smS G b n < smS G k n then some k else some b)) (nI (moR G n (k + 1))) (nI (k + 1)) m = _ := IH
          unfold J_MO_steady_94 J_MO_steady_118 J_MO_steady_125
          by_cases z : smS G b n < smS G k n
          · rw [if_pos z] at IH
            simp (disch := omega) only [gfd_eq, glet_eq, gbind_eq, nI_ltI, nI_1, gok_nI, grd_nI, nI_clamp, if_true, if_false, Nat.lt_irrefl, sh, hs, e, eo, h0, ob, e1, e2, z, mo_st130 D hs, i10, gokT]
            exact IH
          · rw [if_neg z] at IH
            simp (disch := omega) only [gfd_eq, glet_eq, gbind_eq, nI_ltI, nI_1, gok_nI, grd_nI, nI_clamp, if_true, if_false, Nat.lt_irrefl, sh, hs, e, eo, h0, ob, e1, e2, z, mo_st130 D hs, i10, gokT]
            exact IH
    · rw [if_neg hv] at e r0
      have hc : stC G n (k + 1) = stC G n k := if_neg hv
      have hl : stL G n (k + 1) = stL G n k := if_neg hv
      rw [r0, hc, hl] at IH
      simp (disch := omega) only [gfd_eq, glet_eq, gbind_eq, nI_ltI, nI_1, gok_nI, grd_nI, nI_clamp, if_true, if_false, Nat.lt_irrefl, sh, hs, e, mo_st130 D hs, i10, gokT]
      exact IH
end SW
theorem gswo_4 {R : Type} (x : Int32) (a b c d : Option R) : gswo x [(0, a), (1, b), (2, c)] d = if x = 0 then a else if x = 1 then b else if x = 2 then c else d := rfl
theorem k00 : nI 0 = (0 : Int32) := rfl
theorem k10 : ¬ nI 1 = (0 : Int32) := by decide
theorem k11 : nI 1 = (1 : Int32) := rfl
theorem k20 : ¬ nI 2 = (0 : Int32) := by decide
theorem k21 : ¬ nI 2 = (1 : Int32) := by decide
theorem k22 : nI 2 = (2 : Int32) := rfl
theorem k30 : ¬ nI 3 = (0 : Int32) := by decide
theorem k31 : ¬ nI 3 = (1 : Int32) := by decide
theorem k32 : ¬ nI 3 = (2 : Int32) := by decide
theorem p_steady {n0 K : Nat} {m : gM} (hn0 : n0 < 512) (x1 x2 x3 x4 x5 : Int32) (I : Inv n0 K m.1) : gBoth n0 K (f_OT_steady x1 x2 x3 x4 x5) (f_MO_steady x1 x2 x3 x4 x5) m := by
  rcases race_pre hn0 x1 x2 x3 x4 I with ⟨ra, rb⟩ | ⟨n, v, c, H, rfl, rfl, rfl, rfl, ⟨n1, n4, v1, c1, h1, h2⟩, ra, rb, hsp⟩
  · refine gBoth.same (-1) I ?_ ?_
    · unfold f_OT_steady
      simp (disch := omega) only [gfd_eq, glet_eq, gbind_eq, nI_ltI, nI_1, gok_nI, grd_nI, nI_clamp, if_true, if_false, Nat.lt_irrefl, ra, i10, gokT]
    · unfold f_MO_steady
      simp (disch := omega) only [gfd_eq, glet_eq, gbind_eq, nI_ltI, nI_1, gok_nI, grd_nI, nI_clamp, if_true, if_false, Nat.lt_irrefl, rb, i10, gokT]
  have hp := pow16 n4
  have rb0 := rb m rfl
  have b5 : ∀ (x : Int32) (m : gM), f_MO_in x.toInt64 (Int32.toInt64 0) (Int32.toInt64 3) m = _ := fun x m => mo_in_n (x := x) (n := 3) (by omega) m
  rcases gib_cases x5 4 with hg | ⟨j, hj, rfl, hj2⟩
  · refine gBoth.same (-1) I ?_ ?_
    · unfold f_OT_steady
      simp (disch := omega) only [gfd_eq, glet_eq, gbind_eq, nI_ltI, nI_1, gok_nI, grd_nI, nI_clamp, if_true, if_false, Nat.lt_irrefl, ra, i10, gokT]
      rcases gib_no (by omega) hg with z | ⟨z, z2⟩
      · rw [if_pos z]
      · obtain ⟨j, hj, rfl⟩ := nI_of z
        have h4 : 4 ≤ j := by
          rcases Nat.lt_or_ge j 4 with y | y
          · exact (z2 (nI_lt y (by decide))).elim
          · exact y
        rw [if_neg z, if_pos (show (3 : Int32) < nI j from nI_lt (a := 3) (by omega) hj)]
    · unfold f_MO_steady
      simp (disch := omega) only [gfd_eq, glet_eq, gbind_eq, nI_ltI, nI_1, gok_nI, grd_nI, nI_clamp, if_true, if_false, Nat.lt_irrefl, rb0, b5, hg, Bool.false_eq_true, i10, gokT]
  have hgj := gib_iff.mpr ⟨j, hj, rfl, hj2⟩
  have s0 := nI_nneg (k := j) (by omega)
  have s3 : ¬ (3 : Int32) < nI j := nI_nlt (a := 3) (b := j) (by omega) (by decide)
  rcases hsp with ⟨sa, sb⟩ | ⟨sa, w, h, hr, we, sd, gs, wt, ol, wp, wc, ww, wo, sp, W, sb⟩
  · refine gBoth.same (-2) I ?_ ?_
    · unfold f_OT_steady
      simp (disch := omega) only [gfd_eq, glet_eq, gbind_eq, nI_ltI, nI_1, gok_nI, grd_nI, nI_clamp, if_true, if_false, Nat.lt_irrefl, ra, s0, s3, sa, i10, gokT]
    · unfold f_MO_steady
      simp (disch := omega) only [gfd_eq, glet_eq, gbind_eq, nI_ltI, nI_1, gok_nI, grd_nI, nI_clamp, if_true, if_false, Nat.lt_irrefl, rb0, b5, hgj, sb, i10, gokT]
  obtain ⟨N2, L2, N3, r2, h54, D2, e8, W2, r3, D3, I3⟩ := race_all (c := c) I h2 v1 n4 W
  have rb2 := rb (N2, L2) e8
  have sb2 := sb (N2, L2) W2
  have cp := cl_prepare n v c H m
  have DC : gnC (rGn w h sd gs we wp wc ww wo n sp v H c ol wt) n (N2, L2) := ⟨n4, h54, D2⟩
  have DM : gnM (rGn w h sd gs we wp wc ww wo n sp v H c ol wt) n (N3, L2) := ⟨n4, D3⟩
  generalize rGn w h sd gs we wp wc ww wo n sp v H c ol wt = G at DC DM
  have l := mo_steadyLoop DM (fun v6 v7 v8 v9 v10 m2 => J_MO_steady_162 (nI j) v6 v7 v8 v9 v10 m2) (2 ^ n) 0 1000 (by omega) (by omega)
  rw [show nI (stC G n 0) = 0 from rfl, show oI (stL G n 0) = -4 from rfl, show oI (rcB G n (fun s => stB G s n) 0) = -4 from rfl, show nI (moR G n 0) = 0 from rfl, show nI 0 = 0 from rfl] at l
  have d0 := cl_steadySets DC
  have d1 := cl_leastSteady DC
  have d2 := cl_richest1 DC
  have d3 := cl_richest0 DC
  rw [moR_end (by omega)] at d3
  have ot : ∀ (V : Int32), (gswo (nI j) [(0, (f_Race_steadySets 54 (N2, L2)).bind fun (r5 : Int32 × gM) => some (r5.1, r5.2)), (1, (f_Race_leastSteady 54 (N2, L2)).bind fun (r6 : Int32 × gM) => some (r6.1, r6.2)), (2, (f_Race_richest 54 1 (N2, L2)).bind fun (r7 : Int32 × gM) => some (r7.1, r7.2))] ((f_Race_richest 54 0 (N2, L2)).bind fun (r8 : Int32 × gM) => some (r8.1, r8.2))) = some (V, (N2, L2)) → f_OT_steady (nI n) (nI v) (nI c) (nI H) (nI j) m = some (V, (N2, L2)) := by
    intro V hV
    unfold f_OT_steady
    simp (disch := omega) only [gfd_eq, glet_eq, gbind_eq, nI_ltI, nI_1, gok_nI, grd_nI, nI_clamp, if_true, if_false, Nat.lt_irrefl, ra, s0, s3, sa, cp, r2, i10, gokT]
    exact hV
  have mt : ∀ (V : Int32), J_MO_steady_162 (nI j) (nI (stC G n (2 ^ n))) (oI (stL G n (2 ^ n))) (oI (rcB G n (fun s => stB G s n) (2 ^ n))) (nI (moR G n (2 ^ n))) (nI (2 ^ n)) (N3, L2) = some (V, (N3, L2)) → f_MO_steady (nI n) (nI v) (nI c) (nI H) (nI j) (N2, L2) = some (V, (N3, L2)) := by
    intro V hV
    unfold f_MO_steady
    simp (disch := omega) only [gfd_eq, glet_eq, gbind_eq, nI_ltI, nI_1, gok_nI, grd_nI, nI_clamp, if_true, if_false, Nat.lt_irrefl, rb2, b5, hgj, sb2, r3, i10, gokT]
    rw [l]
    exact hV
  clear l hgj s0 s3 hj2 r2 r3
  unfold J_MO_steady_162 at mt
  rcases (show j = 0 ∨ j = 1 ∨ j = 2 ∨ j = 3 by omega) with e | e | e | e
  · subst e
    refine ⟨nI (stC G n (2 ^ n)), (N2, L2), (N3, L2), ot _ ?_, mt _ ?_, I3⟩
    · rw [gswo_4, if_pos k00, d0, gbind_eq]
    · rw [if_pos k00]
  · subst e
    refine ⟨oI (stL G n (2 ^ n)), (N2, L2), (N3, L2), ot _ ?_, mt _ ?_, I3⟩
    · rw [gswo_4, if_neg k10, if_pos k11, d1, gbind_eq]
    · rw [if_neg k10, if_pos k11]
  · subst e
    refine ⟨oI (rcB G n (fun s => stB G s n) (2 ^ n)), (N2, L2), (N3, L2), ot _ ?_, mt _ ?_, I3⟩
    · rw [gswo_4, if_neg k20, if_neg k21, if_pos k22, d2, gbind_eq]
    · rw [if_neg k20, if_neg k21, if_pos k22]
  · subst e
    refine ⟨nI (moR G n (2 ^ n)), (N2, L2), (N3, L2), ot _ ?_, mt _ ?_, I3⟩
    · rw [gswo_4, if_neg k30, if_neg k31, if_neg k32, d3, gbind_eq]
    · rw [if_neg k30, if_neg k31, if_neg k32]
