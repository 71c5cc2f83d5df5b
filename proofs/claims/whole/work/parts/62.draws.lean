/-! ===== the draws: the reference's side; what stays alike ===== -/
/-- a row with nine sums more -/
def adR (old : Nat → Int32) (k : Nat) (t : Nat → Nat) (j : Nat) : Nat → Int32 := fun q => if 9 * k ≤ q ∧ q < 9 * k + j then old q + nI (t (q - 9 * k)) else old q
theorem adR_0 (old : Nat → Int32) (k : Nat) (t : Nat → Nat) : adR old k t 0 = old := by
  funext q
  exact if_neg (by omega)
theorem adR_s (N : gN) (a k : Nat) (old : Nat → Int32) (t : Nat → Nat) (j : Nat) : gup (grw N a (adR old k t j)) a (9 * k + j) (old (9 * k + j) + nI (t j)) = grw N a (adR old k t (j + 1)) := by
  rw [gup_grw, grw_grw, grw_eq]
  congr 1
  funext q
  unfold adR
  by_cases h : q = 9 * k + j
  · rw [if_pos h, if_pos (by omega), h, show 9 * k + j - 9 * k = j by omega]
  · rw [if_neg h]
    by_cases h2 : 9 * k ≤ q ∧ q < 9 * k + j
    · rw [if_pos h2, if_pos (by omega)]
    · rw [if_neg h2, if_neg (by omega)]
theorem adR_at (old : Nat → Int32) (k : Nat) (t : Nat → Nat) (j : Nat) : adR old k t j (9 * k + j) = old (9 * k + j) := if_neg (by omega)
theorem L4d_s (F : Nat) (v1 v2 : Int32) (m1 : gM) : L_MO_draws_4 (F + 1) v1 v2 m1 = (if v2 < (gfd m1 81 15) then (gok (gib v2 14) (glet (grd m1 93 v2) fun (v20 : Int32) => (f_MO_oilOf v20 m1).bind fun (r4 : Int32 × gM) => gok (gib v20 36) (glet (r4.1 + (grd r4.2 84 v20)) fun (v21 : Int32) => gok (gib v2 14) (if (grd r4.2 94 v2) < v21 then (gok (gib v2 14) (J_MO_draws_55 (L_MO_draws_4 F) v1 v2 v20 v21 (grd r4.2 94 v2) r4.2)) else (J_MO_draws_55 (L_MO_draws_4 F) v1 v2 v20 v21 v21 r4.2))))) else (some (v1, m1))) := rfl
def drM (N : gN) (f : Nat → Nat) (k c p i d o wt : Nat) : gN := gup (gup (grw (gup (gup (gup (grw (grw N 105 (tkR (N 105) f c o 9)) 86 (fun q => nI (tkO f c o q))) 84 c (nI (wt - (d - o)))) 97 k (N 97 k + nI (d - o))) 96 k (N 96 k + nI o)) 98 (adR (N 98) k (tk f c o) 9)) 99 i (N 99 i + nI o)) 100 p (N 100 p + nI o)
theorem mo_drawStep {f : Nat → Nat} {k we c p v wt hr ok F : Nat} {s : Int32} {N : gN} {L : Nat → Nat → Int64} (h15 : N 81 15 = nI we) (hk : k < we) (hwe : we ≤ 14) (hc : c < 36) (hp : p < 6) (hv : v ≤ 60) (h93 : N 93 k = nI c) (h94 : N 94 k = nI v) (h95 : N 95 k = nI ok) (hok : ok ≤ 1) (h92 : N 92 k = nI p) (h86 : N 86 = fun i => nI (f i)) (h84 : N 84 c = nI wt) (hb : osum f c + wt < 2 ^ 20) (h2 : N 81 2 = nI hr) (hhr : hr ≤ 230) :
    L_MO_draws_4 (F + 1) s (nI k) (N, L) = if ok = 1 ∧ 0 < dwD v (osum f c) wt then L_MO_draws_4 F (s + nI (dwO v (osum f c) wt)) (nI (k + 1)) (drM N f k c p (60 * k + hr / 4) (dwD v (osum f c) wt) (dwO v (osum f c) wt) wt, L) else L_MO_draws_4 F s (nI (k + 1)) (N, L) := by
  obtain ⟨w1, w2, w3, w4, w5⟩ := dw_le v (osum f c) wt
  have o1 := mo_oilOf (m := (N, L)) hc h86
  have eb : osum f c + wt = osum f c + wt := rfl
  have eok : (nI ok = 1) ↔ ok = 1 := eqn1 (by omega)
  have e0 : (0 < nI (dwD v (osum f c) wt)) ↔ 0 < dwD v (osum f c) wt := lt0_nI (by omega)
  have J : J_MO_draws_55 (L_MO_draws_4 F) s (nI k) (nI c) (nI (osum f c + wt)) (nI (dwD v (osum f c) wt)) (N, L) = if ok = 1 ∧ 0 < dwD v (osum f c) wt then L_MO_draws_4 F (s + nI (dwO v (osum f c) wt)) (nI (k + 1)) (drM N f k c p (60 * k + hr / 4) (dwD v (osum f c) wt) (dwO v (osum f c) wt) wt, L) else L_MO_draws_4 F s (nI (k + 1)) (N, L) := by
    unfold J_MO_draws_55
    by_cases c1 : ok = 1
    · by_cases c2 : 0 < dwD v (osum f c) wt
      · have h0 : 0 < osum f c + wt := by omega
        have hdo : dwD v (osum f c) wt * osum f c < 2 ^ 31 := by
          have : dwD v (osum f c) wt * osum f c ≤ 60 * 2 ^ 20 := Nat.mul_le_mul (by omega) (by omega)
          omega
        have edo : nI (dwD v (osum f c) wt * osum f c) / nI (osum f c + wt) = nI (dwO v (osum f c) wt) := pk_div hdo h0 (by omega)
        have hoo : dwO v (osum f c) wt * osum f c < 2 ^ 31 := by
          have : dwO v (osum f c) wt * osum f c ≤ 60 * 2 ^ 20 := Nat.mul_le_mul (by omega) (by omega)
          omega
        have t := mo_take (m := (N, L)) (n := dwO v (osum f c) wt) hc h86 w1 hoo (by omega)
        generalize hd : dwD v (osum f c) wt = d at *
        generalize ho : dwO v (osum f c) wt = o at *
        let N1 : gN := grw (grw N 105 (tkR (N 105) f c o 9)) 86 (fun q => nI (tkO f c o q))
        have t : f_MO_take (nI c) (nI o) (N, L) = some (N1, L) := t
        have r1 : ∀ a q, a ≠ 105 → a ≠ 86 → N1 a q = N a q := by
          intro a q z1 z2
          show grw (grw N 105 _) 86 _ a q = _
          rw [grw_ne z2, grw_ne z1]
        have e84 : N1 84 c = nI wt := (r1 84 c (by decide) (by decide)).trans h84
        have e97 : gup N1 84 c (nI (wt - (d - o))) 97 k = N 97 k := (gup_row (by decide)).trans (r1 97 k (by decide) (by decide))
        have e96 : gup (gup N1 84 c (nI (wt - (d - o)))) 97 k (N 97 k + nI (d - o)) 96 k = N 96 k := (gup_row (by decide)).trans ((gup_row (by decide)).trans (r1 96 k (by decide) (by decide)))
        let N2 : gN := gup (gup (gup N1 84 c (nI (wt - (d - o)))) 97 k (N 97 k + nI (d - o))) 96 k (N 96 k + nI o)
        have r2 : ∀ a q, a ≠ 105 → a ≠ 86 → a ≠ 84 → a ≠ 97 → a ≠ 96 → N2 a q = N a q := by
          intro a q z1 z2 z3 z4 z5
          show gup (gup (gup N1 84 c _) 97 k _) 96 k _ a q = _
          rw [gup_row z5, gup_row z4, gup_row z3, r1 a q z1 z2]
        have e105 : ∀ l, l < 9 → N2 105 l = nI (tk f c o l) := by
          intro l hl
          show gup (gup (gup (grw (grw N 105 _) 86 _) 84 c _) 97 k _) 96 k _ 105 l = _
          rw [gup_row (by decide), gup_row (by decide), gup_row (by decide), grw_ne (by decide), grw_eq]
          unfold tkR
          rw [if_pos hl]
        have e98 : N2 98 = N 98 := funext fun q => r2 98 q (by decide) (by decide) (by decide) (by decide) (by decide)
        have LL : ∀ K, L_MO_draws_134 (nI k) K 1000 0 (N2, L) = K (nI 9) (grw N2 98 (adR (N 98) k (tk f c o) 9), L) := by
          intro K
          unfold L_MO_draws_134
          refine gloopS0 (fun (g : Int32 → gM → Option (Int32 × gM)) j (s : gM) => g (nI j) s) 9 (fun j => (grw N2 98 (adR (N 98) k (tk f c o) j), L)) _ ?_ ?_ ?_ 1000 (by omega)
          · show (grw N2 98 (adR (N 98) k (tk f c o) 0), L) = _
            rw [adR_0, ← e98, grw_id]
          · intro g j hj
            have a1 : grw N2 98 (adR (N 98) k (tk f c o) j) 98 (9 * k + j) = N 98 (9 * k + j) := by rw [grw_eq, adR_at]
            have a2 : grw N2 98 (adR (N 98) k (tk f c o) j) 105 j = nI (tk f c o j) := by rw [grw_ne (by decide)]; exact e105 j hj
            simp (disch := omega) only [gfd_eq, glet_eq, gbind_eq, nI_ltI, nI_1, gok_nI, grd_nI, nI_clamp, if_true, if_false, Nat.lt_irrefl, hj, q9, pk_mul, nI_add, a1, a2, gst_nI, adR_s, i10, gokT]
          · intro g
            simp (disch := omega) only [gfd_eq, glet_eq, gbind_eq, nI_ltI, nI_1, gok_nI, grd_nI, nI_clamp, if_true, if_false, Nat.lt_irrefl, q9, i10, gokT]
        have r3 : ∀ a q, a ≠ 98 → grw N2 98 (adR (N 98) k (tk f c o) 9) a q = N2 a q := fun a q z => by rw [grw_ne z]
        have s2 := mo_shift (m := (grw N2 98 (adR (N 98) k (tk f c o) 9), L)) (hr := hr) ((r3 81 2 (by decide)).trans ((r2 81 2 (by decide) (by decide) (by decide) (by decide) (by decide)).trans h2)) (by omega)
        have e99 : grw N2 98 (adR (N 98) k (tk f c o) 9) 99 (60 * k + hr / 4) = N 99 (60 * k + hr / 4) := (r3 99 _ (by decide)).trans (r2 99 _ (by decide) (by decide) (by decide) (by decide) (by decide))
        have e92 : gup (grw N2 98 (adR (N 98) k (tk f c o) 9)) 99 (60 * k + hr / 4) (N 99 (60 * k + hr / 4) + nI o) 92 k = nI p := (gup_row (by decide)).trans ((r3 92 _ (by decide)).trans ((r2 92 _ (by decide) (by decide) (by decide) (by decide) (by decide)).trans h92))
        have e100 : gup (grw N2 98 (adR (N 98) k (tk f c o) 9)) 99 (60 * k + hr / 4) (N 99 (60 * k + hr / 4) + nI o) 100 p = N 100 p := (gup_row (by decide)).trans ((r3 100 _ (by decide)).trans (r2 100 _ (by decide) (by decide) (by decide) (by decide) (by decide)))
        have LL' : ∀ K, L_MO_draws_134 (nI k) K 1000 0 (gup (gup (gup N1 84 c (nI (wt - (d - o)))) 97 k (N 97 k + nI (d - o))) 96 k (N 96 k + nI o), L) = K (nI 9) (grw N2 98 (adR (N 98) k (tk f c o) 9), L) := LL
        have hdr : gup (gup (grw N2 98 (adR (N 98) k (tk f c o) 9)) 99 (60 * k + hr / 4) (N 99 (60 * k + hr / 4) + nI o)) 100 p (N 100 p + nI o) = drM N f k c p (60 * k + hr / 4) d o wt := rfl
        clear_value N2 N1
        unfold J_MO_draws_169 J_MO_draws_209
        simp (disch := omega) only [gfd_eq, glet_eq, gbind_eq, nI_ltI, nI_1, gok_nI, grd_nI, nI_clamp, if_true, if_false, Nat.lt_irrefl, h95, eok, c1, e0, c2, o1, gnz_ok, pk_mul, edo, t, e84, pk_sub, gst_nI, e97, e96, LL', s2, q60, nI_add, e99, e92, e100, hdr, and_self, show (nI 1 = 1) = True from eq_true rfl, i10, gokT]
      · unfold J_MO_draws_209
        simp (disch := omega) only [gfd_eq, glet_eq, gbind_eq, nI_ltI, nI_1, gok_nI, grd_nI, nI_clamp, if_true, if_false, Nat.lt_irrefl, h95, eok, c1, e0, c2, and_false, show (nI 1 = 1) = True from eq_true rfl, i10, gokT]
    · unfold J_MO_draws_209
      simp (disch := omega) only [gfd_eq, glet_eq, gbind_eq, nI_ltI, nI_1, gok_nI, grd_nI, nI_clamp, if_true, if_false, Nat.lt_irrefl, h95, eok, c1, false_and, i10, gokT]
  rw [L4d_s]
  have elt : (nI v < nI (osum f c + wt)) ↔ v < osum f c + wt := nI_ltI (by omega) (by omega)
  by_cases hlt : v < osum f c + wt
  · have e : dwD v (osum f c) wt = v := Nat.min_eq_left (by omega)
    have J' := J
    rw [e] at J'
    simp (disch := omega) only [gfd_eq, glet_eq, gbind_eq, nI_ltI, nI_1, gok_nI, grd_nI, nI_clamp, if_true, if_false, Nat.lt_irrefl, h15, hk, h93, o1, h84, nI_add, h94, elt, hlt, i10, gokT]
    rw [e]
    exact J'
  · have e : dwD v (osum f c) wt = osum f c + wt := Nat.min_eq_right (by omega)
    have J' := J
    rw [e] at J'
    simp (disch := omega) only [gfd_eq, glet_eq, gbind_eq, nI_ltI, nI_1, gok_nI, grd_nI, nI_clamp, if_true, if_false, Nat.lt_irrefl, h15, hk, h93, o1, h84, nI_add, h94, elt, hlt, i10, gokT]
    rw [e]
    exact J'
