/-! ===== all flows, the reference's side ===== -/
theorem L2f_s (K : Int32 → gM → Option gM) (F : Nat) (v8 : Int32) (m9 : gM) : L_MO_flows_2 K (F + 1) v8 m9 = ((f_MO_cells m9).bind fun (r4 : Int32 × gM) => if v8 < r4.1 then ((f_MO_pushOf v8 r4.2).bind fun (r5 : Int32 × gM) => gok (gib v8 36) (glet (gst r5.2 106 v8 r5.1) fun (m11 : gM) => (f_MO_oilOf v8 m11).bind fun (r6 : Int32 × gM) => gok (gib v8 36) (glet (gst r6.2 107 v8 r6.1) fun (m12 : gM) => gok (gib v8 36) (gok (gib v8 36) (glet (gst m12 108 v8 (grd m12 84 v8)) fun (m13 : gM) => gok (gib v8 36) (glet (gst m13 110 v8 0) fun (m14 : gM) => L_MO_flows_53 v8 (fun v11 m15 => J_MO_flows_77 (L_MO_flows_2 K F) v8 v11 m15) 1000 0 m14)))))) else (K v8 r4.2)) := rfl
theorem L85f_s (K : Int32 → gM → Option gM) (F : Nat) (v7 : Int32) (m8 : gM) : L_MO_flows_85 K (F + 1) v7 m8 = ((f_MO_cells m8).bind fun (r2 : Int32 × gM) => if v7 < r2.1 then ((f_MO_flowOf v7 r2.2).bind fun (r3 : gM) => L_MO_flows_85 K F (v7 + 1) r3) else (K v7 r2.2)) := rfl
section FM
variable {w h : Nat} {sd gs wt ol : Nat → Nat} {L : Nat → Nat → Int64}
/-- the first loop: what is noted ahead of the flows -/
theorem mo_flows1 {N0 : gN} (K : Int32 → gM → Option gM) (hn : w * h ≤ 36) (x0 : N0 81 0 = nI w) (x1 : N0 81 1 = nI h) (h86 : N0 86 = fun i => nI (ol i)) (h84 : N0 84 = fun c => nI (wt c)) (h83 : N0 83 = fun c => nI (gs c)) :
    ∀ (r c : Nat) (N : gN), c + r = w * h → (∀ q, q < c → N 106 q = nI (osum ol q + wt q + gs q) ∧ N 107 q = nI (osum ol q) ∧ N 108 q = nI (wt q) ∧ N 110 q = 0) → (∀ q, q < 9 * c → N 109 q = 0) → (∀ q, q < 106 ∨ 111 ≤ q → N q = N0 q) →
      ∃ N' : gN, (∀ q, q < w * h → N' 106 q = nI (osum ol q + wt q + gs q) ∧ N' 107 q = nI (osum ol q) ∧ N' 108 q = nI (wt q) ∧ N' 110 q = 0) ∧ (∀ q, q < 9 * (w * h) → N' 109 q = 0) ∧ (∀ q, q < 106 ∨ 111 ≤ q → N' q = N0 q) ∧ ∀ F, r < F → L_MO_flows_2 K F (nI c) (N, L) = K (nI (w * h)) (N', L) := by
  intro r
  induction r with
  | zero =>
    intro c N hc a1 a2 a3
    have e : c = w * h := by omega
    subst e
    refine ⟨N, a1, a2, a3, fun F hF => ?_⟩
    obtain ⟨F, rfl⟩ : ∃ F', F = F' + 1 := ⟨F - 1, by omega⟩
    have ce := mo_cells (m := (N, L)) (w := w) (h9 := h) (by dsimp only; rw [a3 81 (by omega)]; exact x0) (by dsimp only; rw [a3 81 (by omega)]; exact x1) rfl
    rw [L2f_s]
    simp (disch := omega) only [gfd_eq, glet_eq, gbind_eq, nI_ltI, nI_1, gok_nI, grd_nI, nI_clamp, if_true, if_false, Nat.lt_irrefl, ce, i10, gokT]
  | succ r ih =>
    intro c N hc a1 a2 a3
    have hcn : c < w * h := by omega
    have ce := mo_cells (m := (N, L)) (w := w) (h9 := h) (by dsimp only; rw [a3 81 (by omega)]; exact x0) (by dsimp only; rw [a3 81 (by omega)]; exact x1) rfl
    have n86 : N 86 = fun i => nI (ol i) := (a3 86 (by omega)).trans h86
    have n84 : N 84 c = nI (wt c) := by rw [a3 84 (by omega), h84]
    have n83 : N 83 c = nI (gs c) := by rw [a3 83 (by omega), h83]
    have pu := mo_pushOf (m := (N, L)) (c := c) (by omega) n86
    have pu : f_MO_pushOf (nI c) (N, L) = some (nI (osum ol c + wt c + gs c), (N, L)) := by
      rw [pu]
      show some (nI (osum ol c) + N 84 c + N 83 c, _) = _
      rw [n84, n83, nI_add, nI_add]
    have oo := mo_oilOf (m := (gup N 106 c (nI (osum ol c + wt c + gs c)), L)) (c := c) (ol := ol) (by omega) (by dsimp only; rw [gup_ne (by decide)]; exact n86)
    have e84 : gup (gup N 106 c (nI (osum ol c + wt c + gs c))) 107 c (nI (osum ol c)) 84 c = nI (wt c) := by rw [gup_row (by decide), gup_row (by decide)]; exact n84
    let N1 : gN := gup (gup (gup (gup N 106 c (nI (osum ol c + wt c + gs c))) 107 c (nI (osum ol c))) 108 c (nI (wt c))) 110 c 0
    have LL : ∀ K', L_MO_flows_53 (nI c) K' 1000 0 (N1, L) = K' (nI 9) (grw N1 109 (gst_ (N1 109) (9 * c) 9 0), L) := by
      intro K'
      unfold L_MO_flows_53
      refine gloopS0 (fun (g : Int32 → gM → Option gM) j (s : gM) => g (nI j) s) 9 (fun j => (grw N1 109 (gst_ (N1 109) (9 * c) j 0), L)) _ ?_ ?_ ?_ 1000 (by omega)
      · show (grw N1 109 (gst_ (N1 109) (9 * c) 0 0), L) = _
        rw [gst_0, grw_id]
      · intro g j hj
        simp (disch := omega) only [gfd_eq, glet_eq, gbind_eq, nI_ltI, nI_1, gok_nI, grd_nI, nI_clamp, if_true, if_false, Nat.lt_irrefl, hj, q9, pk_mul, nI_add, gst_nI, gup_fill, i10, gokT]
      · intro g
        simp (disch := omega) only [gfd_eq, glet_eq, gbind_eq, nI_ltI, nI_1, gok_nI, grd_nI, nI_clamp, if_true, if_false, Nat.lt_irrefl, q9, i10, gokT]
    have n1 : ∀ q, q < 106 ∨ q = 109 ∨ 111 ≤ q → N1 q = N q := fun q hq => by
      show gup (gup (gup (gup N 106 c _) 107 c _) 108 c _) 110 c _ q = _
      rw [gup_ne (by omega), gup_ne (by omega), gup_ne (by omega), gup_ne (by omega)]
    have n6 : ∀ q, q < c + 1 → N1 106 q = nI (osum ol q + wt q + gs q) ∧ N1 107 q = nI (osum ol q) ∧ N1 108 q = nI (wt q) ∧ N1 110 q = 0 := fun q hq => by
      show gup (gup (gup (gup N 106 c _) 107 c _) 108 c _) 110 c _ 106 q = _ ∧ gup (gup (gup (gup N 106 c _) 107 c _) 108 c _) 110 c _ 107 q = _ ∧ gup (gup (gup (gup N 106 c _) 107 c _) 108 c _) 110 c _ 108 q = _ ∧ gup (gup (gup (gup N 106 c _) 107 c _) 108 c _) 110 c _ 110 q = _
      by_cases z : q = c
      · subst z
        refine ⟨?_, ?_, ?_, gup_at _ _ _ _⟩
        · rw [gup_row (by decide), gup_row (by decide), gup_row (by decide), gup_at]
        · rw [gup_row (by decide), gup_row (by decide), gup_at]
        · rw [gup_row (by decide), gup_at]
      · obtain ⟨q1, q2, q3, q4'⟩ := a1 q (by omega)
        refine ⟨?_, ?_, ?_, ?_⟩
        · rw [gup_row (by decide), gup_row (by decide), gup_row (by decide), gup_col z]; exact q1
        · rw [gup_row (by decide), gup_row (by decide), gup_col z, gup_row (by decide)]; exact q2
        · rw [gup_row (by decide), gup_col z, gup_row (by decide), gup_row (by decide)]; exact q3
        · rw [gup_col z, gup_row (by decide), gup_row (by decide), gup_row (by decide)]; exact q4'
    have N1e : gup (gup (gup (gup N 106 c (nI (osum ol c + wt c + gs c))) 107 c (nI (osum ol c))) 108 c (nI (wt c))) 110 c 0 = N1 := rfl
    clear_value N1
    obtain ⟨N', i1, i2, i3, i4⟩ := ih (c + 1) (grw N1 109 (gst_ (N1 109) (9 * c) 9 0)) (by omega) (fun q hq => by
      rw [grw_ne (by decide), grw_ne (by decide), grw_ne (by decide), grw_ne (by decide)]
      exact n6 q hq) (fun q hq => by
        rw [grw_eq, n1 109 (by omega)]
        unfold gst_
        by_cases z : 9 * c ≤ q ∧ q < 9 * c + 9
        · rw [if_pos z]
        · rw [if_neg z]; exact a2 q (by omega)) (fun q hq => by rw [grw_ne (by omega), n1 q (by omega)]; exact a3 q hq)
    refine ⟨N', i1, i2, i3, fun F hF => ?_⟩
    obtain ⟨F, rfl⟩ : ∃ F', F = F' + 1 := ⟨F - 1, by omega⟩
    have i4 := i4 F (by omega)
    rw [L2f_s]
    unfold J_MO_flows_77
    simp (disch := omega) only [gfd_eq, glet_eq, gbind_eq, nI_ltI, nI_1, gok_nI, grd_nI, nI_clamp, if_true, if_false, Nat.lt_irrefl, ce, hcn, pu, gst_nI, oo, e84, N1e, LL, i10, gokT]
    exact i4
theorem mo_flows2 {S : gN} (K : Int32 → gM → Option gM) (B : RBase w h sd gs wt ol S) (O : PoolOk w h sd gs wt (osum ol)) : ∀ (r c : Nat) (N : gN), c + r = w * h → RSt w h sd gs wt ol S N (4 * c) → ∃ N' : gN, RSt w h sd gs wt ol S N' (4 * (w * h)) ∧ ∀ F, r < F → L_MO_flows_85 K F (nI c) (N, L) = K (nI (w * h)) (N', L) := by
  have h36 := O.n36
  intro r
  induction r with
  | zero =>
    intro c N hc R
    have e : c = w * h := by omega
    have ce := mo_cells (m := (N, L)) (w := w) (h9 := h) (by dsimp only; rw [R.2.2.2.2 81 (by decide) (by decide) (by decide) (by decide) (by decide) (by decide)]; exact B.1) (by dsimp only; rw [R.2.2.2.2 81 (by decide) (by decide) (by decide) (by decide) (by decide) (by decide)]; exact B.2.1) rfl
    subst e
    refine ⟨N, R, fun F hF => ?_⟩
    obtain ⟨F, rfl⟩ : ∃ F', F = F' + 1 := ⟨F - 1, by omega⟩
    rw [L85f_s]
    simp (disch := omega) only [gfd_eq, glet_eq, gbind_eq, nI_ltI, nI_1, gok_nI, grd_nI, nI_clamp, if_true, if_false, Nat.lt_irrefl, ce, i10, gokT]
  | succ r ih =>
    intro c N hc R
    have hcn : c < w * h := by omega
    have ce := mo_cells (m := (N, L)) (w := w) (h9 := h) (by dsimp only; rw [R.2.2.2.2 81 (by decide) (by decide) (by decide) (by decide) (by decide) (by decide)]; exact B.1) (by dsimp only; rw [R.2.2.2.2 81 (by decide) (by decide) (by decide) (by decide) (by decide) (by decide)]; exact B.2.1) rfl
    obtain ⟨N1, R1, f1⟩ := mo_flowOf (L := L) B O hcn R
    obtain ⟨N', R2, f2⟩ := ih (c + 1) N1 (by omega) R1
    refine ⟨N', R2, fun F hF => ?_⟩
    obtain ⟨F, rfl⟩ : ∃ F', F = F' + 1 := ⟨F - 1, by omega⟩
    have f2 := f2 F (by omega)
    rw [L85f_s]
    simp (disch := omega) only [gfd_eq, glet_eq, gbind_eq, nI_ltI, nI_1, gok_nI, grd_nI, nI_clamp, if_true, if_false, Nat.lt_irrefl, ce, hcn, f1, i10, gokT]
    exact f2
/-- the last loop -/
def wwR (W I : Nat → Nat) (c : Nat) : Nat → Int32 := fun q => if q < c then nI (W q + I q) else nI (W q)
theorem mo_flows3 {N : gN} {Oo Aa Ww Ii : Nat → Nat} (hn : w * h ≤ 36) (x0 : N 81 0 = nI w) (x1 : N 81 1 = nI h) (h86 : N 86 = fun i => nI (Oo i)) (h84 : N 84 = fun c => nI (Ww c)) (h109 : ∀ q, q < 9 * (w * h) → N 109 q = nI (Aa q)) (h110 : ∀ q, q < w * h → N 110 q = nI (Ii q)) : L_MO_flows_106 1000 0 (N, L) = some (grw (grw N 84 (wwR Ww Ii (w * h))) 86 (ggR Oo Aa (9 * (w * h))), L) := by
  have s86 : ∀ (M : gN) (x : Nat), gup (grw M 86 (ggR Oo Aa x)) 86 x (nI (Oo x + Aa x)) = grw M 86 (ggR Oo Aa (x + 1)) := by
    intro M x
    rw [gup_grw, grw_grw, grw_eq]
    congr 1
    funext q
    unfold ggR
    by_cases z : q = x
    · rw [if_pos z, if_pos (by omega), z]
    · rw [if_neg z]
      by_cases z2 : q < x
      · rw [if_pos z2, if_pos (by omega)]
      · rw [if_neg z2, if_neg (by omega)]
  have s84 : ∀ (M : gN) (x : Nat), gup (grw M 84 (wwR Ww Ii x)) 84 x (nI (Ww x + Ii x)) = grw M 84 (wwR Ww Ii (x + 1)) := by
    intro M x
    rw [gup_grw, grw_grw, grw_eq]
    congr 1
    funext q
    unfold wwR
    by_cases z : q = x
    · rw [if_pos z, if_pos (by omega), z]
    · rw [if_neg z]
      by_cases z2 : q < x
      · rw [if_pos z2, if_pos (by omega)]
      · rw [if_neg z2, if_neg (by omega)]
  have inner : ∀ (c : Nat) (M : gN) (K' : Int32 → gM → Option gM), c < w * h → (∀ q, q < 9 * (w * h) → M 109 q = nI (Aa q)) → L_MO_flows_131 (nI c) K' 1000 0 (grw M 86 (ggR Oo Aa (9 * c)), L) = K' (nI 9) (grw M 86 (ggR Oo Aa (9 * (c + 1))), L) := by
    intro c M K' hc hM
    unfold L_MO_flows_131
    rw [show 9 * (c + 1) = 9 * c + 9 by omega]
    refine gloopS0 (fun (g : Int32 → gM → Option gM) j (s : gM) => g (nI j) s) 9 (fun j => (grw M 86 (ggR Oo Aa (9 * c + j)), L)) _ rfl ?_ ?_ 1000 (by omega)
    · intro g j hj
      have a1 : grw M 86 (ggR Oo Aa (9 * c + j)) 86 (9 * c + j) = nI (Oo (9 * c + j)) := by
        rw [grw_eq]
        exact if_neg (by omega)
      have a2 : grw M 86 (ggR Oo Aa (9 * c + j)) 109 (9 * c + j) = nI (Aa (9 * c + j)) := by
        rw [grw_ne (by decide)]
        exact hM _ (by omega)
      simp (disch := omega) only [gfd_eq, glet_eq, gbind_eq, nI_ltI, nI_1, gok_nI, grd_nI, nI_clamp, if_true, if_false, Nat.lt_irrefl, hj, q9, pk_mul, nI_add, a1, a2, gst_nI, s86, i10, gokT]
      rfl
    · intro g
      simp (disch := omega) only [gfd_eq, glet_eq, gbind_eq, nI_ltI, nI_1, gok_nI, grd_nI, nI_clamp, if_true, if_false, Nat.lt_irrefl, q9, i10, gokT]
  unfold L_MO_flows_106
  refine gloopS0 (fun (g : Int32 → gM → Option gM) j (s : gM) => g (nI j) s) (w * h) (fun j => (grw (grw N 84 (wwR Ww Ii j)) 86 (ggR Oo Aa (9 * j)), L)) _ ?_ ?_ ?_ 1000 (by omega)
  · show (grw (grw N 84 (wwR Ww Ii 0)) 86 (ggR Oo Aa (9 * 0)), L) = (N, L)
    have e1 : ggR Oo Aa (9 * 0) = N 86 := by
      rw [h86]
      funext q
      exact if_neg (by omega)
    have e2 : wwR Ww Ii 0 = N 84 := by
      rw [h84]
      funext q
      exact if_neg (by omega)
    rw [e1, e2, grw_id, grw_id]
  · intro g j hj
    have ce := mo_cells (m := (grw (grw N 84 (wwR Ww Ii j)) 86 (ggR Oo Aa (9 * j)), L)) (w := w) (h9 := h) (by dsimp only; rw [grw_ne (by decide), grw_ne (by decide)]; exact x0) (by dsimp only; rw [grw_ne (by decide), grw_ne (by decide)]; exact x1) rfl
    have a1 : grw (grw N 84 (wwR Ww Ii j)) 86 (ggR Oo Aa (9 * j)) 84 j = nI (Ww j) := by
      rw [grw_ne (by decide), grw_eq]
      exact if_neg (by omega)
    have a2 : grw (grw N 84 (wwR Ww Ii j)) 86 (ggR Oo Aa (9 * j)) 110 j = nI (Ii j) := by
      rw [grw_ne (by decide), grw_ne (by decide)]
      exact h110 j hj
    have a3 : gup (grw (grw N 84 (wwR Ww Ii j)) 86 (ggR Oo Aa (9 * j))) 84 j (nI (Ww j + Ii j)) = grw (grw N 84 (wwR Ww Ii (j + 1))) 86 (ggR Oo Aa (9 * j)) := by
      rw [gup_grw2 _ (by decide), s84]
    have i := inner j (grw N 84 (wwR Ww Ii (j + 1))) (fun v5 m5 => J_MO_flows_168 g (nI j) v5 m5) hj (fun q hq => by rw [grw_ne (by decide)]; exact h109 q hq)
    simp (disch := omega) only [gfd_eq, glet_eq, gbind_eq, nI_ltI, nI_1, gok_nI, grd_nI, nI_clamp, if_true, if_false, Nat.lt_irrefl, ce, hj, a1, a2, nI_add, gst_nI, a3, i, i10, gokT]
    unfold J_MO_flows_168
    rw [nI_1]
  · intro g
    have ce := mo_cells (m := (grw (grw N 84 (wwR Ww Ii (w * h))) 86 (ggR Oo Aa (9 * (w * h))), L)) (w := w) (h9 := h) (by dsimp only; rw [grw_ne (by decide), grw_ne (by decide)]; exact x0) (by dsimp only; rw [grw_ne (by decide), grw_ne (by decide)]; exact x1) rfl
    simp (disch := omega) only [gfd_eq, glet_eq, gbind_eq, nI_ltI, nI_1, gok_nI, grd_nI, nI_clamp, if_true, if_false, Nat.lt_irrefl, ce, i10, gokT]
theorem mo_flows {N : gN} (O : PoolOk w h sd gs wt (osum ol)) (x0 : N 81 0 = nI w) (x1 : N 81 1 = nI h) (h82 : N 82 = fun c => nI (sd c)) (h83 : N 83 = fun c => nI (gs c)) (h84 : N 84 = fun c => nI (wt c)) (h86 : N 86 = fun i => nI (ol i)) : ∃ N' : gN, f_MO_flows (N, L) = some (N', L) ∧ N' 86 = (fun i => nI (flO w h sd gs wt ol i)) ∧ N' 84 = (fun c => nI (flW w h sd gs wt (osum ol) c)) ∧ ∀ q, q ≠ 84 → q ≠ 86 → (q < 105 ∨ 112 ≤ q) → N' q = N q := by
  have h36 := O.n36
  obtain ⟨S, a1, a2, a3, a4⟩ := mo_flows1 (L := L) (N0 := N) (fun v8 m9 => J_MO_flows_83 v8 m9) h36 x0 x1 h86 h84 h83 (w * h) 0 N (by omega) (fun q hq => by omega) (fun q hq => by omega) (fun q _ => rfl)
  have B : RBase w h sd gs wt ol S := ⟨by rw [a3 81 (by omega)]; exact x0, by rw [a3 81 (by omega)]; exact x1, fun c hc => ⟨(a1 c hc).1, (a1 c hc).2.1, (a1 c hc).2.2.1⟩, fun c hc => by rw [a3 82 (by omega), h82]⟩
  obtain ⟨N2, R2, b4⟩ := mo_flows2 (L := L) (fun v7 m8 => J_MO_flows_104 v7 m8) B O (w * h) 0 S (by omega) ⟨by rw [a3 86 (by omega), h86]; rfl, by rw [a3 84 (by omega), h84]; rfl, fun q hq => a2 q hq, fun q hq => (a1 q hq).2.2.2, fun q _ _ _ _ _ _ => rfl⟩
  obtain ⟨r86, r84, r109, r110, rS⟩ := R2
  have l3 := mo_flows3 (L := L) h36 (by rw [rS 81 (by decide) (by decide) (by decide) (by decide) (by decide) (by decide)]; exact B.1) (by rw [rS 81 (by decide) (by decide) (by decide) (by decide) (by decide) (by decide)]; exact B.2.1) r86 r84 r109 r110
  have far := fF_far w h sd gs wt (osum ol) O.1.1
  have a4 : L_MO_flows_2 (fun v8 m9 => J_MO_flows_83 v8 m9) 1000 0 (N, L) = J_MO_flows_83 (nI (w * h)) (S, L) := a4 1000 (by omega)
  have b4 : L_MO_flows_85 (fun v7 m8 => J_MO_flows_104 v7 m8) 1000 0 (S, L) = J_MO_flows_104 (nI (w * h)) (N2, L) := b4 1000 (by omega)
  refine ⟨grw (grw N2 84 (wwR (rvW wt (fwF w h sd gs wt (osum ol)) (4 * (w * h))) (rvI (fwF w h sd gs wt (osum ol)) (ddF w h) (4 * (w * h))) (w * h))) 86 (ggR (mvO ol (foF w h sd gs wt (osum ol)) (4 * (w * h))) (mvA ol (foF w h sd gs wt (osum ol)) (ddF w h) (4 * (w * h))) (9 * (w * h))), ?_, ?_, ?_, fun q z1 z2 z3 => ?_⟩
  · unfold f_MO_flows
    rw [a4]
    unfold J_MO_flows_83
    rw [b4]
    unfold J_MO_flows_104
    exact l3
  · rw [grw_eq]
    funext q
    unfold ggR flO
    by_cases z : q < 9 * (w * h)
    · rw [if_pos z]
    · rw [if_neg z]
      rw [mvA_far (n := w * h) (T := 4 * (w * h)) (fun t ht => (far t ht).1) (by omega) _ (Nat.le_refl _)]
      rfl
  · rw [grw_ne (by decide), grw_eq]
    funext q
    unfold wwR flW
    rw [mvW_eq (fwF_sum w h sd gs wt (osum ol))]
    by_cases z : q < w * h
    · rw [if_pos z]
    · rw [if_neg z]
      rw [rvI_far (n := w * h) (T := 4 * (w * h)) (fun t ht => (far t ht).2) (by omega) _ (Nat.le_refl _)]
      rfl
  · rw [grw_ne z2, grw_ne z1, rS q z1 z2 (by omega) (by omega) (by omega) (by omega), a3 q (by omega)]
end FM
