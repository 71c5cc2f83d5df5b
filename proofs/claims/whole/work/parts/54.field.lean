/-! ===== field ===== -/
theorem q36 : (36 : Int32) = nI 36 := rfl
theorem q324 : (324 : Int32) = nI 324 := rfl
theorem gst_z {f : Nat → Int32} {n q : Nat} {x : Int32} (h : q < n) : gst_ f 0 n x q = x := if_pos (by omega)
theorem gst_o {f : Nat → Int32} {n q : Nat} {x : Int32} (h : n ≤ q) : gst_ f 0 n x q = f q := if_neg (by omega)
theorem gup_fill0 (N : gN) (a j : Nat) (x : Int32) : gup (grw N a (gst_ (N a) 0 j x)) a j x = grw N a (gst_ (N a) 0 (j + 1) x) := by
  have := gup_fill N a 0 j x
  rw [Nat.zero_add] at this
  exact this
/-- a row filled from its first place on -/
def gwf (N : gN) (a j : Nat) (x : Int32) : gN := grw N a (gst_ (N a) 0 j x)
theorem gwf_0 (N : gN) (a : Nat) (x : Int32) : gwf N a 0 x = N := by
  unfold gwf
  rw [gst_0, grw_id]
theorem gwf_s (N : gN) (a j : Nat) (x : Int32) : gup (gwf N a j x) a j x = gwf N a (j + 1) x := gup_fill0 N a j x
theorem gwf_ne {N : gN} {a j p : Nat} {x : Int32} (h : p ≠ a) : gwf N a j x p = N p := grw_ne h
theorem gwf_eq (N : gN) (a j : Nat) (x : Int32) : gwf N a j x a = gst_ (N a) 0 j x := grw_eq _ _ _
theorem gup_gwf {N : gN} {a b i j : Nat} {x y : Int32} (h : a ≠ b) : gup (gwf N b j y) a i x = gwf (gup N a i x) b j y := by
  funext p q
  by_cases h1 : p = b
  · subst h1
    rw [gup_row (Ne.symm h), gwf_eq, gwf_eq, gup_ne (Ne.symm h)]
  · rw [gwf_ne h1]
    by_cases h2 : p = a
    · subst h2
      rw [gup_all, gup_all, gwf_ne h]
    · rw [gup_row h2, gup_row h2, gwf_ne h1]
theorem mo_f175 (m : gM) : L_MO_field_175 1000 0 m = some (1, (gwf m.1 103 50 0, m.2)) := by
  unfold L_MO_field_175
  refine gloopS0 (fun (f : Int32 → gM → Option (Int32 × gM)) j (s : gM) => f (nI j) s) 50 (fun j => (gwf m.1 103 j 0, m.2)) _ ?_ ?_ ?_ 1000 (by omega)
  · show (gwf m.1 103 0 0, m.2) = m
    rw [gwf_0]
  · intro g j hj
    simp (disch := omega) only [gfd_eq, glet_eq, gbind_eq, nI_ltI, nI_1, gok_nI, grd_nI, nI_clamp, if_true, if_false, Nat.lt_irrefl, hj, q50, gst_nI, gwf_s, i10, gokT]
  · intro g
    simp (disch := omega) only [gfd_eq, glet_eq, gbind_eq, nI_ltI, nI_1, gok_nI, grd_nI, nI_clamp, if_true, if_false, Nat.lt_irrefl, q50, i10, gokT]
theorem mo_f140 (k : Int32 → gM → Option (Int32 × gM)) (m : gM) : L_MO_field_140 k 1000 0 m = k (nI 6) (gwf (gwf (gwf m.1 100 6 0) 101 6 0) 102 6 0, m.2) := by
  unfold L_MO_field_140
  refine gloopS0 (fun (f : Int32 → gM → Option (Int32 × gM)) j (s : gM) => f (nI j) s) 6 (fun j => (gwf (gwf (gwf m.1 100 j 0) 101 j 0) 102 j 0, m.2)) _ ?_ ?_ ?_ 1000 (by omega)
  · show (gwf (gwf (gwf m.1 100 0 0) 101 0 0) 102 0 0, m.2) = m
    rw [gwf_0, gwf_0, gwf_0]
  · intro g j hj
    simp (disch := omega) only [gfd_eq, glet_eq, gbind_eq, nI_ltI, nI_1, gok_nI, grd_nI, nI_clamp, if_true, if_false, Nat.lt_irrefl, hj, q6, gst_nI, i10, gokT]
    rw [gup_gwf (by decide), gup_gwf (by decide), gwf_s, gup_gwf (by decide), gwf_s, gwf_s]
  · intro g
    simp (disch := omega) only [gfd_eq, glet_eq, gbind_eq, nI_ltI, nI_1, gok_nI, grd_nI, nI_clamp, if_true, if_false, Nat.lt_irrefl, q6, i10, gokT]
theorem mo_f118 (k : Int32 → gM → Option (Int32 × gM)) (m : gM) : L_MO_field_118 k 1000 0 m = k (nI 8) (gwf m.1 87 8 (-4), m.2) := by
  unfold L_MO_field_118
  refine gloopS0 (fun (f : Int32 → gM → Option (Int32 × gM)) j (s : gM) => f (nI j) s) 8 (fun j => (gwf m.1 87 j (-4), m.2)) _ ?_ ?_ ?_ 1000 (by omega)
  · show (gwf m.1 87 0 (-4), m.2) = m
    rw [gwf_0]
  · intro g j hj
    simp (disch := omega) only [gfd_eq, glet_eq, gbind_eq, nI_ltI, nI_1, gok_nI, grd_nI, nI_clamp, if_true, if_false, Nat.lt_irrefl, hj, q8, gst_nI, gwf_s, i10, gokT]
  · intro g
    simp (disch := omega) only [gfd_eq, glet_eq, gbind_eq, nI_ltI, nI_1, gok_nI, grd_nI, nI_clamp, if_true, if_false, Nat.lt_irrefl, q8, i10, gokT]
theorem mo_f96 (k : Int32 → gM → Option (Int32 × gM)) (m : gM) : L_MO_field_96 k 1000 0 m = k (nI 324) (gwf m.1 86 324 0, m.2) := by
  unfold L_MO_field_96
  refine gloopS0 (fun (f : Int32 → gM → Option (Int32 × gM)) j (s : gM) => f (nI j) s) 324 (fun j => (gwf m.1 86 j 0, m.2)) _ ?_ ?_ ?_ 1000 (by omega)
  · show (gwf m.1 86 0 0, m.2) = m
    rw [gwf_0]
  · intro g j hj
    simp (disch := omega) only [gfd_eq, glet_eq, gbind_eq, nI_ltI, nI_1, gok_nI, grd_nI, nI_clamp, if_true, if_false, Nat.lt_irrefl, hj, q324, gst_nI, gwf_s, i10, gokT]
  · intro g
    simp (disch := omega) only [gfd_eq, glet_eq, gbind_eq, nI_ltI, nI_1, gok_nI, grd_nI, nI_clamp, if_true, if_false, Nat.lt_irrefl, q324, i10, gokT]
theorem mo_f53 (k : Int32 → gM → Option (Int32 × gM)) (m : gM) : L_MO_field_53 k 1000 0 m = k (nI 36) (gwf (gwf (gwf (gwf m.1 82 36 5) 83 36 0) 84 36 0) 85 36 (-4), m.2) := by
  unfold L_MO_field_53
  refine gloopS0 (fun (f : Int32 → gM → Option (Int32 × gM)) j (s : gM) => f (nI j) s) 36 (fun j => (gwf (gwf (gwf (gwf m.1 82 j 5) 83 j 0) 84 j 0) 85 j (-4), m.2)) _ ?_ ?_ ?_ 1000 (by omega)
  · show (gwf (gwf (gwf (gwf m.1 82 0 5) 83 0 0) 84 0 0) 85 0 (-4), m.2) = m
    rw [gwf_0, gwf_0, gwf_0, gwf_0]
  · intro g j hj
    simp (disch := omega) only [gfd_eq, glet_eq, gbind_eq, nI_ltI, nI_1, gok_nI, grd_nI, nI_clamp, if_true, if_false, Nat.lt_irrefl, hj, q36, gst_nI, i10, gokT]
    rw [gup_gwf (by decide), gup_gwf (by decide), gup_gwf (by decide), gwf_s, gup_gwf (by decide), gup_gwf (by decide), gwf_s, gup_gwf (by decide), gwf_s, gwf_s]
  · intro g
    simp (disch := omega) only [gfd_eq, glet_eq, gbind_eq, nI_ltI, nI_1, gok_nI, grd_nI, nI_clamp, if_true, if_false, Nat.lt_irrefl, q36, i10, gokT]
/-- the reference's field, made new -/
def gMf (N : gN) (w h : Nat) : gN := gwf (gwf (gwf (gwf (gwf (gwf (gwf (gwf (gwf (gwf (gup (gup (gup (gup (gup N 81 0 (nI w)) 81 1 (nI h)) 81 2 0) 81 10 0) 81 15 0) 82 36 5) 83 36 0) 84 36 0) 85 36 (-4)) 86 324 0) 87 8 (-4)) 100 6 0) 101 6 0) 102 6 0) 103 50 0
theorem mo_field {w h : Nat} (hw : 1 ≤ w ∧ w ≤ 6) (hh : 1 ≤ h ∧ h ≤ 6) (m : gM) : f_MO_field (nI w) (nI h) m = some (1, (gMf m.1 w h, m.2)) := by
  have b : ∀ k, 1 ≤ k ∧ k ≤ 6 → ∀ m : gM, f_MO_in (nI k).toInt64 (Int32.toInt64 1) (Int32.toInt64 6) m = some (1, m) := by
    intro k hk m
    have := one_in (x := nI k) (n := 6) (by omega) m
    rw [if_neg (show ¬ nI k < 1 from nI_nlt (b := 1) hk.1 (by omega)), if_neg (nI_nlt hk.2 (by omega))] at this
    exact this
  unfold f_MO_field
  simp (disch := omega) only [gfd_eq, glet_eq, gbind_eq, nI_ltI, nI_1, gok_nI, grd_nI, nI_clamp, if_true, if_false, Nat.lt_irrefl, b w hw, b h hh, gsf_eq, mo_f53, i10, gokT]
  unfold J_MO_field_94
  rw [mo_f96]
  unfold J_MO_field_116
  rw [mo_f118]
  unfold J_MO_field_138
  rw [mo_f140]
  unfold J_MO_field_173
  rw [mo_f175]
  rfl
theorem gst_beyond {f : Nat → Int32} {n : Nat} {x : Int32} (h : ∀ i, n ≤ i → f i = 0) (i : Nat) (hi : n ≤ i) : gst_ f 0 n x i = 0 := by
  rw [gst_o hi]
  exact h i hi
theorem gst_num {f : Nat → Int32} {n v : Nat} (h : ∀ i, n ≤ i → f i = 0) : gst_ f 0 n (nI v) = fun i => nI (if i < n then v else 0) := by
  funext i
  by_cases hi : i < n
  · rw [gst_z hi, if_pos hi]
  · rw [gst_o (by omega), if_neg hi, h i (by omega)]
    rfl
theorem FRel.fresh {n n' w h : Nat} {C V C' V' : gN} (H : FRel n C V) (hw : 1 ≤ w ∧ w ≤ 6) (hh : 1 ≤ h ∧ h ≤ 6)
    (v22 : V' 22 0 = nI w ∧ V' 22 1 = nI h ∧ V' 22 2 = 0 ∧ V' 22 3 = 0 ∧ V' 22 4 = 0)
    (c0 : C' 2 0 = nI w ∧ C' 2 1 = nI h ∧ C' 2 2 = nI (w * h) ∧ C' 0 4 = 0 ∧ C' 11 1 = 0 ∧ C' 17 0 = 0)
    (cc : ∀ c, c < w * h → C' 3 c = nI (c % w) ∧ C' 4 c = nI (c / w))
    (cg : C' 5 = gst_ (C 5) 0 36 5 ∧ C' 6 = gst_ (C 6) 0 36 0 ∧ C' 7 = gst_ (C 7) 0 36 0 ∧ C' 8 = gst_ (C 8) 0 36 0 ∧ C' 9 = gst_ (C 9) 0 36 (-4) ∧ C' 10 = gst_ (C 10) 0 324 0)
    (cd : C' 12 = gst_ (C 12) 0 8 (-4) ∧ C' 13 = C 13 ∧ C' 14 = C 14 ∧ C' 15 = C 15 ∧ C' 16 = C 16)
    (cw : C' 18 = C 18 ∧ C' 19 = C 19 ∧ C' 20 = C 20 ∧ C' 21 = C 21 ∧ C' 22 = gst_ (C 22) 0 10 0 ∧ C' 23 = gst_ (C 23) 0 10 0 ∧ C' 24 = gst_ (C 24) 0 90 0 ∧ C' 25 = gst_ (C 25) 0 500 0)
    (cb : C' 27 = gst_ (C 27) 0 6 0 ∧ C' 28 = gst_ (C 28) 0 6 0 ∧ C' 29 = gst_ (C 29) 0 6 0 ∧ C' 30 = gst_ (C 30) 0 50 0)
    (vg : V' 0 = gst_ (V 0) 0 36 5 ∧ V' 1 = gst_ (V 1) 0 36 0 ∧ V' 2 = gst_ (V 2) 0 36 0 ∧ V' 3 = gst_ (V 3) 0 36 (-4) ∧ V' 4 = gst_ (V 4) 0 324 0)
    (vb : V' 5 = gst_ (V 5) 0 50 0 ∧ V' 6 = gst_ (V 6) 0 6 0 ∧ V' 7 = gst_ (V 7) 0 6 0 ∧ V' 8 = gst_ (V 8) 0 6 0 ∧ V' 9 = gst_ (V 9) 0 8 (-4))
    (vr : ∀ s, 10 ≤ s → s < 22 → V' s = V s) : FRel n' C' V' := by
  obtain ⟨w0, h0, hr, le, we, sd, gs, wt, ol, wp, wc, ww, wo, ws, a1, a2, a3, a4, ⟨d1, d2, d3, d4, d5⟩, ⟨o1, o2, o3, o4, o5⟩, ⟨a7, a7b⟩, a8, ⟨e1, e2, e3, e4, e5⟩, ⟨f1, f2, f3, f4⟩, ⟨g1, g2, g3, g4⟩, ⟨b3, b3b⟩, b4, b5, ⟨k1, k2, k3, k4⟩, b7⟩ := H
  have z0 : ∀ i, 36 ≤ i → V 0 i = 0 := fun i hi => b7 0 i (by decide) hi
  have z1 : ∀ i, 36 ≤ i → V 1 i = 0 := fun i hi => b7 1 i (by decide) hi
  have z2 : ∀ i, 36 ≤ i → V 2 i = 0 := fun i hi => b7 2 i (by decide) hi
  have z3 : ∀ i, 36 ≤ i → V 3 i = 0 := fun i hi => b7 3 i (by decide) hi
  have z4 : ∀ i, 324 ≤ i → V 4 i = 0 := fun i hi => b7 4 i (by decide) hi
  have z8 : ∀ i, 36 ≤ i → C 8 i = 0 := by
    intro i hi
    have y : ∀ t, t < 9 → nI (ol (9 * i + t)) = 0 := fun t ht => by
      have := z4 (9 * i + t) (by omega)
      rw [o4] at this
      exact this
    have e : C 8 i = nI (ol (9 * i)) + nI (ol (9 * i + 1)) + nI (ol (9 * i + 2)) + nI (ol (9 * i + 3)) + nI (ol (9 * i + 4)) + nI (ol (9 * i + 5)) + nI (ol (9 * i + 6)) + nI (ol (9 * i + 7)) + nI (ol (9 * i + 8)) := by
      rw [o5]
      show nI (osum ol i) = _
      unfold osum
      simp only [nI_add]
    have y0 : nI (ol (9 * i)) = 0 := y 0 (by omega)
    rw [e, y0, y 1 (by omega), y 2 (by omega), y 3 (by omega), y 4 (by omega), y 5 (by omega), y 6 (by omega), y 7 (by omega), y 8 (by omega)]
    rfl
  refine ⟨w, h, 0, 0, 0, fun c => if c < 36 then 5 else 0, fun c => if c < 36 then 0 else 0, fun c => if c < 36 then 0 else 0, fun c => if c < 324 then 0 else 0, wp, wc, ww, wo, fun _ => 0, ⟨hw.1, hw.2, hh.1, hh.2, by omega, by omega, by omega⟩, v22, c0, cc, ⟨?_, ?_, ?_, ?_, ?_⟩, ⟨?_, ?_, ?_, ?_, ?_⟩, ⟨fun c => ⟨?_, ?_⟩, ?_, ?_⟩, ?_, ⟨?_, ?_, ?_, ?_, ?_⟩, ⟨?_, ?_, ?_, ?_⟩, ⟨?_, ?_, ?_, ?_⟩, ⟨fun k hk => by omega, b3b⟩, fun k hk => by omega, fun k _ hk => ⟨?_, ?_, fun l hl => ?_, fun s hs => ?_⟩, ⟨?_, ?_, ?_, ?_⟩, fun sel i h1 h2 => ?_⟩
  · rw [cg.1, vg.1, d1]
  · rw [cg.2.1, vg.2.1, d2]
  · rw [cg.2.2.1, vg.2.2.1, d3]
  · rw [cg.2.2.2.2.1, vg.2.2.2.1, d4]
  · rw [cg.2.2.2.2.2, vg.2.2.2.2, d5]
  · rw [vg.1]; exact gst_num (v := 5) z0
  · rw [vg.2.1]; exact gst_num (v := 0) z1
  · rw [vg.2.2.1]; exact gst_num (v := 0) z2
  · rw [vg.2.2.2.2]; exact gst_num (v := 0) z4
  · rw [cg.2.2.2.1]
    refine (gst_num (v := 0) z8).trans ?_
    funext i
    show nI (if i < 36 then 0 else 0) = nI (osum (fun c => if c < 324 then 0 else 0) i)
    unfold osum
    simp
  · show (if c < 36 then 5 else 0) ≤ 9
    split <;> omega
  · show (if c < 36 then 0 else 0) ≤ 999
    split <;> omega
  · intro c hc
    unfold gDry gPush osum
    simp
  · refine Nat.le_trans (m := 0) ?_ (Nat.zero_le _)
    decide
  · intro c hc
    left
    rw [vg.2.2.2.1]
    exact gst_z hc
  · rw [cd.1, vb.2.2.2.2, e1]
  · rw [cd.2.1, vr 10 (by decide) (by decide), e2]
  · rw [cd.2.2.1, vr 11 (by decide) (by decide), e3]
  · rw [cd.2.2.2.1, vr 12 (by decide) (by decide), e4]
  · rw [cd.2.2.2.2, vr 13 (by decide) (by decide), e5]
  · rw [cw.1, vr 14 (by decide) (by decide), f1]
  · rw [cw.2.1, vr 15 (by decide) (by decide), f2]
  · rw [cw.2.2.1, vr 16 (by decide) (by decide), f3]
  · rw [cw.2.2.2.1, vr 17 (by decide) (by decide), f4]
  · rw [vr 14 (by decide) (by decide), g1]
  · rw [vr 15 (by decide) (by decide), g2]
  · rw [vr 16 (by decide) (by decide), g3]
  · rw [vr 17 (by decide) (by decide), g4]
  · rw [cw.2.2.2.2.1]; exact gst_z hk
  · rw [cw.2.2.2.2.2.1]; exact gst_z hk
  · rw [cw.2.2.2.2.2.2.1]; exact gst_z (by omega)
  · rw [cw.2.2.2.2.2.2.2]; exact gst_z (by omega)
  · rw [cb.1, vb.2.1, k1]
  · rw [cb.2.1, vb.2.2.1, k2]
  · rw [cb.2.2.1, vb.2.2.2.1, k3]
  · rw [cb.2.2.2, vb.1, k4]
  · rcases Nat.lt_or_ge sel 10 with hs | hs
    · match sel, hs with
      | 0, _ => rw [vg.1]; exact gst_beyond z0 i h2
      | 1, _ => rw [vg.2.1]; exact gst_beyond z1 i h2
      | 2, _ => rw [vg.2.2.1]; exact gst_beyond z2 i h2
      | 3, _ => rw [vg.2.2.2.1]; exact gst_beyond z3 i h2
      | 4, _ => rw [vg.2.2.2.2]; exact gst_beyond z4 i h2
      | 5, _ => rw [vb.1]; exact gst_beyond (fun i hi => b7 5 i (by decide) hi) i h2
      | 6, _ => rw [vb.2.1]; exact gst_beyond (fun i hi => b7 6 i (by decide) hi) i h2
      | 7, _ => rw [vb.2.2.1]; exact gst_beyond (fun i hi => b7 7 i (by decide) hi) i h2
      | 8, _ => rw [vb.2.2.2.1]; exact gst_beyond (fun i hi => b7 8 i (by decide) hi) i h2
      | 9, _ => rw [vb.2.2.2.2]; exact gst_beyond (fun i hi => b7 9 i (by decide) hi) i h2
      | s + 10, h => omega
    · rw [vr sel hs h1]
      exact b7 sel i h1 h2
theorem gst_if (f : Nat → Int32) (n : Nat) (x : Int32) (q : Nat) : gst_ f 0 n x q = if q < n then x else f q := by
  by_cases h : q < n
  · rw [gst_z h, if_pos h]
  · rw [gst_o (by omega), if_neg h]
theorem gMf_81 (N : gN) (w h q : Nat) : gMf N w h 81 q = if q = 15 then 0 else if q = 10 then 0 else if q = 2 then 0 else if q = 1 then nI h else if q = 0 then nI w else N 81 q := by
  unfold gMf
  rw [gwf_ne (by decide), gwf_ne (by decide), gwf_ne (by decide), gwf_ne (by decide), gwf_ne (by decide), gwf_ne (by decide), gwf_ne (by decide), gwf_ne (by decide), gwf_ne (by decide), gwf_ne (by decide), gup_all, gup_all, gup_all, gup_all, gup_all]
  simp only [true_and]
theorem gMf_far {N : gN} {w h p : Nat} (hp : p < 81 ∨ (88 ≤ p ∧ p < 100) ∨ 104 ≤ p) : gMf N w h p = N p := by
  unfold gMf
  rw [gwf_ne (by omega), gwf_ne (by omega), gwf_ne (by omega), gwf_ne (by omega), gwf_ne (by omega), gwf_ne (by omega), gwf_ne (by omega), gwf_ne (by omega), gwf_ne (by omega), gwf_ne (by omega), gup_ne (by omega), gup_ne (by omega), gup_ne (by omega), gup_ne (by omega), gup_ne (by omega)]
theorem gMf_rows (N : gN) (w h : Nat) : gMf N w h 82 = gst_ (N 82) 0 36 5 ∧ gMf N w h 83 = gst_ (N 83) 0 36 0 ∧ gMf N w h 84 = gst_ (N 84) 0 36 0 ∧ gMf N w h 85 = gst_ (N 85) 0 36 (-4) ∧ gMf N w h 86 = gst_ (N 86) 0 324 0 ∧ gMf N w h 87 = gst_ (N 87) 0 8 (-4) ∧ gMf N w h 100 = gst_ (N 100) 0 6 0 ∧ gMf N w h 101 = gst_ (N 101) 0 6 0 ∧ gMf N w h 102 = gst_ (N 102) 0 6 0 ∧ gMf N w h 103 = gst_ (N 103) 0 50 0 := by
  refine ⟨?_, ?_, ?_, ?_, ?_, ?_, ?_, ?_, ?_, ?_⟩
  all_goals
    unfold gMf gwf
    repeat (first | rw [grw_eq] | rw [grw_ne (by decide)])
    repeat (rw [gup_ne (by decide)])
theorem p_field {n0 K : Nat} {m : gM} (x y : Int32) (I : Inv n0 K m.1) : gBoth n0 K (f_OT_field x y) (f_MO_field x y) m := by
  have b : ∀ (z : Int32) (m : gM), f_MO_in z.toInt64 (Int32.toInt64 1) (Int32.toInt64 6) m = some (if z < 1 then 0 else if nI 6 < z then 0 else 1, m) := fun z m => one_in (x := z) (n := 6) (by omega) m
  rcases one_to (x := x) (n := 6) (by omega) with hz | ⟨w, hw1, hw2, rfl⟩
  · refine gBoth.same (-1) I ?_ ?_
    · unfold f_OT_field
      rcases hz with hz | hz
      · rw [if_pos hz]
      · by_cases h1 : x < 1
        · rw [if_pos h1]
        · rw [if_neg h1, if_pos (show (6 : Int32) < x from hz)]
    · unfold f_MO_field
      rw [b, gbind_eq]
      rcases hz with hz | hz
      · rw [if_pos hz]; rfl
      · by_cases h1 : x < 1
        · rw [if_pos h1]; rfl
        · rw [if_neg h1, if_pos hz]; rfl
  have n1 : ¬ nI w < 1 := nI_nlt (b := 1) hw1 (by omega)
  have n2 : ¬ (6 : Int32) < nI w := nI_nlt (a := 6) hw2 (by omega)
  have n2' : ¬ nI 6 < nI w := n2
  rcases one_to (x := y) (n := 6) (by omega) with hz | ⟨h, hh1, hh2, rfl⟩
  · refine gBoth.same (-1) I ?_ ?_
    · unfold f_OT_field
      rw [if_neg n1, if_neg n2]
      rcases hz with hz | hz
      · rw [if_pos hz]
      · by_cases h1 : y < 1
        · rw [if_pos h1]
        · rw [if_neg h1, if_pos (show (6 : Int32) < y from hz)]
    · unfold f_MO_field
      rw [b, gbind_eq, if_neg n1, if_neg n2']
      show ((f_MO_in y.toInt64 (Int32.toInt64 1) (Int32.toInt64 6) m).bind _) = _
      rw [b, gbind_eq]
      rcases hz with hz | hz
      · rw [if_pos hz]; rfl
      · by_cases h1 : y < 1
        · rw [if_pos h1]; rfl
        · rw [if_neg h1, if_pos hz]; rfl
  have n3 : ¬ nI h < 1 := nI_nlt (b := 1) hh1 (by omega)
  have n4 : ¬ (6 : Int32) < nI h := nI_nlt (a := 6) hh2 (by omega)
  refine ⟨1, gTnew m 1 w h, (gMf (gTnew m 1 w h).1 w h, (gTnew m 1 w h).2), ?_, mo_field ⟨hw1, hw2⟩ ⟨hh1, hh2⟩ _, ?_⟩
  · unfold f_OT_field
    rw [if_neg n1, if_neg n2, if_neg n3, if_neg n4, town_new hw2 hh2, gbind_eq]
  · have far : ∀ p, p = 0 ∨ 32 ≤ p → (gTnew m 1 w h).1 p = m.1 p := fun p hp => funext fun q => gTnew_far m 1 w h p q (by omega)
    refine (I.mono (Nat.le_succ n0)).fld (fun q hq => ?_) ?_ ?_ ?_ ?_ ?_ ?_
    · unfold gOut at hq
      show gMf (gTnew m 1 w h).1 w h q = _
      rw [gMf_far (by omega), far q (by omega)]
    · show gMf (gTnew m 1 w h).1 w h 81 8 = _
      rw [gMf_81, far 81 (by omega)]; rfl
    · show gMf (gTnew m 1 w h).1 w h 81 37 = _
      rw [gMf_81, far 81 (by omega)]; rfl
    · show gMf (gTnew m 1 w h).1 w h 81 38 = _
      rw [gMf_81, far 81 (by omega)]; rfl
    · show gMf (gTnew m 1 w h).1 w h 81 48 = _
      rw [gMf_81, far 81 (by omega)]; rfl
    · show gMf (gTnew m 1 w h).1 w h 81 60 = _
      rw [gMf_81, far 81 (by omega)]; rfl
    · have cl : ∀ j, j < 31 → gMf (gTnew m 1 w h).1 w h (1 + j) = (gTnew m 1 w h).1 (1 + j) := fun j hj => gMf_far (by omega)
      have R := gMf_rows (gTnew m 1 w h).1 w h
      refine FRel.blk (C := fun j => (gTnew m 1 w h).1 (1 + j)) (fun j hj => cl j hj) ?_
      refine (I.mono (Nat.le_succ n0)).1.fresh ⟨hw1, hw2⟩ ⟨hh1, hh2⟩ ?_ ?_ ?_ ?_ ?_ ?_ ?_ ?_ ?_ ?_
      · exact ⟨gMf_81 (gTnew m 1 w h).1 w h 0, gMf_81 (gTnew m 1 w h).1 w h 1, gMf_81 (gTnew m 1 w h).1 w h 2, gMf_81 (gTnew m 1 w h).1 w h 10, gMf_81 (gTnew m 1 w h).1 w h 15⟩
      · exact ⟨gTnew_r2 m 1 w h 0, gTnew_r2 m 1 w h 1, gTnew_r2 m 1 w h 2, gTnew_r0 m 1 w h 4, gTnew_r11 m 1 w h 1, gTnew_r17 m 1 w h 0⟩
      · intro c hc
        have hc2 : c < h * w := by rw [Nat.mul_comm]; exact hc
        exact ⟨(gTnew_r3 m 1 w h c).trans (if_pos hc2), (gTnew_r4 m 1 w h c).trans (if_pos hc2)⟩
      · exact ⟨funext fun q => (gTnew_r5 m 1 w h q).trans (gst_if _ _ _ q).symm, funext fun q => (gTnew_r6 m 1 w h q).trans (gst_if _ _ _ q).symm, funext fun q => (gTnew_r7 m 1 w h q).trans (gst_if _ _ _ q).symm, funext fun q => (gTnew_r8 m 1 w h q).trans (gst_if _ _ _ q).symm, funext fun q => (gTnew_r9 m 1 w h q).trans (gst_if _ _ _ q).symm, funext fun q => (gTnew_r10 m 1 w h q).trans (gst_if _ _ _ q).symm⟩
      · exact ⟨funext fun q => (gTnew_r12 m 1 w h q).trans (gst_if _ _ _ q).symm, funext fun q => gTnew_r13 m 1 w h q, funext fun q => gTnew_r14 m 1 w h q, funext fun q => gTnew_r15 m 1 w h q, funext fun q => gTnew_r16 m 1 w h q⟩
      · exact ⟨funext fun q => gTnew_r18 m 1 w h q, funext fun q => gTnew_r19 m 1 w h q, funext fun q => gTnew_r20 m 1 w h q, funext fun q => gTnew_r21 m 1 w h q, funext fun q => (gTnew_r22 m 1 w h q).trans (gst_if _ _ _ q).symm, funext fun q => (gTnew_r23 m 1 w h q).trans (gst_if _ _ _ q).symm, funext fun q => (gTnew_r24 m 1 w h q).trans (gst_if _ _ _ q).symm, funext fun q => (gTnew_r25 m 1 w h q).trans (gst_if _ _ _ q).symm⟩
      · exact ⟨funext fun q => (gTnew_r27 m 1 w h q).trans (gst_if _ _ _ q).symm, funext fun q => (gTnew_r28 m 1 w h q).trans (gst_if _ _ _ q).symm, funext fun q => (gTnew_r29 m 1 w h q).trans (gst_if _ _ _ q).symm, funext fun q => (gTnew_r30 m 1 w h q).trans (gst_if _ _ _ q).symm⟩
      · refine ⟨R.1.trans ?_, R.2.1.trans ?_, R.2.2.1.trans ?_, R.2.2.2.1.trans ?_, R.2.2.2.2.1.trans ?_⟩
        · rw [far 82 (by omega)]; rfl
        · rw [far 83 (by omega)]; rfl
        · rw [far 84 (by omega)]; rfl
        · rw [far 85 (by omega)]; rfl
        · rw [far 86 (by omega)]; rfl
      · refine ⟨R.2.2.2.2.2.2.2.2.2.trans ?_, R.2.2.2.2.2.2.1.trans ?_, R.2.2.2.2.2.2.2.1.trans ?_, R.2.2.2.2.2.2.2.2.1.trans ?_, R.2.2.2.2.2.1.trans ?_⟩
        · rw [far 103 (by omega)]; rfl
        · rw [far 100 (by omega)]; rfl
        · rw [far 101 (by omega)]; rfl
        · rw [far 102 (by omega)]; rfl
        · rw [far 87 (by omega)]; rfl
      · intro s hs1 hs2
        have e : ∀ p, 88 ≤ p → p < 100 → gMf (gTnew m 1 w h).1 w h p = m.1 p := fun p h1 h2 => by rw [gMf_far (by omega), far p (by omega)]
        obtain ⟨t, rfl⟩ : ∃ t, s = t + 10 := ⟨s - 10, by omega⟩
        match t, hs2 with
        | 0, _ => exact e 88 (by decide) (by decide)
        | 1, _ => exact e 89 (by decide) (by decide)
        | 2, _ => exact e 90 (by decide) (by decide)
        | 3, _ => exact e 91 (by decide) (by decide)
        | 4, _ => exact e 92 (by decide) (by decide)
        | 5, _ => exact e 93 (by decide) (by decide)
        | 6, _ => exact e 94 (by decide) (by decide)
        | 7, _ => exact e 95 (by decide) (by decide)
        | 8, _ => exact e 96 (by decide) (by decide)
        | 9, _ => exact e 97 (by decide) (by decide)
        | 10, _ => exact e 98 (by decide) (by decide)
        | 11, _ => exact e 99 (by decide) (by decide)
        | t + 12, h => omega
