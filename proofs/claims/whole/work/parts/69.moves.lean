/-! ===== water, and the oil of a race, moved by the town (by program) ===== -/
theorem mvWat_s (a p1 : Nat) (F : Nat) (v1 : Int32) (m1 : gM) : L_Currents_moveWater_2 a p1 (F + 1) v1 m1 = (if v1 < (gfd m1 a 2) then (gok (gib v1 144) (gok (gib (grd m1 (a + 3) v1) 36) (gok (gib v1 144) (gok (gib (grd m1 (a + 3) v1) 36) (glet (gst m1 (p1 + 5) (grd m1 (a + 3) v1) ((grd m1 (p1 + 5) (grd m1 (a + 3) v1)) - (grd m1 (a + 6) v1))) fun (m2 : gM) => gok (gib v1 144) (gok (gib (grd m2 (a + 4) v1) 36) (gok (gib v1 144) (gok (gib (grd m2 (a + 4) v1) 36) (glet (gst m2 (p1 + 5) (grd m2 (a + 4) v1) ((grd m2 (p1 + 5) (grd m2 (a + 4) v1)) + (grd m2 (a + 6) v1))) fun (m3 : gM) => L_Currents_moveWater_2 a p1 F (v1 + 1) m3))))))))) else (some m1)) := rfl
theorem mvWat {a p T : Nat} {b : Nat → Bool} {wt fw dd : Nat → Nat} {vt vw f3 f4 fx : Nat → Int32} {N : gN} {L : Nat → Nat → Int64} (hT : T ≤ 144) (h2 : N a 2 = nI (cnt b T)) (h3 : N (a + 3) = aR b vfF f3 T) (h4 : N (a + 4) = aR b vt f4 T) (hx : N (a + 6) = aR b vw fx T) (hv : ∀ t, t < T → b t = true → vw t = nI (fw t) ∧ vt t = nI (dd t) ∧ dd t < 36) (hn : ∀ t, b t = false → fw t = 0) (hf : ∀ c, gsum (fun s => fw (4 * c + s)) 4 ≤ wt c) (hd : p + 7 ≤ a) : ∀ (r t F : Nat), t + r = T → cnt b T < F + cnt b t → L_Currents_moveWater_2 a p F (nI (cnt b t)) (grw N (p + 5) (fun q => nI (mvW wt fw dd t q)), L) = some (grw N (p + 5) (fun q => nI (mvW wt fw dd T q)), L) := by
  intro r
  induction r with
  | zero =>
    intro t F ht hF2
    have : t = T := by omega
    subst this
    obtain ⟨F, rfl⟩ : ∃ F', F = F' + 1 := ⟨F - 1, by omega⟩
    have hc := cnt_le b t
    have e2 : grw N (p + 5) (fun q => nI (mvW wt fw dd t q)) a 2 = nI (cnt b t) := by rw [grw_ne (by omega)]; exact h2
    rw [mvWat_s]
    simp (disch := omega) only [gfd_eq, glet_eq, gbind_eq, nI_ltI, nI_1, gok_nI, grd_nI, nI_clamp, if_true, if_false, Nat.lt_irrefl, e2, i10, gokT]
  | succ r ih =>
    intro t F ht hF2
    have ht' : t < T := by omega
    have hcT := cnt_le b T
    obtain ⟨k, hk⟩ : ∃ k, T = t + 1 + k := ⟨T - (t + 1), by omega⟩
    cases hb : b t with
    | false =>
      have no := (mv_none (ol := fun _ => 0) (fo := fun _ => 0) (wt := wt) (fw := fw) (dd := dd) (t := t) rfl (hn t hb)).2.2.1
      have ce : cnt b (t + 1) = cnt b t := if_neg (by rw [hb]; decide)
      have IH := ih (t + 1) F (by omega) (by omega)
      rw [no, ce] at IH
      exact IH
    | true =>
      have ce : cnt b (t + 1) = cnt b t + 1 := if_pos hb
      have cm : cnt b (t + 1) ≤ cnt b T := by rw [hk]; exact cnt_mono b k
      obtain ⟨F, rfl⟩ : ∃ F', F = F' + 1 := ⟨F - 1, by omega⟩
      have IH := ih (t + 1) F (by omega) (by omega)
      rw [ce] at IH
      obtain ⟨v1, v2, v3⟩ := hv t ht' hb
      have ok := mvW_ok (dd := dd) hf t
      have hlt : cnt b t < cnt b T := by omega
      have e2 : grw N (p + 5) (fun q => nI (mvW wt fw dd t q)) a 2 = nI (cnt b T) := by rw [grw_ne (by omega)]; exact h2
      have e3 : grw N (p + 5) (fun q => nI (mvW wt fw dd t q)) (a + 3) (cnt b t) = nI (t / 4) := by rw [grw_ne (by omega), h3, hk, aR_at b _ _ hb]; rfl
      have e5 : grw N (p + 5) (fun q => nI (mvW wt fw dd t q)) (a + 6) (cnt b t) = nI (fw t) := by rw [grw_ne (by omega), hx, hk, aR_at b _ _ hb]; exact v1
      have er : grw N (p + 5) (fun q => nI (mvW wt fw dd t q)) (p + 5) (t / 4) = nI (mvW wt fw dd t (t / 4)) := by rw [grw_eq]
      let M2 : gN := gup (grw N (p + 5) (fun q => nI (mvW wt fw dd t q))) (p + 5) (t / 4) (nI (mvW wt fw dd t (t / 4) - fw t))
      have d4 : M2 (a + 4) (cnt b t) = nI (dd t) := by
        show gup (grw N (p + 5) _) (p + 5) _ _ (a + 4) _ = _
        rw [gup_row (by omega), grw_ne (by omega), h4, hk, aR_at b _ _ hb]; exact v2
      have d5 : M2 (a + 6) (cnt b t) = nI (fw t) := by
        show gup (grw N (p + 5) _) (p + 5) _ _ (a + 6) _ = _
        rw [gup_row (by omega)]; exact e5
      have dr : M2 (p + 5) (dd t) = nI (if dd t = t / 4 then mvW wt fw dd t (dd t) - fw t else mvW wt fw dd t (dd t)) := by
        show gup (grw N (p + 5) _) (p + 5) (t / 4) _ (p + 5) (dd t) = _
        rw [gup_eq, grw_eq]
        show (if dd t = t / 4 then nI (mvW wt fw dd t (t / 4) - fw t) else nI (mvW wt fw dd t (dd t))) = _
        by_cases z : dd t = t / 4
        · rw [if_pos z, if_pos z, z]
        · rw [if_neg z, if_neg z]
      have fin : gup M2 (p + 5) (dd t) (nI ((if dd t = t / 4 then mvW wt fw dd t (dd t) - fw t else mvW wt fw dd t (dd t)) + fw t)) = grw N (p + 5) (fun q => nI (mvW wt fw dd (t + 1) q)) := by
        show gup (gup (grw N (p + 5) _) (p + 5) _ _) (p + 5) _ _ = _
        rw [gup_grw, gup_grw, grw_grw, grw_grw, grw_eq, grw_eq]
        congr 1
        funext q
        show (if q = dd t then nI ((if dd t = t / 4 then mvW wt fw dd t (dd t) - fw t else mvW wt fw dd t (dd t)) + fw t) else if q = t / 4 then nI (mvW wt fw dd t (t / 4) - fw t) else nI (mvW wt fw dd t q)) = nI (if q = dd t then (if q = t / 4 then mvW wt fw dd t q - fw t else mvW wt fw dd t q) + fw t else if q = t / 4 then mvW wt fw dd t q - fw t else mvW wt fw dd t q)
        by_cases z : q = dd t
        · rw [if_pos z, if_pos z, z]
        · rw [if_neg z, if_neg z]
          by_cases z2 : q = t / 4
          · rw [if_pos z2, if_pos z2, z2]
          · rw [if_neg z2, if_neg z2]
      have M2e : gup (grw N (p + 5) (fun q => nI (mvW wt fw dd t q))) (p + 5) (t / 4) (nI (mvW wt fw dd t (t / 4) - fw t)) = M2 := rfl
      clear_value M2
      have t36 : t / 4 < 36 := by omega
      rw [mvWat_s]
      simp (disch := omega) only [gfd_eq, glet_eq, gbind_eq, nI_ltI, nI_1, gok_nI, grd_nI, nI_clamp, if_true, if_false, Nat.lt_irrefl, e2, hlt, e3, er, e5, pk_sub, gst_nI, M2e, d4, dr, d5, nI_add, fin, i10, gokT]
      exact IH
theorem mvPool_s (a p1 : Nat) (K : Int32 → gM → Option gM) (F : Nat) (v1 : Int32) (m1 : gM) : L_Currents_movePool_2 a p1 K (F + 1) v1 m1 = (if v1 < (gfd m1 a 2) then (gok (gib v1 144) (gok (gib (grd m1 (a + 3) v1) 36) (gok (gib v1 144) (gok (gib (grd m1 (a + 3) v1) 36) (glet (gst m1 (p1 + 6) (grd m1 (a + 3) v1) ((grd m1 (p1 + 6) (grd m1 (a + 3) v1)) - (grd m1 (a + 5) v1))) fun (m2 : gM) => gok (gib v1 144) (gok (gib (grd m2 (a + 4) v1) 36) (gok (gib v1 144) (gok (gib (grd m2 (a + 4) v1) 36) (glet (gst m2 (p1 + 6) (grd m2 (a + 4) v1) ((grd m2 (p1 + 6) (grd m2 (a + 4) v1)) + (grd m2 (a + 5) v1))) fun (m3 : gM) => L_Currents_movePool_2 a p1 K F (v1 + 1) m3))))))))) else (K v1 m1)) := rfl
theorem mvPool {a p T : Nat} {b : Nat → Bool} {wt fw dd : Nat → Nat} {vt vw f3 f4 fx : Nat → Int32} {N : gN} {L : Nat → Nat → Int64} (K : Int32 → gM → Option gM) (hT : T ≤ 144) (h2 : N a 2 = nI (cnt b T)) (h3 : N (a + 3) = aR b vfF f3 T) (h4 : N (a + 4) = aR b vt f4 T) (hx : N (a + 5) = aR b vw fx T) (hv : ∀ t, t < T → b t = true → vw t = nI (fw t) ∧ vt t = nI (dd t) ∧ dd t < 36) (hn : ∀ t, b t = false → fw t = 0) (hf : ∀ c, gsum (fun s => fw (4 * c + s)) 4 ≤ wt c) (hd : p + 7 ≤ a) : ∀ (r t F : Nat), t + r = T → cnt b T < F + cnt b t → L_Currents_movePool_2 a p K F (nI (cnt b t)) (grw N (p + 6) (fun q => nI (mvW wt fw dd t q)), L) = K (nI (cnt b T)) (grw N (p + 6) (fun q => nI (mvW wt fw dd T q)), L) := by
  intro r
  induction r with
  | zero =>
    intro t F ht hF2
    have : t = T := by omega
    subst this
    obtain ⟨F, rfl⟩ : ∃ F', F = F' + 1 := ⟨F - 1, by omega⟩
    have hc := cnt_le b t
    have e2 : grw N (p + 6) (fun q => nI (mvW wt fw dd t q)) a 2 = nI (cnt b t) := by rw [grw_ne (by omega)]; exact h2
    rw [mvPool_s]
    simp (disch := omega) only [gfd_eq, glet_eq, gbind_eq, nI_ltI, nI_1, gok_nI, grd_nI, nI_clamp, if_true, if_false, Nat.lt_irrefl, e2, i10, gokT]
  | succ r ih =>
    intro t F ht hF2
    have ht' : t < T := by omega
    have hcT := cnt_le b T
    obtain ⟨k, hk⟩ : ∃ k, T = t + 1 + k := ⟨T - (t + 1), by omega⟩
    cases hb : b t with
    | false =>
      have no := (mv_none (ol := fun _ => 0) (fo := fun _ => 0) (wt := wt) (fw := fw) (dd := dd) (t := t) rfl (hn t hb)).2.2.1
      have ce : cnt b (t + 1) = cnt b t := if_neg (by rw [hb]; decide)
      have IH := ih (t + 1) F (by omega) (by omega)
      rw [no, ce] at IH
      exact IH
    | true =>
      have ce : cnt b (t + 1) = cnt b t + 1 := if_pos hb
      have cm : cnt b (t + 1) ≤ cnt b T := by rw [hk]; exact cnt_mono b k
      obtain ⟨F, rfl⟩ : ∃ F', F = F' + 1 := ⟨F - 1, by omega⟩
      have IH := ih (t + 1) F (by omega) (by omega)
      rw [ce] at IH
      obtain ⟨v1, v2, v3⟩ := hv t ht' hb
      have ok := mvW_ok (dd := dd) hf t
      have hlt : cnt b t < cnt b T := by omega
      have e2 : grw N (p + 6) (fun q => nI (mvW wt fw dd t q)) a 2 = nI (cnt b T) := by rw [grw_ne (by omega)]; exact h2
      have e3 : grw N (p + 6) (fun q => nI (mvW wt fw dd t q)) (a + 3) (cnt b t) = nI (t / 4) := by rw [grw_ne (by omega), h3, hk, aR_at b _ _ hb]; rfl
      have e5 : grw N (p + 6) (fun q => nI (mvW wt fw dd t q)) (a + 5) (cnt b t) = nI (fw t) := by rw [grw_ne (by omega), hx, hk, aR_at b _ _ hb]; exact v1
      have er : grw N (p + 6) (fun q => nI (mvW wt fw dd t q)) (p + 6) (t / 4) = nI (mvW wt fw dd t (t / 4)) := by rw [grw_eq]
      let M2 : gN := gup (grw N (p + 6) (fun q => nI (mvW wt fw dd t q))) (p + 6) (t / 4) (nI (mvW wt fw dd t (t / 4) - fw t))
      have d4 : M2 (a + 4) (cnt b t) = nI (dd t) := by
        show gup (grw N (p + 6) _) (p + 6) _ _ (a + 4) _ = _
        rw [gup_row (by omega), grw_ne (by omega), h4, hk, aR_at b _ _ hb]; exact v2
      have d5 : M2 (a + 5) (cnt b t) = nI (fw t) := by
        show gup (grw N (p + 6) _) (p + 6) _ _ (a + 5) _ = _
        rw [gup_row (by omega)]; exact e5
      have dr : M2 (p + 6) (dd t) = nI (if dd t = t / 4 then mvW wt fw dd t (dd t) - fw t else mvW wt fw dd t (dd t)) := by
        show gup (grw N (p + 6) _) (p + 6) (t / 4) _ (p + 6) (dd t) = _
        rw [gup_eq, grw_eq]
        show (if dd t = t / 4 then nI (mvW wt fw dd t (t / 4) - fw t) else nI (mvW wt fw dd t (dd t))) = _
        by_cases z : dd t = t / 4
        · rw [if_pos z, if_pos z, z]
        · rw [if_neg z, if_neg z]
      have fin : gup M2 (p + 6) (dd t) (nI ((if dd t = t / 4 then mvW wt fw dd t (dd t) - fw t else mvW wt fw dd t (dd t)) + fw t)) = grw N (p + 6) (fun q => nI (mvW wt fw dd (t + 1) q)) := by
        show gup (gup (grw N (p + 6) _) (p + 6) _ _) (p + 6) _ _ = _
        rw [gup_grw, gup_grw, grw_grw, grw_grw, grw_eq, grw_eq]
        congr 1
        funext q
        show (if q = dd t then nI ((if dd t = t / 4 then mvW wt fw dd t (dd t) - fw t else mvW wt fw dd t (dd t)) + fw t) else if q = t / 4 then nI (mvW wt fw dd t (t / 4) - fw t) else nI (mvW wt fw dd t q)) = nI (if q = dd t then (if q = t / 4 then mvW wt fw dd t q - fw t else mvW wt fw dd t q) + fw t else if q = t / 4 then mvW wt fw dd t q - fw t else mvW wt fw dd t q)
        by_cases z : q = dd t
        · rw [if_pos z, if_pos z, z]
        · rw [if_neg z, if_neg z]
          by_cases z2 : q = t / 4
          · rw [if_pos z2, if_pos z2, z2]
          · rw [if_neg z2, if_neg z2]
      have M2e : gup (grw N (p + 6) (fun q => nI (mvW wt fw dd t q))) (p + 6) (t / 4) (nI (mvW wt fw dd t (t / 4) - fw t)) = M2 := rfl
      clear_value M2
      have t36 : t / 4 < 36 := by omega
      rw [mvPool_s]
      simp (disch := omega) only [gfd_eq, glet_eq, gbind_eq, nI_ltI, nI_1, gok_nI, grd_nI, nI_clamp, if_true, if_false, Nat.lt_irrefl, e2, hlt, e3, er, e5, pk_sub, gst_nI, M2e, d4, dr, d5, nI_add, fin, i10, gokT]
      exact IH
