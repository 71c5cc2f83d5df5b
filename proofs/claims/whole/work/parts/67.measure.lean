/-! ===== all flows measured ===== -/
section MD
variable {w h p a : Nat} {sd gs wt os : Nat → Nat}
theorem cl_measureCell {N : gN} {L : Nat → Nat → Int64} {c : Nat} (A : PoolAt N p w h sd gs wt os) (O : PoolOk w h sd gs wt os) (hd : p + 7 ≤ a) (hc : c < w * h) (hb : 0 < os c + wt c) :
    f_Currents_measureCell a p (nI c) (msA N a w h sd gs wt os (4 * c), L) = some (msA N a w h sd gs wt os (4 * c + 4), lwR L (a + 2) (wnt w h sd (fun c => os c + wt c + gs c) c) 4) := by
  have h36 := O.n36
  have b1 := O.2.2 c hc
  have wb : ∀ s, 40 * wnt w h sd (fun c => os c + wt c + gs c) c s ≤ 9 * 96774 := fun s => wnt_bd w h sd (fun c => os c + wt c + gs c) O.2.1 c s b1
  have wsb : wsm w h sd (fun c => os c + wt c + gs c) c ≤ 21774 * 4 := gsum_bd (fun s _ => by have := wb s; omega)
  have L1 : ∀ k, L_Currents_measureCell_5 a p (nI c) k 1000 (Int32.toInt64 0) 0 (msA N a w h sd gs wt os (4 * c), L) = k (lN (wsm w h sd (fun c => os c + wt c + gs c) c)) (nI 4) (msA N a w h sd gs wt os (4 * c), lwR L (a + 2) (wnt w h sd (fun c => os c + wt c + gs c) c) 4) := by
    intro k
    unfold L_Currents_measureCell_5
    refine gloopS0 (fun (g : Int64 → Int32 → gM → Option gM) j (s : Int64 × gM) => g s.1 (nI j) s.2) 4 (fun j => (lN (gsum (wnt w h sd (fun c => os c + wt c + gs c) c) j), (msA N a w h sd gs wt os (4 * c), lwR L (a + 2) (wnt w h sd (fun c => os c + wt c + gs c) c) j))) _ (s0 := (Int32.toInt64 0, (msA N a w h sd gs wt os (4 * c), L))) ?_ ?_ ?_ 1000 (by omega)
    · have : lwR L (a + 2) (wnt w h sd (fun c => os c + wt c + gs c) c) 0 = L := by
        funext p q
        exact if_neg (by omega)
      show (lN 0, (msA N a w h sd gs wt os (4 * c), lwR L (a + 2) (wnt w h sd (fun c => os c + wt c + gs c) c) 0)) = _
      rw [this]
      rfl
    · intro g j hj
      have A' := msA_pool (a := a) (t := 4 * c) A hd
      have be := cl_beside (m := (msA N a w h sd gs wt os (4 * c), lwR L (a + 2) (wnt w h sd (fun c => os c + wt c + gs c) c) j)) A' hc ⟨O.1.1, O.1.2.1⟩ O.1.2.2 hj
      have wa := cl_want (s := j) (m := (msA N a w h sd gs wt os (4 * c), lwR L (a + 2) (wnt w h sd (fun c => os c + wt c + gs c) c) j)) A' O hc
      have g1 : ∀ (m : gM) (x : Int64), gstL m (a + 2) (nI j) x = (m.1, gupL m.2 (a + 2) j x) := fun m x => by unfold gstL; rw [nI_clamp (by omega)]
      have g2 : ∀ m : gM, grdL m (a + 2) (nI j) = m.2 (a + 2) j := fun m => grdL_nI m (a + 2) (by omega)
      have g3 : lwR L (a + 2) (wnt w h sd (fun c => os c + wt c + gs c) c) (j + 1) (a + 2) j = lN (wnt w h sd (fun c => os c + wt c + gs c) c j) := lwR_at _ _ _ (by omega)
      simp (disch := omega) only [gfd_eq, glet_eq, gbind_eq, nI_ltI, nI_1, gok_nI, grd_nI, nI_clamp, if_true, if_false, Nat.lt_irrefl, hj, q4, be, wa, g1, lwR_s, g2, g3, lN_add, i10, gokT]
      rfl
    · intro g
      simp (disch := omega) only [gfd_eq, glet_eq, gbind_eq, nI_ltI, nI_1, gok_nI, grd_nI, nI_clamp, if_true, if_false, Nat.lt_irrefl, q4, i10, gokT]
      rfl
  have A' := msA_pool (a := a) (t := 4 * c) A hd
  have lq := cl_liquid (m := (msA N a w h sd gs wt os (4 * c), lwR L (a + 2) (wnt w h sd (fun c => os c + wt c + gs c) c) 4)) A' hc h36
  have el : (nI (os c + wt c)).toInt64 = lN (os c + wt c) := nI_l (by omega)
  have L2 : L_Currents_measureCell_57 a p (nI c) (lN (wsm w h sd (fun c => os c + wt c + gs c) c)) (lN (os c + wt c)) 1000 0 (msA N a w h sd gs wt os (4 * c), lwR L (a + 2) (wnt w h sd (fun c => os c + wt c + gs c) c) 4) = some (msA N a w h sd gs wt os (4 * c + 4), lwR L (a + 2) (wnt w h sd (fun c => os c + wt c + gs c) c) 4) := by
    have key : ∀ (r s F : Nat), s + r = 4 → r < F → L_Currents_measureCell_57 a p (nI c) (lN (wsm w h sd (fun c => os c + wt c + gs c) c)) (lN (os c + wt c)) F (nI s) (msA N a w h sd gs wt os (4 * c + s), lwR L (a + 2) (wnt w h sd (fun c => os c + wt c + gs c) c) 4) = some (msA N a w h sd gs wt os (4 * c + 4), lwR L (a + 2) (wnt w h sd (fun c => os c + wt c + gs c) c) 4) := by
      intro r
      induction r with
      | zero =>
        intro s F hs hF
        obtain ⟨F, rfl⟩ : ∃ F', F = F' + 1 := ⟨F - 1, by omega⟩
        have : s = 4 := by omega
        subst this
        rw [L57_s]
        simp (disch := omega) only [gfd_eq, glet_eq, gbind_eq, nI_ltI, nI_1, gok_nI, grd_nI, nI_clamp, if_true, if_false, Nat.lt_irrefl, q4, i10, gokT]
      | succ r ih =>
        intro s F hs hF
        obtain ⟨F, rfl⟩ : ∃ F', F = F' + 1 := ⟨F - 1, by omega⟩
        have hs4 : s < 4 := by omega
        have IH := ih (s + 1) F (by omega) (by omega)
        have A2 := msA_pool (a := a) (t := 4 * c + s) A hd
        have be := cl_beside (m := (msA N a w h sd gs wt os (4 * c + s), lwR L (a + 2) (wnt w h sd (fun c => os c + wt c + gs c) c) 4)) A2 hc ⟨O.1.1, O.1.2.1⟩ O.1.2.2 hs4
        have g2 : ∀ m : gM, grdL m (a + 2) (nI s) = m.2 (a + 2) s := fun m => grdL_nI m (a + 2) (by omega)
        have g3 : lwR L (a + 2) (wnt w h sd (fun c => os c + wt c + gs c) c) 4 (a + 2) s = lN (wnt w h sd (fun c => os c + wt c + gs c) c s) := lwR_at _ _ _ hs4
        have wbs := wb s
        have ac : acb w h sd (fun c => os c + wt c + gs c) os wt (4 * c + s) = decide (0 < wnt w h sd (fun c => os c + wt c + gs c) c s) := by
          unfold acb
          rw [show (4 * c + s) / 4 = c by omega, show (4 * c + s) % 4 = s by omega, decide_eq_true hb, Bool.true_and]
        have e0 : (0 < lg_cmp (lN (wnt w h sd (fun c => os c + wt c + gs c) c s)) (Int32.toInt64 0)) ↔ 0 < wnt w h sd (fun c => os c + wt c + gs c) c s := (lg_cmp_gt _ _).trans (lN_lt (a := 0) (by decide) (by omega))
        have e1 : (0 < lg_cmp (lN (wsm w h sd (fun c => os c + wt c + gs c) c)) (lN (os c + wt c))) ↔ os c + wt c < wsm w h sd (fun c => os c + wt c + gs c) c := (lg_cmp_gt _ _).trans (lN_lt (by omega) (by omega))
        have e2 : (0 < lg_cmp (lN (wsm w h sd (fun c => os c + wt c + gs c) c)) (Int32.toInt64 0)) ↔ 0 < wsm w h sd (fun c => os c + wt c + gs c) c := (lg_cmp_gt _ _).trans (lN_lt (a := 0) (by decide) (by omega))
        rw [L57_s]
        by_cases z : 0 < wnt w h sd (fun c => os c + wt c + gs c) c s
        · rw [decide_eq_true z] at ac
          have ad := cl_add (N := N) (L := lwR L (a + 2) (wnt w h sd (fun c => os c + wt c + gs c) c) 4) A O hd hc hs4 ac
          have gz : gos w h sd (fun c => os c + wt c + gs c) os wt c s = if os c + wt c < wsm w h sd (fun c => os c + wt c + gs c) c then wnt w h sd (fun c => os c + wt c + gs c) c s * (os c + wt c) / wsm w h sd (fun c => os c + wt c + gs c) c else wnt w h sd (fun c => os c + wt c + gs c) c s := rfl
          by_cases y : os c + wt c < wsm w h sd (fun c => os c + wt c + gs c) c
          · have y0 : 0 < wsm w h sd (fun c => os c + wt c + gs c) c := by omega
            rw [if_pos y] at gz
            have hm : wnt w h sd (fun c => os c + wt c + gs c) c s * (os c + wt c) ≤ 21774 * 96774 := Nat.mul_le_mul (by omega) (by omega)
            have dv : lN (wnt w h sd (fun c => os c + wt c + gs c) c s) * lN (os c + wt c) / lN (wsm w h sd (fun c => os c + wt c + gs c) c) = lN (gos w h sd (fun c => os c + wt c + gs c) os wt c s) := by
              rw [gz, lN_mul, pk_lDiv (by omega) y0 (by omega)]
            have nz : ∀ o : Option gM, gnzL (lN (wsm w h sd (fun c => os c + wt c + gs c) c)) o = o := fun o => if_neg (fun e => by
              have := (lN_eq (b := 0) (by omega) (by decide)).mp e
              omega)
            unfold J_Currents_measureCell_110 J_Currents_measureCell_127
            simp (disch := omega) only [gfd_eq, glet_eq, gbind_eq, nI_ltI, nI_1, gok_nI, grd_nI, nI_clamp, if_true, if_false, Nat.lt_irrefl, hs4, q4, g2, g3, e0, z, e1, y, e2, y0, nz, dv, be, ad, i10, gokT]
            exact IH
          · rw [if_neg y] at gz
            rw [gz] at ad
            unfold J_Currents_measureCell_103 J_Currents_measureCell_110 J_Currents_measureCell_127
            simp (disch := omega) only [gfd_eq, glet_eq, gbind_eq, nI_ltI, nI_1, gok_nI, grd_nI, nI_clamp, if_true, if_false, Nat.lt_irrefl, hs4, q4, g2, g3, e0, z, e1, y, be, ad, i10, gokT]
            exact IH
        · rw [decide_eq_false z] at ac
          have no : msA N a w h sd gs wt os (4 * c + s + 1) = msA N a w h sd gs wt os (4 * c + s) := msN_no ac
          have IH : L_Currents_measureCell_57 a p (nI c) (lN (wsm w h sd (fun c => os c + wt c + gs c) c)) (lN (os c + wt c)) F (nI (s + 1)) (msA N a w h sd gs wt os (4 * c + s + 1), lwR L (a + 2) (wnt w h sd (fun c => os c + wt c + gs c) c) 4) = _ := IH
          rw [no] at IH
          unfold J_Currents_measureCell_127
          simp (disch := omega) only [gfd_eq, glet_eq, gbind_eq, nI_ltI, nI_1, gok_nI, grd_nI, nI_clamp, if_true, if_false, Nat.lt_irrefl, hs4, q4, g2, g3, e0, z, i10, gokT]
          exact IH
    exact key 4 0 1000 (by omega) (by omega)
  unfold f_Currents_measureCell J_Currents_measureCell_46
  simp (disch := omega) only [gfd_eq, glet_eq, gbind_eq, nI_ltI, nI_1, gok_nI, grd_nI, nI_clamp, if_true, if_false, Nat.lt_irrefl, L1, lq, el, L2, i10, gokT]
theorem L7_s (a p1 : Nat) (F : Nat) (v1 : Int32) (m2 : gM) : L_Currents_measure_7 a p1 (F + 1) v1 m2 = (if v1 < (gfd m2 p1 2) then ((f_Pool_liquid p1 v1 m2).bind fun (r1 : Int32 × gM) => if 0 < r1.1 then ((f_Currents_measureCell a p1 v1 r1.2).bind fun (r2 : gM) => J_Currents_measure_29 (L_Currents_measure_7 a p1 F) v1 r2) else (J_Currents_measure_29 (L_Currents_measure_7 a p1 F) v1 r1.2)) else (some m2)) := rfl
theorem cl_measure {m : gM} (A : PoolAt m.1 p w h sd gs wt os) (O : PoolOk w h sd gs wt os) (hd : p + 7 ≤ a) : ∃ L', f_Currents_measure a p m = some (msA m.1 a w h sd gs wt os (4 * (w * h)), L') := by
  have h36 := O.n36
  have key : ∀ (r c : Nat) (L : Nat → Nat → Int64), c + r = w * h → ∃ L', ∀ F, r < F → L_Currents_measure_7 a p F (nI c) (msA m.1 a w h sd gs wt os (4 * c), L) = some (msA m.1 a w h sd gs wt os (4 * (w * h)), L') := by
    intro r
    induction r with
    | zero =>
      intro c L hc
      refine ⟨L, fun F hF => ?_⟩
      obtain ⟨F, rfl⟩ : ∃ F', F = F' + 1 := ⟨F - 1, by omega⟩
      have A' := msA_pool (a := a) (t := 4 * c) A hd
      have e : c = w * h := by omega
      have sz := A'.1.2.2
      rw [L7_s]
      simp (disch := omega) only [gfd_eq, glet_eq, gbind_eq, nI_ltI, nI_1, gok_nI, grd_nI, nI_clamp, if_true, if_false, Nat.lt_irrefl, sz, i10, gokT]
      rw [if_neg (by omega), e]
    | succ r ih =>
      intro c L hc
      have hcn : c < w * h := by omega
      have A' := msA_pool (a := a) (t := 4 * c) A hd
      have sz := A'.1.2.2
      have lq := cl_liquid (m := (msA m.1 a w h sd gs wt os (4 * c), L)) A' hcn h36
      have b1 := O.2.2 c hcn
      have e0 : (0 < nI (os c + wt c)) ↔ 0 < os c + wt c := lt0_nI (by omega)
      by_cases z : 0 < os c + wt c
      · have mc := cl_measureCell (N := m.1) (L := L) A O hd hcn z
        obtain ⟨L', IH⟩ := ih (c + 1) (lwR L (a + 2) (wnt w h sd (fun c => os c + wt c + gs c) c) 4) (by omega)
        refine ⟨L', fun F hF => ?_⟩
        obtain ⟨F, rfl⟩ : ∃ F', F = F' + 1 := ⟨F - 1, by omega⟩
        have IH := IH F (by omega)
        rw [show 4 * (c + 1) = 4 * c + 4 by omega] at IH
        rw [L7_s]
        unfold J_Currents_measure_29
        simp (disch := omega) only [gfd_eq, glet_eq, gbind_eq, nI_ltI, nI_1, gok_nI, grd_nI, nI_clamp, if_true, if_false, Nat.lt_irrefl, sz, hcn, lq, e0, z, mc, i10, gokT]
        exact IH
      · obtain ⟨L', IH⟩ := ih (c + 1) L (by omega)
        refine ⟨L', fun F hF => ?_⟩
        obtain ⟨F, rfl⟩ : ∃ F', F = F' + 1 := ⟨F - 1, by omega⟩
        have IH := IH F (by omega)
        have no : ∀ s, s < 4 → acb w h sd (fun c => os c + wt c + gs c) os wt (4 * c + s) = false := by
          intro s hs
          unfold acb
          rw [show (4 * c + s) / 4 = c by omega, decide_eq_false z, Bool.false_and]
        have e4 : msA m.1 a w h sd gs wt os (4 * (c + 1)) = msA m.1 a w h sd gs wt os (4 * c) := by
          rw [show 4 * (c + 1) = 4 * c + 3 + 1 by omega]
          unfold msA
          rw [msN_no (no 3 (by omega)), show 4 * c + 3 = 4 * c + 2 + 1 by omega, msN_no (no 2 (by omega)), show 4 * c + 2 = 4 * c + 1 + 1 by omega, msN_no (no 1 (by omega)), msN_no (no 0 (by omega))]
          rfl
        rw [e4] at IH
        rw [L7_s]
        unfold J_Currents_measure_29
        simp (disch := omega) only [gfd_eq, glet_eq, gbind_eq, nI_ltI, nI_1, gok_nI, grd_nI, nI_clamp, if_true, if_false, Nat.lt_irrefl, sz, hcn, lq, e0, z, i10, gokT]
        exact IH
  obtain ⟨L', K⟩ := key (w * h) 0 m.2 (by omega)
  refine ⟨L', ?_⟩
  have K := K 1000 (by omega)
  have e0 : msA m.1 a w h sd gs wt os (4 * 0) = gup m.1 a 2 0 := by
    funext q
    unfold msA msN
    by_cases z : q = a
    · subst z
      rw [if_neg (by omega), if_neg (by omega), if_neg (by omega), if_neg (by omega), if_pos rfl, gup_eq]
      rfl
    · rw [gup_ne z]
      by_cases z3 : q = a + 3
      · rw [if_pos z3, z3]; rfl
      · rw [if_neg z3]
        by_cases z4 : q = a + 4
        · rw [if_pos z4, z4]; rfl
        · rw [if_neg z4]
          by_cases z5 : q = a + 5
          · rw [if_pos z5, z5]; rfl
          · rw [if_neg z5]
            by_cases z6 : q = a + 6
            · rw [if_pos z6, z6]; rfl
            · rw [if_neg z6, if_neg z]
  rw [e0] at K
  unfold f_Currents_measure
  rw [glet_eq, gsf_eq]
  exact K
end MD
