/-! ===== the methods' runs follow the pure functions (by program) ===== -/
abbrev gcx_222 : gC := glook (gco_222_0 ++ (gco_222_1 ++ (gco_222_2)))
set_option maxRecDepth 100000 in
set_option maxHeartbeats 4000000 in
theorem t_MO_turnPapers {d : Nat} (hd : 2 ≤ d) {sh : gH}  (h0 : gHas sh.1 81 gsh_MO) {m : gM} : ∀ x, f_MO_turnPapers  m = some x → gR gmi gdf gcd d 222 [.ref 81] (sh, m) ((grv x).1, (sh, (grv x).2)) := by
  obtain ⟨d, rfl⟩ : ∃ e, d = e + 1 := ⟨d - 1, by omega⟩
  refine gR_of (mx := 2) (code := gcx_222) rfl rfl (Nat.le_of_ble_eq_true rfl) ?_
  have hJ_272 : ∀ (v1 : Int32) (m1 : gM), gEx d gcx_222 sh grv 272 [some (.ref 81), some (.int v1)] [] m1 (J_MO_turnPapers_272 v1 m1) := by
    intro v1 m1
    unfold J_MO_turnPapers_272
    refine gEx.iconst rfl rfl ?_
    refine gEx.istore (ls' := [some (.ref 81), some (.int 0)]) rfl rfl rfl ?_
    have hL_274 : ∀ (n : Nat) (v2 : Int32) (m2 : gM), gEx d gcx_222 sh grv 274 [some (.ref 81), some (.int v2)] [] m2 (L_MO_turnPapers_274 n v2 m2) := by
      refine gfix_ind (P := fun (f : Int32 → gM → Option (gM)) => ∀ (v2 : Int32) (m2 : gM), gEx d gcx_222 sh grv 274 [some (.ref 81), some (.int v2)] [] m2 (f v2 m2)) (fun _ _ => gEx.none) (fun rec_274 hrec_274 => ?_)
      intro v2 m2
      refine gEx.iload rfl rfl rfl ?_
      refine gEx.iconst rfl rfl ?_
      refine gEx.icmp_ge (tn := 303) rfl rfl rfl ?_ ?_
      · refine gEx.aload rfl rfl rfl ?_
        refine gEx.getR rfl rfl (h0 0 _ rfl) rfl ?_
        refine gEx.iload rfl rfl rfl ?_
        refine gEx.aload rfl rfl rfl ?_
        refine gEx.aload rfl rfl rfl ?_
        refine gEx.getR rfl rfl (h0 0 _ rfl) rfl ?_
        refine gEx.iload rfl rfl rfl ?_
        refine gEx.iald rfl rfl (h0 18 _ rfl) ?_
        refine gEx.callVi rfl rfl rfl rfl (h0 0 _ rfl) rfl (fun _ h => (t_MO_turn (by omega) h0) _ h) (fun r1 => ?_)
        refine gEx.iast rfl rfl (h0 18 _ rfl) (fun m3 => ?_)
        refine gEx.iinc (ls' := [some (.ref 81), some (.int (v2 + 1))]) rfl rfl rfl rfl ?_
        refine gEx.goto (tn := 274) rfl rfl rfl ?_
        exact gEx.lab rfl rfl (hrec_274 (v2 + 1) m3)
      · exact gEx.retv rfl rfl
    exact gEx.lab rfl rfl (hL_274 1000 0 m1)
  have hJ_242 : ∀ (v3 : Int32) (m4 : gM), gEx d gcx_222 sh grv 242 [some (.ref 81), some (.int v3)] [] m4 (J_MO_turnPapers_242 v3 m4) := by
    intro v3 m4
    unfold J_MO_turnPapers_242
    refine gEx.iconst rfl rfl ?_
    refine gEx.istore (ls' := [some (.ref 81), some (.int 0)]) rfl rfl rfl ?_
    have hL_244 : ∀ (n : Nat) (v4 : Int32) (m5 : gM), gEx d gcx_222 sh grv 244 [some (.ref 81), some (.int v4)] [] m5 (L_MO_turnPapers_244 (fun v4 m5 => J_MO_turnPapers_272 v4 m5) n v4 m5) := by
      refine gfix_ind (P := fun (f : Int32 → gM → Option (gM)) => ∀ (v4 : Int32) (m5 : gM), gEx d gcx_222 sh grv 244 [some (.ref 81), some (.int v4)] [] m5 (f v4 m5)) (fun _ _ => gEx.none) (fun rec_244 hrec_244 => ?_)
      intro v4 m5
      refine gEx.iload rfl rfl rfl ?_
      refine gEx.iconst rfl rfl ?_
      refine gEx.icmp_ge (tn := 272) rfl rfl rfl ?_ ?_
      · refine gEx.aload rfl rfl rfl ?_
        refine gEx.getR rfl rfl (h0 0 _ rfl) rfl ?_
        refine gEx.iload rfl rfl rfl ?_
        refine gEx.aload rfl rfl rfl ?_
        refine gEx.aload rfl rfl rfl ?_
        refine gEx.getR rfl rfl (h0 0 _ rfl) rfl ?_
        refine gEx.iload rfl rfl rfl ?_
        refine gEx.iald rfl rfl (h0 17 _ rfl) ?_
        refine gEx.callVi rfl rfl rfl rfl (h0 0 _ rfl) rfl (fun _ h => (t_MO_turn (by omega) h0) _ h) (fun r2 => ?_)
        refine gEx.iast rfl rfl (h0 17 _ rfl) (fun m6 => ?_)
        refine gEx.iinc (ls' := [some (.ref 81), some (.int (v4 + 1))]) rfl rfl rfl rfl ?_
        refine gEx.goto (tn := 244) rfl rfl rfl ?_
        exact gEx.lab rfl rfl (hrec_244 (v4 + 1) m6)
      · exact gEx.lab rfl rfl (hJ_272 v4 m5)
    exact gEx.lab rfl rfl (hL_244 1000 0 m4)
  have hJ_120 : ∀ (v5 : Int32) (m7 : gM), gEx d gcx_222 sh grv 120 [some (.ref 81), some (.int v5)] [] m7 (J_MO_turnPapers_120 v5 m7) := by
    intro v5 m7
    unfold J_MO_turnPapers_120
    refine gEx.aload rfl rfl rfl ?_
    refine gEx.aload rfl rfl rfl ?_
    refine gEx.aload rfl rfl rfl ?_
    refine gEx.getI rfl rfl (h0 0 _ rfl) rfl ?_
    refine gEx.callVi rfl rfl rfl rfl (h0 0 _ rfl) rfl (fun _ h => (t_MO_turn (by omega) h0) _ h) (fun r3 => ?_)
    refine gEx.putI rfl rfl (h0 0 _ rfl) rfl rfl rfl (fun m8 => ?_)
    refine gEx.iconst rfl rfl ?_
    refine gEx.istore (ls' := [some (.ref 81), some (.int 0)]) rfl rfl rfl ?_
    have hL_134 : ∀ (n : Nat) (v6 : Int32) (m9 : gM), gEx d gcx_222 sh grv 134 [some (.ref 81), some (.int v6)] [] m9 (L_MO_turnPapers_134 (fun v6 m9 => J_MO_turnPapers_242 v6 m9) n v6 m9) := by
      refine gfix_ind (P := fun (f : Int32 → gM → Option (gM)) => ∀ (v6 : Int32) (m9 : gM), gEx d gcx_222 sh grv 134 [some (.ref 81), some (.int v6)] [] m9 (f v6 m9)) (fun _ _ => gEx.none) (fun rec_134 hrec_134 => ?_)
      intro v6 m9
      refine gEx.iload rfl rfl rfl ?_
      refine gEx.iconst rfl rfl ?_
      refine gEx.icmp_ge (tn := 242) rfl rfl rfl ?_ ?_
      · refine gEx.aload rfl rfl rfl ?_
        refine gEx.getR rfl rfl (h0 0 _ rfl) rfl ?_
        refine gEx.iload rfl rfl rfl ?_
        refine gEx.aload rfl rfl rfl ?_
        refine gEx.aload rfl rfl rfl ?_
        refine gEx.getR rfl rfl (h0 0 _ rfl) rfl ?_
        refine gEx.iload rfl rfl rfl ?_
        refine gEx.iald rfl rfl (h0 11 _ rfl) ?_
        refine gEx.callVi rfl rfl rfl rfl (h0 0 _ rfl) rfl (fun _ h => (t_MO_turn (by omega) h0) _ h) (fun r4 => ?_)
        refine gEx.iast rfl rfl (h0 11 _ rfl) (fun m10 => ?_)
        refine gEx.aload rfl rfl rfl ?_
        refine gEx.getR rfl rfl (h0 0 _ rfl) rfl ?_
        refine gEx.iload rfl rfl rfl ?_
        refine gEx.aload rfl rfl rfl ?_
        refine gEx.aload rfl rfl rfl ?_
        refine gEx.getR rfl rfl (h0 0 _ rfl) rfl ?_
        refine gEx.iload rfl rfl rfl ?_
        refine gEx.iald rfl rfl (h0 12 _ rfl) ?_
        refine gEx.callVi rfl rfl rfl rfl (h0 0 _ rfl) rfl (fun _ h => (t_MO_turn (by omega) h0) _ h) (fun r5 => ?_)
        refine gEx.iast rfl rfl (h0 12 _ rfl) (fun m11 => ?_)
        refine gEx.aload rfl rfl rfl ?_
        refine gEx.getR rfl rfl (h0 0 _ rfl) rfl ?_
        refine gEx.iload rfl rfl rfl ?_
        refine gEx.aload rfl rfl rfl ?_
        refine gEx.aload rfl rfl rfl ?_
        refine gEx.getR rfl rfl (h0 0 _ rfl) rfl ?_
        refine gEx.iload rfl rfl rfl ?_
        refine gEx.iald rfl rfl (h0 13 _ rfl) ?_
        refine gEx.callVi rfl rfl rfl rfl (h0 0 _ rfl) rfl (fun _ h => (t_MO_turn (by omega) h0) _ h) (fun r6 => ?_)
        refine gEx.iast rfl rfl (h0 13 _ rfl) (fun m12 => ?_)
        refine gEx.aload rfl rfl rfl ?_
        refine gEx.getR rfl rfl (h0 0 _ rfl) rfl ?_
        refine gEx.iload rfl rfl rfl ?_
        refine gEx.aload rfl rfl rfl ?_
        refine gEx.aload rfl rfl rfl ?_
        refine gEx.getR rfl rfl (h0 0 _ rfl) rfl ?_
        refine gEx.iload rfl rfl rfl ?_
        refine gEx.iald rfl rfl (h0 14 _ rfl) ?_
        refine gEx.callVi rfl rfl rfl rfl (h0 0 _ rfl) rfl (fun _ h => (t_MO_turn (by omega) h0) _ h) (fun r7 => ?_)
        refine gEx.iast rfl rfl (h0 14 _ rfl) (fun m13 => ?_)
        refine gEx.aload rfl rfl rfl ?_
        refine gEx.getR rfl rfl (h0 0 _ rfl) rfl ?_
        refine gEx.iload rfl rfl rfl ?_
        refine gEx.aload rfl rfl rfl ?_
        refine gEx.aload rfl rfl rfl ?_
        refine gEx.getR rfl rfl (h0 0 _ rfl) rfl ?_
        refine gEx.iload rfl rfl rfl ?_
        refine gEx.iald rfl rfl (h0 15 _ rfl) ?_
        refine gEx.callVi rfl rfl rfl rfl (h0 0 _ rfl) rfl (fun _ h => (t_MO_turn (by omega) h0) _ h) (fun r8 => ?_)
        refine gEx.iast rfl rfl (h0 15 _ rfl) (fun m14 => ?_)
        refine gEx.aload rfl rfl rfl ?_
        refine gEx.getR rfl rfl (h0 0 _ rfl) rfl ?_
        refine gEx.iload rfl rfl rfl ?_
        refine gEx.aload rfl rfl rfl ?_
        refine gEx.aload rfl rfl rfl ?_
        refine gEx.getR rfl rfl (h0 0 _ rfl) rfl ?_
        refine gEx.iload rfl rfl rfl ?_
        refine gEx.iald rfl rfl (h0 16 _ rfl) ?_
        refine gEx.callVi rfl rfl rfl rfl (h0 0 _ rfl) rfl (fun _ h => (t_MO_turn (by omega) h0) _ h) (fun r9 => ?_)
        refine gEx.iast rfl rfl (h0 16 _ rfl) (fun m15 => ?_)
        refine gEx.iinc (ls' := [some (.ref 81), some (.int (v6 + 1))]) rfl rfl rfl rfl ?_
        refine gEx.goto (tn := 134) rfl rfl rfl ?_
        exact gEx.lab rfl rfl (hrec_134 (v6 + 1) m15)
      · exact gEx.lab rfl rfl (hJ_242 v6 m9)
    exact gEx.lab rfl rfl (hL_134 1000 0 m8)
  have hJ_30 : ∀ (v7 : Int32) (m16 : gM), gEx d gcx_222 sh grv 30 [some (.ref 81), some (.int v7)] [] m16 (J_MO_turnPapers_30 v7 m16) := by
    intro v7 m16
    unfold J_MO_turnPapers_30
    refine gEx.aload rfl rfl rfl ?_
    refine gEx.aload rfl rfl rfl ?_
    refine gEx.aload rfl rfl rfl ?_
    refine gEx.getI rfl rfl (h0 0 _ rfl) rfl ?_
    refine gEx.callVi rfl rfl rfl rfl (h0 0 _ rfl) rfl (fun _ h => (t_MO_turn (by omega) h0) _ h) (fun r10 => ?_)
    refine gEx.putI rfl rfl (h0 0 _ rfl) rfl rfl rfl (fun m17 => ?_)
    refine gEx.iconst rfl rfl ?_
    refine gEx.istore (ls' := [some (.ref 81), some (.int 0)]) rfl rfl rfl ?_
    have hL_44 : ∀ (n : Nat) (v8 : Int32) (m18 : gM), gEx d gcx_222 sh grv 44 [some (.ref 81), some (.int v8)] [] m18 (L_MO_turnPapers_44 (fun v8 m18 => J_MO_turnPapers_120 v8 m18) n v8 m18) := by
      refine gfix_ind (P := fun (f : Int32 → gM → Option (gM)) => ∀ (v8 : Int32) (m18 : gM), gEx d gcx_222 sh grv 44 [some (.ref 81), some (.int v8)] [] m18 (f v8 m18)) (fun _ _ => gEx.none) (fun rec_44 hrec_44 => ?_)
      intro v8 m18
      refine gEx.iload rfl rfl rfl ?_
      refine gEx.iconst rfl rfl ?_
      refine gEx.icmp_ge (tn := 120) rfl rfl rfl ?_ ?_
      · refine gEx.aload rfl rfl rfl ?_
        refine gEx.getR rfl rfl (h0 0 _ rfl) rfl ?_
        refine gEx.iload rfl rfl rfl ?_
        refine gEx.aload rfl rfl rfl ?_
        refine gEx.aload rfl rfl rfl ?_
        refine gEx.getR rfl rfl (h0 0 _ rfl) rfl ?_
        refine gEx.iload rfl rfl rfl ?_
        refine gEx.iald rfl rfl (h0 7 _ rfl) ?_
        refine gEx.callVi rfl rfl rfl rfl (h0 0 _ rfl) rfl (fun _ h => (t_MO_turn (by omega) h0) _ h) (fun r11 => ?_)
        refine gEx.iast rfl rfl (h0 7 _ rfl) (fun m19 => ?_)
        refine gEx.aload rfl rfl rfl ?_
        refine gEx.getR rfl rfl (h0 0 _ rfl) rfl ?_
        refine gEx.iload rfl rfl rfl ?_
        refine gEx.aload rfl rfl rfl ?_
        refine gEx.aload rfl rfl rfl ?_
        refine gEx.getR rfl rfl (h0 0 _ rfl) rfl ?_
        refine gEx.iload rfl rfl rfl ?_
        refine gEx.iald rfl rfl (h0 8 _ rfl) ?_
        refine gEx.callVi rfl rfl rfl rfl (h0 0 _ rfl) rfl (fun _ h => (t_MO_turn (by omega) h0) _ h) (fun r12 => ?_)
        refine gEx.iast rfl rfl (h0 8 _ rfl) (fun m20 => ?_)
        refine gEx.aload rfl rfl rfl ?_
        refine gEx.getR rfl rfl (h0 0 _ rfl) rfl ?_
        refine gEx.iload rfl rfl rfl ?_
        refine gEx.aload rfl rfl rfl ?_
        refine gEx.aload rfl rfl rfl ?_
        refine gEx.getR rfl rfl (h0 0 _ rfl) rfl ?_
        refine gEx.iload rfl rfl rfl ?_
        refine gEx.iald rfl rfl (h0 9 _ rfl) ?_
        refine gEx.callVi rfl rfl rfl rfl (h0 0 _ rfl) rfl (fun _ h => (t_MO_turn (by omega) h0) _ h) (fun r13 => ?_)
        refine gEx.iast rfl rfl (h0 9 _ rfl) (fun m21 => ?_)
        refine gEx.aload rfl rfl rfl ?_
        refine gEx.getR rfl rfl (h0 0 _ rfl) rfl ?_
        refine gEx.iload rfl rfl rfl ?_
        refine gEx.aload rfl rfl rfl ?_
        refine gEx.aload rfl rfl rfl ?_
        refine gEx.getR rfl rfl (h0 0 _ rfl) rfl ?_
        refine gEx.iload rfl rfl rfl ?_
        refine gEx.iald rfl rfl (h0 10 _ rfl) ?_
        refine gEx.callVi rfl rfl rfl rfl (h0 0 _ rfl) rfl (fun _ h => (t_MO_turn (by omega) h0) _ h) (fun r14 => ?_)
        refine gEx.iast rfl rfl (h0 10 _ rfl) (fun m22 => ?_)
        refine gEx.iinc (ls' := [some (.ref 81), some (.int (v8 + 1))]) rfl rfl rfl rfl ?_
        refine gEx.goto (tn := 44) rfl rfl rfl ?_
        exact gEx.lab rfl rfl (hrec_44 (v8 + 1) m22)
      · exact gEx.lab rfl rfl (hJ_120 v8 m18)
    exact gEx.lab rfl rfl (hL_44 1000 0 m17)
  show gEx d gcx_222 sh grv 0 [some (.ref 81), none] [] m (f_MO_turnPapers  m)
  unfold f_MO_turnPapers
  refine gEx.iconst rfl rfl ?_
  refine gEx.istore (ls' := [some (.ref 81), some (.int 0)]) rfl rfl rfl ?_
  have hL_2 : ∀ (n : Nat) (v9 : Int32) (m23 : gM), gEx d gcx_222 sh grv 2 [some (.ref 81), some (.int v9)] [] m23 (L_MO_turnPapers_2 (fun v9 m23 => J_MO_turnPapers_30 v9 m23) n v9 m23) := by
    refine gfix_ind (P := fun (f : Int32 → gM → Option (gM)) => ∀ (v9 : Int32) (m23 : gM), gEx d gcx_222 sh grv 2 [some (.ref 81), some (.int v9)] [] m23 (f v9 m23)) (fun _ _ => gEx.none) (fun rec_2 hrec_2 => ?_)
    intro v9 m23
    refine gEx.iload rfl rfl rfl ?_
    refine gEx.iconst rfl rfl ?_
    refine gEx.icmp_ge (tn := 30) rfl rfl rfl ?_ ?_
    · refine gEx.aload rfl rfl rfl ?_
      refine gEx.getR rfl rfl (h0 0 _ rfl) rfl ?_
      refine gEx.iload rfl rfl rfl ?_
      refine gEx.aload rfl rfl rfl ?_
      refine gEx.aload rfl rfl rfl ?_
      refine gEx.getR rfl rfl (h0 0 _ rfl) rfl ?_
      refine gEx.iload rfl rfl rfl ?_
      refine gEx.iald rfl rfl (h0 6 _ rfl) ?_
      refine gEx.callVi rfl rfl rfl rfl (h0 0 _ rfl) rfl (fun _ h => (t_MO_turn (by omega) h0) _ h) (fun r15 => ?_)
      refine gEx.iast rfl rfl (h0 6 _ rfl) (fun m24 => ?_)
      refine gEx.iinc (ls' := [some (.ref 81), some (.int (v9 + 1))]) rfl rfl rfl rfl ?_
      refine gEx.goto (tn := 2) rfl rfl rfl ?_
      exact gEx.lab rfl rfl (hrec_2 (v9 + 1) m24)
    · exact gEx.lab rfl rfl (hJ_30 v9 m23)
  exact gEx.lab rfl rfl (hL_2 1000 0 m)
abbrev gcx_223 : gC := glook (gco_223_0)
set_option maxRecDepth 100000 in
set_option maxHeartbeats 4000000 in
theorem t_MO_turnPage {d : Nat} (hd : 3 ≤ d) {sh : gH} {x1 : Int32} {x2 : Int32} (h0 : gHas sh.1 81 gsh_MO) {m : gM} : ∀ x, f_MO_turnPage x1 x2 m = some x → gR gmi gdf gcd d 223 [.ref 81, .int x1, .int x2] (sh, m) ((grv x).1, (sh, (grv x).2)) := by
  obtain ⟨d, rfl⟩ : ∃ e, d = e + 1 := ⟨d - 1, by omega⟩
  refine gR_of (mx := 3) (code := gcx_223) rfl rfl (Nat.le_of_ble_eq_true rfl) ?_
  show gEx d gcx_223 sh grv 0 [some (.ref 81), some (.int x1), some (.int x2)] [] m (f_MO_turnPage x1 x2 m)
  unfold f_MO_turnPage
  refine gEx.aload rfl rfl rfl ?_
  refine gEx.iconst rfl rfl ?_
  refine gEx.iload rfl rfl rfl ?_
  refine gEx.imul rfl rfl ?_
  refine gEx.putI rfl rfl (h0 0 _ rfl) rfl rfl rfl (fun m1 => ?_)
  refine gEx.aload rfl rfl rfl ?_
  refine gEx.iload rfl rfl rfl ?_
  refine gEx.putZ rfl rfl (h0 0 _ rfl) rfl rfl (fun m2 => ?_)
  refine gEx.aload rfl rfl rfl ?_
  refine gEx.callVv rfl rfl rfl rfl (h0 0 _ rfl) rfl (fun _ h => (t_MO_turnLand (by omega) h0) _ h) (fun r1 => ?_)
  refine gEx.aload rfl rfl rfl ?_
  refine gEx.callVv rfl rfl rfl rfl (h0 0 _ rfl) rfl (fun _ h => (t_MO_turnPapers (by omega) h0) _ h) (fun r2 => ?_)
  exact gEx.retv rfl rfl
abbrev gcx_224 : gC := glook (gco_224_0)
set_option maxRecDepth 100000 in
set_option maxHeartbeats 4000000 in
theorem t_MO_keep {d : Nat} (hd : 4 ≤ d) {sh : gH}  (h0 : gHas sh.1 81 gsh_MO) {m : gM} : ∀ x, f_MO_keep  m = some x → gR gmi gdf gcd d 224 [.ref 81] (sh, m) ((gri x).1, (sh, (gri x).2)) := by
  obtain ⟨d, rfl⟩ : ∃ e, d = e + 1 := ⟨d - 1, by omega⟩
  refine gR_of (mx := 1) (code := gcx_224) rfl rfl (Nat.le_of_ble_eq_true rfl) ?_
  show gEx d gcx_224 sh gri 0 [some (.ref 81)] [] m (f_MO_keep  m)
  unfold f_MO_keep
  refine gEx.aload rfl rfl rfl ?_
  refine gEx.getI rfl rfl (h0 0 _ rfl) rfl ?_
  refine gEx.iconst rfl rfl ?_
  refine gEx.icmp_ne (tn := 11) rfl rfl rfl ?_ ?_
  · refine gEx.iconst rfl rfl ?_
    exact gEx.reti rfl rfl
  · refine gEx.aload rfl rfl rfl ?_
    refine gEx.aload rfl rfl rfl ?_
    refine gEx.getI rfl rfl (h0 0 _ rfl) rfl ?_
    refine gEx.iconst rfl rfl ?_
    refine gEx.callVv rfl rfl rfl rfl (h0 0 _ rfl) rfl (fun _ h => (t_MO_turnPage (by omega) h0) _ h) (fun r1 => ?_)
    refine gEx.aload rfl rfl rfl ?_
    refine gEx.dupR rfl rfl ?_
    refine gEx.getI rfl rfl (h0 0 _ rfl) rfl ?_
    refine gEx.iconst rfl rfl ?_
    refine gEx.iadd rfl rfl ?_
    refine gEx.putI rfl rfl (h0 0 _ rfl) rfl rfl rfl (fun m1 => ?_)
    refine gEx.aload rfl rfl rfl ?_
    refine gEx.getI rfl rfl (h0 0 _ rfl) rfl ?_
    refine gEx.iconst rfl rfl ?_
    refine gEx.isub rfl rfl ?_
    exact gEx.reti rfl rfl
abbrev gcx_225 : gC := glook (gco_225_0)
set_option maxRecDepth 100000 in
set_option maxHeartbeats 4000000 in
theorem t_MO_stand {d : Nat} (hd : 4 ≤ d) {sh : gH} {x1 : Int32} (h0 : gHas sh.1 81 gsh_MO) {m : gM} : ∀ x, f_MO_stand x1 m = some x → gR gmi gdf gcd d 225 [.ref 81, .int x1] (sh, m) ((gri x).1, (sh, (gri x).2)) := by
  obtain ⟨d, rfl⟩ : ∃ e, d = e + 1 := ⟨d - 1, by omega⟩
  refine gR_of (mx := 2) (code := gcx_225) rfl rfl (Nat.le_of_ble_eq_true rfl) ?_
  show gEx d gcx_225 sh gri 0 [some (.ref 81), some (.int x1)] [] m (f_MO_stand x1 m)
  unfold f_MO_stand
  refine gEx.iload rfl rfl rfl ?_
  refine gEx.i2l rfl rfl ?_
  refine gEx.lconst rfl rfl ?_
  refine gEx.aload rfl rfl rfl ?_
  refine gEx.getI rfl rfl (h0 0 _ rfl) rfl ?_
  refine gEx.iconst rfl rfl ?_
  refine gEx.isub rfl rfl ?_
  refine gEx.i2l rfl rfl ?_
  refine gEx.callSi rfl rfl rfl rfl rfl (fun _ h => (t_MO_in (by omega) ) _ h) (fun r1 => ?_)
  refine gEx.if_ne (tn := 18) rfl rfl rfl ?_ ?_
  · refine gEx.iconst rfl rfl ?_
    exact gEx.reti rfl rfl
  · refine gEx.aload rfl rfl rfl ?_
    refine gEx.iload rfl rfl rfl ?_
    refine gEx.iconst rfl rfl ?_
    refine gEx.callVv rfl rfl rfl rfl (h0 0 _ rfl) rfl (fun _ h => (t_MO_turnPage (by omega) h0) _ h) (fun r2 => ?_)
    refine gEx.iconst rfl rfl ?_
    exact gEx.reti rfl rfl
abbrev gcx_226 : gC := glook (gco_226_0)
set_option maxRecDepth 100000 in
set_option maxHeartbeats 4000000 in
theorem t_MO_spot {d : Nat} (hd : 3 ≤ d) {sh : gH} {x1 : Int32} {x2 : Int32} (h0 : gHas sh.1 81 gsh_MO) {m : gM} : ∀ x, f_MO_spot x1 x2 m = some x → gR gmi gdf gcd d 226 [.ref 81, .int x1, .int x2] (sh, m) ((gri x).1, (sh, (gri x).2)) := by
  obtain ⟨d, rfl⟩ : ∃ e, d = e + 1 := ⟨d - 1, by omega⟩
  refine gR_of (mx := 4) (code := gcx_226) rfl rfl (Nat.le_of_ble_eq_true rfl) ?_
  show gEx d gcx_226 sh gri 0 [some (.ref 81), some (.int x1), some (.int x2), none] [] m (f_MO_spot x1 x2 m)
  unfold f_MO_spot
  refine gEx.aload rfl rfl rfl ?_
  refine gEx.iload rfl rfl rfl ?_
  refine gEx.callVi rfl rfl rfl rfl (h0 0 _ rfl) rfl (fun _ h => (t_MO_isPerson (by omega) h0) _ h) (fun r1 => ?_)
  refine gEx.if_eq (tn := 16) rfl rfl rfl ?_ ?_
  · refine gEx.lab (ls' := [some (.ref 81), none, none, none]) rfl rfl ?_
    refine gEx.iconst rfl rfl ?_
    exact gEx.reti rfl rfl
  · refine gEx.aload rfl rfl rfl ?_
    refine gEx.iload rfl rfl rfl ?_
    refine gEx.callVi rfl rfl rfl rfl (h0 0 _ rfl) rfl (fun _ h => (t_MO_isCell (by omega) h0) _ h) (fun r2 => ?_)
    refine gEx.if_ne (tn := 19) rfl rfl rfl ?_ ?_
    · refine gEx.lab (ls' := [some (.ref 81), none, none, none]) rfl rfl ?_
      refine gEx.iconst rfl rfl ?_
      exact gEx.reti rfl rfl
    · refine gEx.aload rfl rfl rfl ?_
      refine gEx.getR rfl rfl (h0 0 _ rfl) rfl ?_
      refine gEx.iload rfl rfl rfl ?_
      refine gEx.iald rfl rfl (h0 23 _ rfl) ?_
      refine gEx.istoreL (ls' := fun v1 => [some (.ref 81), some (.int x1), some (.int x2), some (.int v1)]) rfl rfl (fun _ => rfl) (fun v1 => ?_)
      refine gEx.aload rfl rfl rfl ?_
      refine gEx.getR rfl rfl (h0 0 _ rfl) rfl ?_
      refine gEx.iload rfl rfl rfl ?_
      refine gEx.iload rfl rfl rfl ?_
      refine gEx.iast rfl rfl (h0 23 _ rfl) (fun m1 => ?_)
      refine gEx.iload rfl rfl rfl ?_
      exact gEx.reti rfl rfl
abbrev gcx_227 : gC := glook (gco_227_0)
set_option maxRecDepth 100000 in
set_option maxHeartbeats 4000000 in
theorem t_MO_isRace {d : Nat} (hd : 2 ≤ d) {sh : gH} {x1 : Int32} {x2 : Int32} {x3 : Int32} {x4 : Int32} (h0 : gHas sh.1 81 gsh_MO) {m : gM} : ∀ x, f_MO_isRace x1 x2 x3 x4 m = some x → gR gmi gdf gcd d 227 [.ref 81, .int x1, .int x2, .int x3, .int x4] (sh, m) ((gri x).1, (sh, (gri x).2)) := by
  obtain ⟨d, rfl⟩ : ∃ e, d = e + 1 := ⟨d - 1, by omega⟩
  refine gR_of (mx := 5) (code := gcx_227) rfl rfl (Nat.le_of_ble_eq_true rfl) ?_
  show gEx d gcx_227 sh gri 0 [some (.ref 81), some (.int x1), some (.int x2), some (.int x3), some (.int x4)] [] m (f_MO_isRace x1 x2 x3 x4 m)
  unfold f_MO_isRace
  refine gEx.iload rfl rfl rfl ?_
  refine gEx.i2l rfl rfl ?_
  refine gEx.lconst rfl rfl ?_
  refine gEx.lconst rfl rfl ?_
  refine gEx.callSi rfl rfl rfl rfl rfl (fun _ h => (t_MO_in (by omega) ) _ h) (fun r1 => ?_)
  refine gEx.if_eq (tn := 61) rfl rfl rfl ?_ ?_
  · refine gEx.lab (ls' := [some (.ref 81), none, none, none, none]) rfl rfl ?_
    refine gEx.iconst rfl rfl ?_
    refine gEx.lab (ls' := [some (.ref 81), none, none, none, none]) rfl rfl ?_
    exact gEx.retz0 (by decide) rfl rfl
  · refine gEx.iload rfl rfl rfl ?_
    refine gEx.aload rfl rfl rfl ?_
    refine gEx.getI rfl rfl (h0 0 _ rfl) rfl ?_
    refine gEx.icmp_gt (tn := 61) rfl rfl rfl ?_ ?_
    · refine gEx.lab (ls' := [some (.ref 81), none, none, none, none]) rfl rfl ?_
      refine gEx.iconst rfl rfl ?_
      refine gEx.lab (ls' := [some (.ref 81), none, none, none, none]) rfl rfl ?_
      exact gEx.retz0 (by decide) rfl rfl
    · refine gEx.iload rfl rfl rfl ?_
      refine gEx.i2l rfl rfl ?_
      refine gEx.lconst rfl rfl ?_
      refine gEx.lconst rfl rfl ?_
      refine gEx.callSi rfl rfl rfl rfl rfl (fun _ h => (t_MO_in (by omega) ) _ h) (fun r2 => ?_)
      refine gEx.if_eq (tn := 61) rfl rfl rfl ?_ ?_
      · refine gEx.lab (ls' := [some (.ref 81), none, none, none, none]) rfl rfl ?_
        refine gEx.iconst rfl rfl ?_
        refine gEx.lab (ls' := [some (.ref 81), none, none, none, none]) rfl rfl ?_
        exact gEx.retz0 (by decide) rfl rfl
      · refine gEx.iload rfl rfl rfl ?_
        refine gEx.i2l rfl rfl ?_
        refine gEx.lconst rfl rfl ?_
        refine gEx.lconst rfl rfl ?_
        refine gEx.callSi rfl rfl rfl rfl rfl (fun _ h => (t_MO_in (by omega) ) _ h) (fun r3 => ?_)
        refine gEx.if_eq (tn := 61) rfl rfl rfl ?_ ?_
        · refine gEx.lab (ls' := [some (.ref 81), none, none, none, none]) rfl rfl ?_
          refine gEx.iconst rfl rfl ?_
          refine gEx.lab (ls' := [some (.ref 81), none, none, none, none]) rfl rfl ?_
          exact gEx.retz0 (by decide) rfl rfl
        · refine gEx.iload rfl rfl rfl ?_
          refine gEx.i2l rfl rfl ?_
          refine gEx.lconst rfl rfl ?_
          refine gEx.lconst rfl rfl ?_
          refine gEx.callSi rfl rfl rfl rfl rfl (fun _ h => (t_MO_in (by omega) ) _ h) (fun r4 => ?_)
          refine gEx.if_eq (tn := 61) rfl rfl rfl ?_ ?_
          · refine gEx.lab (ls' := [some (.ref 81), none, none, none, none]) rfl rfl ?_
            refine gEx.iconst rfl rfl ?_
            refine gEx.lab (ls' := [some (.ref 81), none, none, none, none]) rfl rfl ?_
            exact gEx.retz0 (by decide) rfl rfl
          · refine gEx.iconst rfl rfl ?_
            refine gEx.goto (tn := 62) rfl rfl rfl ?_
            refine gEx.lab (ls' := [some (.ref 81), none, none, none, none]) rfl rfl ?_
            exact gEx.retz0 (by decide) rfl rfl
abbrev gcx_228 : gC := glook (gco_228_0)
set_option maxRecDepth 100000 in
set_option maxHeartbeats 4000000 in
theorem t_MO_haveSpots {d : Nat} (hd : 3 ≤ d) {sh : gH} {x1 : Int32} (h0 : gHas sh.1 81 gsh_MO) {m : gM} : ∀ x, f_MO_haveSpots x1 m = some x → gR gmi gdf gcd d 228 [.ref 81, .int x1] (sh, m) ((gri x).1, (sh, (gri x).2)) := by
  obtain ⟨d, rfl⟩ : ∃ e, d = e + 1 := ⟨d - 1, by omega⟩
  refine gR_of (mx := 4) (code := gcx_228) rfl rfl (Nat.le_of_ble_eq_true rfl) ?_
  show gEx d gcx_228 sh gri 0 [some (.ref 81), some (.int x1), none, none] [] m (f_MO_haveSpots x1 m)
  unfold f_MO_haveSpots
  refine gEx.iconst rfl rfl ?_
  refine gEx.istore (ls' := [some (.ref 81), some (.int x1), some (.int 1), none]) rfl rfl rfl ?_
  refine gEx.iconst rfl rfl ?_
  refine gEx.istore (ls' := [some (.ref 81), some (.int x1), some (.int 1), some (.int 0)]) rfl rfl rfl ?_
  have hL_4 : ∀ (n : Nat) (v1 : Int32) (v2 : Int32) (m1 : gM), gEx d gcx_228 sh gri 4 [some (.ref 81), some (.int x1), some (.int v1), some (.int v2)] [] m1 (L_MO_haveSpots_4 x1 n v1 v2 m1) := by
    refine gfix_ind (P := fun (f : Int32 → Int32 → gM → Option (Int32 × gM)) => ∀ (v1 : Int32) (v2 : Int32) (m1 : gM), gEx d gcx_228 sh gri 4 [some (.ref 81), some (.int x1), some (.int v1), some (.int v2)] [] m1 (f v1 v2 m1)) (fun _ _ _ => gEx.none) (fun rec_4 hrec_4 => ?_)
    have hJ_31 : ∀ (v3 : Int32) (v4 : Int32) (v5 : Int32) (m2 : gM), gEx d gcx_228 sh gri 31 [some (.ref 81), some (.int x1), some (.int v3), some (.int v4)] [.int v5] m2 (J_MO_haveSpots_31 rec_4 v3 v4 v5 m2) := by
      intro v3 v4 v5 m2
      unfold J_MO_haveSpots_31
      refine gEx.istore (ls' := [some (.ref 81), some (.int x1), some (.int v5), some (.int v4)]) rfl rfl rfl ?_
      refine gEx.iinc (ls' := [some (.ref 81), some (.int x1), some (.int v5), some (.int (v4 + 1))]) rfl rfl rfl rfl ?_
      refine gEx.goto (tn := 4) rfl rfl rfl ?_
      exact gEx.lab rfl rfl (hrec_4 v5 (v4 + 1) m2)
    have hJ_30 : ∀ (v6 : Int32) (v7 : Int32) (m3 : gM), gEx d gcx_228 sh gri 30 [some (.ref 81), some (.int x1), some (.int v6), some (.int v7)] [] m3 (J_MO_haveSpots_30 rec_4 v6 v7 m3) := by
      intro v6 v7 m3
      unfold J_MO_haveSpots_30
      refine gEx.iconst rfl rfl ?_
      exact gEx.lab rfl rfl (hJ_31 v6 v7 0 m3)
    intro v1 v2 m1
    refine gEx.iload rfl rfl rfl ?_
    refine gEx.iload rfl rfl rfl ?_
    refine gEx.icmp_ge (tn := 38) rfl rfl rfl ?_ ?_
    · refine gEx.iload rfl rfl rfl ?_
      refine gEx.if_eq (tn := 30) rfl rfl rfl ?_ ?_
      · exact gEx.lab rfl rfl (hJ_30 v1 v2 m1)
      · refine gEx.aload rfl rfl rfl ?_
        refine gEx.aload rfl rfl rfl ?_
        refine gEx.getR rfl rfl (h0 0 _ rfl) rfl ?_
        refine gEx.iload rfl rfl rfl ?_
        refine gEx.iald rfl rfl (h0 23 _ rfl) ?_
        refine gEx.callVi rfl rfl rfl rfl (h0 0 _ rfl) rfl (fun _ h => (t_MO_isCell (by omega) h0) _ h) (fun r1 => ?_)
        refine gEx.if_eq (tn := 30) rfl rfl rfl ?_ ?_
        · exact gEx.lab rfl rfl (hJ_30 v1 v2 r1.2)
        · refine gEx.iconst rfl rfl ?_
          refine gEx.goto (tn := 31) rfl rfl rfl ?_
          exact gEx.lab rfl rfl (hJ_31 v1 v2 1 r1.2)
    · refine gEx.iload rfl rfl rfl ?_
      exact gEx.retz rfl rfl
  exact gEx.lab rfl rfl (hL_4 1000 1 0 m)
abbrev gcx_229 : gC := glook (gco_229_0 ++ (gco_229_1))
set_option maxRecDepth 100000 in
set_option maxHeartbeats 4000000 in
theorem t_MO_race {d : Nat} (hd : 7 ≤ d) {sh : gH} {x1 : Int32} {x2 : Int32} {x3 : Int32} {x4 : Int32} {x5 : Int32} (h0 : gHas sh.1 81 gsh_MO) {m : gM} : ∀ x, f_MO_race x1 x2 x3 x4 x5 m = some x → gR gmi gdf gcd d 229 [.ref 81, .int x1, .int x2, .int x3, .int x4, .int x5] (sh, m) ((grv x).1, (sh, (grv x).2)) := by
  obtain ⟨d, rfl⟩ : ∃ e, d = e + 1 := ⟨d - 1, by omega⟩
  refine gR_of (mx := 7) (code := gcx_229) rfl rfl (Nat.le_of_ble_eq_true rfl) ?_
  have hJ_140 : ∀ (v1 : Int32) (m1 : gM), gEx d gcx_229 sh grv 140 [some (.ref 81), some (.int x1), some (.int x2), some (.int x3), some (.int x4), some (.int x5), some (.int v1)] [] m1 (J_MO_race_140 v1 m1) := by
    intro v1 m1
    unfold J_MO_race_140
    refine gEx.aload rfl rfl rfl ?_
    refine gEx.iconst rfl rfl ?_
    refine gEx.iconst rfl rfl ?_
    refine gEx.callVv rfl rfl rfl rfl (h0 0 _ rfl) rfl (fun _ h => (t_MO_turnPage (by omega) h0) _ h) (fun r1 => ?_)
    exact gEx.retv rfl rfl
  have hJ_103 : ∀ (v2 : Int32) (m2 : gM), gEx d gcx_229 sh grv 103 [some (.ref 81), some (.int x1), some (.int x2), some (.int x3), some (.int x4), some (.int x5), some (.int v2)] [] m2 (J_MO_race_103 x1 x5 v2 m2) := by
    intro v2 m2
    unfold J_MO_race_103
    refine gEx.iconst rfl rfl ?_
    refine gEx.istore (ls' := [some (.ref 81), some (.int x1), some (.int x2), some (.int x3), some (.int x4), some (.int x5), some (.int 0)]) rfl rfl rfl ?_
    have hL_106 : ∀ (n : Nat) (v3 : Int32) (m3 : gM), gEx d gcx_229 sh grv 106 [some (.ref 81), some (.int x1), some (.int x2), some (.int x3), some (.int x4), some (.int x5), some (.int v3)] [] m3 (L_MO_race_106 x1 x5 (fun v3 m3 => J_MO_race_140 v3 m3) n v3 m3) := by
      refine gfix_ind (P := fun (f : Int32 → gM → Option (gM)) => ∀ (v3 : Int32) (m3 : gM), gEx d gcx_229 sh grv 106 [some (.ref 81), some (.int x1), some (.int x2), some (.int x3), some (.int x4), some (.int x5), some (.int v3)] [] m3 (f v3 m3)) (fun _ _ => gEx.none) (fun rec_106 hrec_106 => ?_)
      intro v3 m3
      refine gEx.iload rfl rfl rfl ?_
      refine gEx.iload rfl rfl rfl ?_
      refine gEx.icmp_ge (tn := 140) rfl rfl rfl ?_ ?_
      · refine gEx.aload rfl rfl rfl ?_
        refine gEx.getR rfl rfl (h0 0 _ rfl) rfl ?_
        refine gEx.iconst rfl rfl ?_
        refine gEx.iload rfl rfl rfl ?_
        refine gEx.imul rfl rfl ?_
        refine gEx.iload rfl rfl rfl ?_
        refine gEx.iadd rfl rfl ?_
        refine gEx.dup2 rfl rfl ?_
        refine gEx.iald rfl rfl (h0 43 _ rfl) ?_
        refine gEx.aload rfl rfl rfl ?_
        refine gEx.getR rfl rfl (h0 0 _ rfl) rfl ?_
        refine gEx.iload rfl rfl rfl ?_
        refine gEx.iald rfl rfl (h0 19 _ rfl) ?_
        refine gEx.iadd rfl rfl ?_
        refine gEx.iast rfl rfl (h0 43 _ rfl) (fun m4 => ?_)
        refine gEx.iinc (ls' := [some (.ref 81), some (.int x1), some (.int x2), some (.int x3), some (.int x4), some (.int x5), some (.int (v3 + 1))]) rfl rfl rfl rfl ?_
        refine gEx.goto (tn := 106) rfl rfl rfl ?_
        exact gEx.lab rfl rfl (hrec_106 (v3 + 1) m4)
      · exact gEx.lab rfl rfl (hJ_140 v3 m3)
    exact gEx.lab rfl rfl (hL_106 1000 0 m2)
  have hJ_82 : ∀ (v4 : Int32) (m5 : gM), gEx d gcx_229 sh grv 82 [some (.ref 81), some (.int x1), some (.int x2), some (.int x3), some (.int x4), some (.int x5), some (.int v4)] [] m5 (J_MO_race_82 x1 x4 x5 v4 m5) := by
    intro v4 m5
    unfold J_MO_race_82
    refine gEx.iconst rfl rfl ?_
    refine gEx.istore (ls' := [some (.ref 81), some (.int x1), some (.int x2), some (.int x3), some (.int x4), some (.int x5), some (.int 0)]) rfl rfl rfl ?_
    have hL_85 : ∀ (n : Nat) (v5 : Int32) (m6 : gM), gEx d gcx_229 sh grv 85 [some (.ref 81), some (.int x1), some (.int x2), some (.int x3), some (.int x4), some (.int x5), some (.int v5)] [] m6 (L_MO_race_85 x4 (fun v5 m6 => J_MO_race_103 x1 x5 v5 m6) n v5 m6) := by
      refine gfix_ind (P := fun (f : Int32 → gM → Option (gM)) => ∀ (v5 : Int32) (m6 : gM), gEx d gcx_229 sh grv 85 [some (.ref 81), some (.int x1), some (.int x2), some (.int x3), some (.int x4), some (.int x5), some (.int v5)] [] m6 (f v5 m6)) (fun _ _ => gEx.none) (fun rec_85 hrec_85 => ?_)
      intro v5 m6
      refine gEx.iload rfl rfl rfl ?_
      refine gEx.iload rfl rfl rfl ?_
      refine gEx.icmp_ge (tn := 103) rfl rfl rfl ?_ ?_
      · refine gEx.aload rfl rfl rfl ?_
        refine gEx.callVi rfl rfl rfl rfl (h0 0 _ rfl) rfl (fun _ h => (t_MO_step (by omega) h0) _ h) (fun r2 => ?_)
        refine gEx.pop rfl rfl ?_
        refine gEx.iinc (ls' := [some (.ref 81), some (.int x1), some (.int x2), some (.int x3), some (.int x4), some (.int x5), some (.int (v5 + 1))]) rfl rfl rfl rfl ?_
        refine gEx.goto (tn := 85) rfl rfl rfl ?_
        exact gEx.lab rfl rfl (hrec_85 (v5 + 1) r2.2)
      · exact gEx.lab rfl rfl (hJ_103 v5 m6)
    exact gEx.lab rfl rfl (hL_85 1000 0 m5)
  show gEx d gcx_229 sh grv 0 [some (.ref 81), some (.int x1), some (.int x2), some (.int x3), some (.int x4), some (.int x5), none] [] m (f_MO_race x1 x2 x3 x4 x5 m)
  unfold f_MO_race
  refine gEx.aload rfl rfl rfl ?_
  refine gEx.iconst rfl rfl ?_
  refine gEx.iconst rfl rfl ?_
  refine gEx.callVv rfl rfl rfl rfl (h0 0 _ rfl) rfl (fun _ h => (t_MO_turnPage (by omega) h0) _ h) (fun r3 => ?_)
  refine gEx.iconst rfl rfl ?_
  refine gEx.istore (ls' := [some (.ref 81), some (.int x1), some (.int x2), some (.int x3), some (.int x4), some (.int x5), some (.int 0)]) rfl rfl rfl ?_
  have hL_9 : ∀ (n : Nat) (v6 : Int32) (m7 : gM), gEx d gcx_229 sh grv 9 [some (.ref 81), some (.int x1), some (.int x2), some (.int x3), some (.int x4), some (.int x5), some (.int v6)] [] m7 (L_MO_race_9 x1 x2 x3 x5 (fun v6 m7 => J_MO_race_82 x1 x4 x5 v6 m7) n v6 m7) := by
    refine gfix_ind (P := fun (f : Int32 → gM → Option (gM)) => ∀ (v6 : Int32) (m7 : gM), gEx d gcx_229 sh grv 9 [some (.ref 81), some (.int x1), some (.int x2), some (.int x3), some (.int x4), some (.int x5), some (.int v6)] [] m7 (f v6 m7)) (fun _ _ => gEx.none) (fun rec_9 hrec_9 => ?_)
    have hJ_76 : ∀ (v7 : Int32) (m8 : gM), gEx d gcx_229 sh grv 76 [some (.ref 81), some (.int x1), some (.int x2), some (.int x3), some (.int x4), some (.int x5), some (.int v7)] [] m8 (J_MO_race_76 rec_9 v7 m8) := by
      intro v7 m8
      unfold J_MO_race_76
      refine gEx.iinc (ls' := [some (.ref 81), some (.int x1), some (.int x2), some (.int x3), some (.int x4), some (.int x5), some (.int (v7 + 1))]) rfl rfl rfl rfl ?_
      refine gEx.goto (tn := 9) rfl rfl rfl ?_
      exact gEx.lab rfl rfl (hrec_9 (v7 + 1) m8)
    intro v6 m7
    refine gEx.iload rfl rfl rfl ?_
    refine gEx.iload rfl rfl rfl ?_
    refine gEx.icmp_ge (tn := 82) rfl rfl rfl ?_ ?_
    · refine gEx.aload rfl rfl rfl ?_
      refine gEx.getR rfl rfl (h0 0 _ rfl) rfl ?_
      refine gEx.iconst rfl rfl ?_
      refine gEx.iload rfl rfl rfl ?_
      refine gEx.imul rfl rfl ?_
      refine gEx.iload rfl rfl rfl ?_
      refine gEx.iadd rfl rfl ?_
      refine gEx.aload rfl rfl rfl ?_
      refine gEx.getR rfl rfl (h0 0 _ rfl) rfl ?_
      refine gEx.iload rfl rfl rfl ?_
      refine gEx.iald rfl rfl (h0 19 _ rfl) ?_
      refine gEx.ineg rfl rfl ?_
      refine gEx.iast rfl rfl (h0 43 _ rfl) (fun m9 => ?_)
      refine gEx.iload rfl rfl rfl ?_
      refine gEx.iload rfl rfl rfl ?_
      refine gEx.ishr rfl rfl ?_
      refine gEx.iconst rfl rfl ?_
      refine gEx.iand rfl rfl ?_
      refine gEx.iconst rfl rfl ?_
      refine gEx.icmp_ne (tn := 76) rfl rfl rfl ?_ ?_
      · refine gEx.aload rfl rfl rfl ?_
        refine gEx.iload rfl rfl rfl ?_
        refine gEx.aload rfl rfl rfl ?_
        refine gEx.getR rfl rfl (h0 0 _ rfl) rfl ?_
        refine gEx.iload rfl rfl rfl ?_
        refine gEx.iald rfl rfl (h0 23 _ rfl) ?_
        refine gEx.iload rfl rfl rfl ?_
        refine gEx.callVv rfl rfl rfl rfl (h0 0 _ rfl) rfl (fun _ h => (t_MO_addWell (by omega) h0) _ h) (fun r4 => ?_)
        refine gEx.aload rfl rfl rfl ?_
        refine gEx.getR rfl rfl (h0 0 _ rfl) rfl ?_
        refine gEx.iconst rfl rfl ?_
        refine gEx.iload rfl rfl rfl ?_
        refine gEx.imul rfl rfl ?_
        refine gEx.iload rfl rfl rfl ?_
        refine gEx.iadd rfl rfl ?_
        refine gEx.dup2 rfl rfl ?_
        refine gEx.iald rfl rfl (h0 43 _ rfl) ?_
        refine gEx.iload rfl rfl rfl ?_
        refine gEx.isub rfl rfl ?_
        refine gEx.iast rfl rfl (h0 43 _ rfl) (fun m10 => ?_)
        exact gEx.lab rfl rfl (hJ_76 v6 m10)
      · exact gEx.lab rfl rfl (hJ_76 v6 m9)
    · exact gEx.lab rfl rfl (hJ_82 v6 m7)
  exact gEx.lab rfl rfl (hL_9 1000 0 r3)
abbrev gcx_230 : gC := glook (gco_230_0)
set_option maxRecDepth 100000 in
set_option maxHeartbeats 4000000 in
theorem t_MO_gain {d : Nat} (hd : 8 ≤ d) {sh : gH} {x1 : Int32} {x2 : Int32} {x3 : Int32} {x4 : Int32} {x5 : Int32} {x6 : Int32} (h0 : gHas sh.1 81 gsh_MO) {m : gM} : ∀ x, f_MO_gain x1 x2 x3 x4 x5 x6 m = some x → gR gmi gdf gcd d 230 [.ref 81, .int x1, .int x2, .int x3, .int x4, .int x5, .int x6] (sh, m) ((gri x).1, (sh, (gri x).2)) := by
  obtain ⟨d, rfl⟩ : ∃ e, d = e + 1 := ⟨d - 1, by omega⟩
  refine gR_of (mx := 7) (code := gcx_230) rfl rfl (Nat.le_of_ble_eq_true rfl) ?_
  show gEx d gcx_230 sh gri 0 [some (.ref 81), some (.int x1), some (.int x2), some (.int x3), some (.int x4), some (.int x5), some (.int x6)] [] m (f_MO_gain x1 x2 x3 x4 x5 x6 m)
  unfold f_MO_gain
  refine gEx.aload rfl rfl rfl ?_
  refine gEx.iload rfl rfl rfl ?_
  refine gEx.iload rfl rfl rfl ?_
  refine gEx.iload rfl rfl rfl ?_
  refine gEx.iload rfl rfl rfl ?_
  refine gEx.callVi rfl rfl rfl rfl (h0 0 _ rfl) rfl (fun _ h => (t_MO_isRace (by omega) h0) _ h) (fun r1 => ?_)
  refine gEx.if_eq (tn := 42) rfl rfl rfl ?_ ?_
  · refine gEx.lab (ls' := [some (.ref 81), none, none, none, none, none, none]) rfl rfl ?_
    refine gEx.iconst rfl rfl ?_
    exact gEx.reti rfl rfl
  · refine gEx.iload rfl rfl rfl ?_
    refine gEx.i2l rfl rfl ?_
    refine gEx.lconst rfl rfl ?_
    refine gEx.iconst rfl rfl ?_
    refine gEx.iload rfl rfl rfl ?_
    refine gEx.ishl rfl rfl ?_
    refine gEx.iconst rfl rfl ?_
    refine gEx.isub rfl rfl ?_
    refine gEx.i2l rfl rfl ?_
    refine gEx.callSi rfl rfl rfl rfl rfl (fun _ h => (t_MO_in (by omega) ) _ h) (fun r2 => ?_)
    refine gEx.if_eq (tn := 42) rfl rfl rfl ?_ ?_
    · refine gEx.lab (ls' := [some (.ref 81), none, none, none, none, none, none]) rfl rfl ?_
      refine gEx.iconst rfl rfl ?_
      exact gEx.reti rfl rfl
    · refine gEx.iload rfl rfl rfl ?_
      refine gEx.i2l rfl rfl ?_
      refine gEx.lconst rfl rfl ?_
      refine gEx.iload rfl rfl rfl ?_
      refine gEx.iconst rfl rfl ?_
      refine gEx.isub rfl rfl ?_
      refine gEx.i2l rfl rfl ?_
      refine gEx.callSi rfl rfl rfl rfl rfl (fun _ h => (t_MO_in (by omega) ) _ h) (fun r3 => ?_)
      refine gEx.if_ne (tn := 46) rfl rfl rfl ?_ ?_
      · refine gEx.lab (ls' := [some (.ref 81), none, none, none, none, none, none]) rfl rfl ?_
        refine gEx.iconst rfl rfl ?_
        exact gEx.reti rfl rfl
      · refine gEx.aload rfl rfl rfl ?_
        refine gEx.iload rfl rfl rfl ?_
        refine gEx.callVi rfl rfl rfl rfl (h0 0 _ rfl) rfl (fun _ h => (t_MO_haveSpots (by omega) h0) _ h) (fun r4 => ?_)
        refine gEx.if_ne (tn := 58) rfl rfl rfl ?_ ?_
        · refine gEx.iconst rfl rfl ?_
          exact gEx.reti rfl rfl
        · refine gEx.aload rfl rfl rfl ?_
          refine gEx.iload rfl rfl rfl ?_
          refine gEx.iload rfl rfl rfl ?_
          refine gEx.iload rfl rfl rfl ?_
          refine gEx.iload rfl rfl rfl ?_
          refine gEx.iload rfl rfl rfl ?_
          refine gEx.callVv rfl rfl rfl rfl (h0 0 _ rfl) rfl (fun _ h => (t_MO_race (by omega) h0) _ h) (fun r5 => ?_)
          refine gEx.aload rfl rfl rfl ?_
          refine gEx.getR rfl rfl (h0 0 _ rfl) rfl ?_
          refine gEx.iconst rfl rfl ?_
          refine gEx.iload rfl rfl rfl ?_
          refine gEx.imul rfl rfl ?_
          refine gEx.iload rfl rfl rfl ?_
          refine gEx.iadd rfl rfl ?_
          refine gEx.iald rfl rfl (h0 43 _ rfl) ?_
          exact gEx.reti rfl rfl
abbrev gcx_231 : gC := glook (gco_231_0)
set_option maxRecDepth 100000 in
set_option maxHeartbeats 4000000 in
theorem t_MO_raceAll {d : Nat} (hd : 8 ≤ d) {sh : gH} {x1 : Int32} {x2 : Int32} {x3 : Int32} {x4 : Int32} (h0 : gHas sh.1 81 gsh_MO) {m : gM} : ∀ x, f_MO_raceAll x1 x2 x3 x4 m = some x → gR gmi gdf gcd d 231 [.ref 81, .int x1, .int x2, .int x3, .int x4] (sh, m) ((grv x).1, (sh, (grv x).2)) := by
  obtain ⟨d, rfl⟩ : ∃ e, d = e + 1 := ⟨d - 1, by omega⟩
  refine gR_of (mx := 6) (code := gcx_231) rfl rfl (Nat.le_of_ble_eq_true rfl) ?_
  show gEx d gcx_231 sh grv 0 [some (.ref 81), some (.int x1), some (.int x2), some (.int x3), some (.int x4), none] [] m (f_MO_raceAll x1 x2 x3 x4 m)
  unfold f_MO_raceAll
  refine gEx.iconst rfl rfl ?_
  refine gEx.istore (ls' := [some (.ref 81), some (.int x1), some (.int x2), some (.int x3), some (.int x4), some (.int 0)]) rfl rfl rfl ?_
  have hL_3 : ∀ (n : Nat) (v1 : Int32) (m1 : gM), gEx d gcx_231 sh grv 3 [some (.ref 81), some (.int x1), some (.int x2), some (.int x3), some (.int x4), some (.int v1)] [] m1 (L_MO_raceAll_3 x1 x2 x3 x4 n v1 m1) := by
    refine gfix_ind (P := fun (f : Int32 → gM → Option (gM)) => ∀ (v1 : Int32) (m1 : gM), gEx d gcx_231 sh grv 3 [some (.ref 81), some (.int x1), some (.int x2), some (.int x3), some (.int x4), some (.int v1)] [] m1 (f v1 m1)) (fun _ _ => gEx.none) (fun rec_3 hrec_3 => ?_)
    intro v1 m1
    refine gEx.iload rfl rfl rfl ?_
    refine gEx.iconst rfl rfl ?_
    refine gEx.iload rfl rfl rfl ?_
    refine gEx.ishl rfl rfl ?_
    refine gEx.icmp_ge (tn := 28) rfl rfl rfl ?_ ?_
    · refine gEx.aload rfl rfl rfl ?_
      refine gEx.iload rfl rfl rfl ?_
      refine gEx.iload rfl rfl rfl ?_
      refine gEx.iload rfl rfl rfl ?_
      refine gEx.iload rfl rfl rfl ?_
      refine gEx.iload rfl rfl rfl ?_
      refine gEx.callVv rfl rfl rfl rfl (h0 0 _ rfl) rfl (fun _ h => (t_MO_race (by omega) h0) _ h) (fun r1 => ?_)
      refine gEx.iinc (ls' := [some (.ref 81), some (.int x1), some (.int x2), some (.int x3), some (.int x4), some (.int (v1 + 1))]) rfl rfl rfl rfl ?_
      refine gEx.goto (tn := 3) rfl rfl rfl ?_
      exact gEx.lab rfl rfl (hrec_3 (v1 + 1) r1)
    · exact gEx.retv rfl rfl
  exact gEx.lab rfl rfl (hL_3 1000 0 m)
abbrev gcx_232 : gC := glook (gco_232_0)
set_option maxRecDepth 100000 in
set_option maxHeartbeats 4000000 in
theorem t_MO_isSteady {d : Nat} (hd : 1 ≤ d) {sh : gH} {x1 : Int32} {x2 : Int32} (h0 : gHas sh.1 81 gsh_MO) {m : gM} : ∀ x, f_MO_isSteady x1 x2 m = some x → gR gmi gdf gcd d 232 [.ref 81, .int x1, .int x2] (sh, m) ((gri x).1, (sh, (gri x).2)) := by
  obtain ⟨d, rfl⟩ : ∃ e, d = e + 1 := ⟨d - 1, by omega⟩
  refine gR_of (mx := 5) (code := gcx_232) rfl rfl (Nat.le_of_ble_eq_true rfl) ?_
  show gEx d gcx_232 sh gri 0 [some (.ref 81), some (.int x1), some (.int x2), none, none] [] m (f_MO_isSteady x1 x2 m)
  unfold f_MO_isSteady
  refine gEx.iconst rfl rfl ?_
  refine gEx.istore (ls' := [some (.ref 81), some (.int x1), some (.int x2), some (.int 1), none]) rfl rfl rfl ?_
  refine gEx.iconst rfl rfl ?_
  refine gEx.istore (ls' := [some (.ref 81), some (.int x1), some (.int x2), some (.int 1), some (.int 0)]) rfl rfl rfl ?_
  have hL_5 : ∀ (n : Nat) (v1 : Int32) (v2 : Int32), gEx d gcx_232 sh gri 5 [some (.ref 81), some (.int x1), some (.int x2), some (.int v1), some (.int v2)] [] m (L_MO_isSteady_5 x1 x2 m n v1 v2) := by
    refine gfix_ind (P := fun (f : Int32 → Int32 → Option (Int32 × gM)) => ∀ (v1 : Int32) (v2 : Int32), gEx d gcx_232 sh gri 5 [some (.ref 81), some (.int x1), some (.int x2), some (.int v1), some (.int v2)] [] m (f v1 v2)) (fun _ _ => gEx.none) (fun rec_5 hrec_5 => ?_)
    have hJ_50 : ∀ (v3 : Int32) (v4 : Int32) (v5 : Int32), gEx d gcx_232 sh gri 50 [some (.ref 81), some (.int x1), some (.int x2), some (.int v3), some (.int v4)] [.int v5] m (J_MO_isSteady_50 rec_5 v3 v4 v5) := by
      intro v3 v4 v5
      unfold J_MO_isSteady_50
      refine gEx.istore (ls' := [some (.ref 81), some (.int x1), some (.int x2), some (.int v5), some (.int v4)]) rfl rfl rfl ?_
      refine gEx.iinc (ls' := [some (.ref 81), some (.int x1), some (.int x2), some (.int v5), some (.int (v4 + 1))]) rfl rfl rfl rfl ?_
      refine gEx.goto (tn := 5) rfl rfl rfl ?_
      exact gEx.lab rfl rfl (hrec_5 v5 (v4 + 1))
    have hJ_49 : ∀ (v6 : Int32) (v7 : Int32), gEx d gcx_232 sh gri 49 [some (.ref 81), some (.int x1), some (.int x2), some (.int v6), some (.int v7)] [] m (J_MO_isSteady_49 rec_5 v6 v7) := by
      intro v6 v7
      unfold J_MO_isSteady_49
      refine gEx.iconst rfl rfl ?_
      exact gEx.lab rfl rfl (hJ_50 v6 v7 0)
    intro v1 v2
    refine gEx.iload rfl rfl rfl ?_
    refine gEx.iload rfl rfl rfl ?_
    refine gEx.icmp_ge (tn := 57) rfl rfl rfl ?_ ?_
    · refine gEx.iload rfl rfl rfl ?_
      refine gEx.if_eq (tn := 49) rfl rfl rfl ?_ ?_
      · exact gEx.lab rfl rfl (hJ_49 v1 v2)
      · refine gEx.aload rfl rfl rfl ?_
        refine gEx.getR rfl rfl (h0 0 _ rfl) rfl ?_
        refine gEx.iconst rfl rfl ?_
        refine gEx.iload rfl rfl rfl ?_
        refine gEx.iconst rfl rfl ?_
        refine gEx.iload rfl rfl rfl ?_
        refine gEx.ishl rfl rfl ?_
        refine gEx.ixor rfl rfl ?_
        refine gEx.imul rfl rfl ?_
        refine gEx.iload rfl rfl rfl ?_
        refine gEx.iadd rfl rfl ?_
        refine gEx.iald rfl rfl (h0 43 _ rfl) ?_
        refine gEx.aload rfl rfl rfl ?_
        refine gEx.getR rfl rfl (h0 0 _ rfl) rfl ?_
        refine gEx.iconst rfl rfl ?_
        refine gEx.iload rfl rfl rfl ?_
        refine gEx.imul rfl rfl ?_
        refine gEx.iload rfl rfl rfl ?_
        refine gEx.iadd rfl rfl ?_
        refine gEx.iald rfl rfl (h0 43 _ rfl) ?_
        refine gEx.icmp_gt (tn := 49) rfl rfl rfl ?_ ?_
        · exact gEx.lab rfl rfl (hJ_49 v1 v2)
        · refine gEx.iconst rfl rfl ?_
          refine gEx.goto (tn := 50) rfl rfl rfl ?_
          exact gEx.lab rfl rfl (hJ_50 v1 v2 1)
    · refine gEx.iload rfl rfl rfl ?_
      exact gEx.retz rfl rfl
  exact gEx.lab rfl rfl (hL_5 1000 1 0)
abbrev gcx_233 : gC := glook (gco_233_0)
set_option maxRecDepth 100000 in
set_option maxHeartbeats 4000000 in
theorem t_MO_sumOf {d : Nat} (hd : 1 ≤ d) {sh : gH} {x1 : Int32} {x2 : Int32} (h0 : gHas sh.1 81 gsh_MO) {m : gM} : ∀ x, f_MO_sumOf x1 x2 m = some x → gR gmi gdf gcd d 233 [.ref 81, .int x1, .int x2] (sh, m) ((gri x).1, (sh, (gri x).2)) := by
  obtain ⟨d, rfl⟩ : ∃ e, d = e + 1 := ⟨d - 1, by omega⟩
  refine gR_of (mx := 5) (code := gcx_233) rfl rfl (Nat.le_of_ble_eq_true rfl) ?_
  show gEx d gcx_233 sh gri 0 [some (.ref 81), some (.int x1), some (.int x2), none, none] [] m (f_MO_sumOf x1 x2 m)
  unfold f_MO_sumOf
  refine gEx.iconst rfl rfl ?_
  refine gEx.istore (ls' := [some (.ref 81), some (.int x1), some (.int x2), some (.int 0), none]) rfl rfl rfl ?_
  refine gEx.iconst rfl rfl ?_
  refine gEx.istore (ls' := [some (.ref 81), some (.int x1), some (.int x2), some (.int 0), some (.int 0)]) rfl rfl rfl ?_
  have hL_5 : ∀ (n : Nat) (v1 : Int32) (v2 : Int32), gEx d gcx_233 sh gri 5 [some (.ref 81), some (.int x1), some (.int x2), some (.int v1), some (.int v2)] [] m (L_MO_sumOf_5 x1 x2 m n v1 v2) := by
    refine gfix_ind (P := fun (f : Int32 → Int32 → Option (Int32 × gM)) => ∀ (v1 : Int32) (v2 : Int32), gEx d gcx_233 sh gri 5 [some (.ref 81), some (.int x1), some (.int x2), some (.int v1), some (.int v2)] [] m (f v1 v2)) (fun _ _ => gEx.none) (fun rec_5 hrec_5 => ?_)
    intro v1 v2
    refine gEx.iload rfl rfl rfl ?_
    refine gEx.iload rfl rfl rfl ?_
    refine gEx.icmp_ge (tn := 31) rfl rfl rfl ?_ ?_
    · refine gEx.iload rfl rfl rfl ?_
      refine gEx.aload rfl rfl rfl ?_
      refine gEx.getR rfl rfl (h0 0 _ rfl) rfl ?_
      refine gEx.iconst rfl rfl ?_
      refine gEx.iload rfl rfl rfl ?_
      refine gEx.imul rfl rfl ?_
      refine gEx.iload rfl rfl rfl ?_
      refine gEx.iadd rfl rfl ?_
      refine gEx.iald rfl rfl (h0 43 _ rfl) ?_
      refine gEx.iadd rfl rfl ?_
      refine gEx.istoreL (ls' := fun v3 => [some (.ref 81), some (.int x1), some (.int x2), some (.int v3), some (.int v2)]) rfl rfl (fun _ => rfl) (fun v3 => ?_)
      refine gEx.iinc (ls' := [some (.ref 81), some (.int x1), some (.int x2), some (.int v3), some (.int (v2 + 1))]) rfl rfl rfl rfl ?_
      refine gEx.goto (tn := 5) rfl rfl rfl ?_
      exact gEx.lab rfl rfl (hrec_5 v3 (v2 + 1))
    · refine gEx.iload rfl rfl rfl ?_
      exact gEx.reti rfl rfl
  exact gEx.lab rfl rfl (hL_5 1000 0 0)
abbrev gcx_234 : gC := glook (gco_234_0 ++ (gco_234_1))
set_option maxRecDepth 100000 in
set_option maxHeartbeats 4000000 in
theorem t_MO_steady {d : Nat} (hd : 9 ≤ d) {sh : gH} {x1 : Int32} {x2 : Int32} {x3 : Int32} {x4 : Int32} {x5 : Int32} (h0 : gHas sh.1 81 gsh_MO) {m : gM} : ∀ x, f_MO_steady x1 x2 x3 x4 x5 m = some x → gR gmi gdf gcd d 234 [.ref 81, .int x1, .int x2, .int x3, .int x4, .int x5] (sh, m) ((gri x).1, (sh, (gri x).2)) := by
  obtain ⟨d, rfl⟩ : ∃ e, d = e + 1 := ⟨d - 1, by omega⟩
  refine gR_of (mx := 11) (code := gcx_234) rfl rfl (Nat.le_of_ble_eq_true rfl) ?_
  have hJ_162 : ∀ (v1 : Int32) (v2 : Int32) (v3 : Int32) (v4 : Int32) (v5 : Int32) (m1 : gM), gEx d gcx_234 sh gri 162 [some (.ref 81), some (.int x1), some (.int x2), some (.int x3), some (.int x4), some (.int x5), some (.int v1), some (.int v2), some (.int v3), some (.int v4), some (.int v5)] [] m1 (J_MO_steady_162 x5 v1 v2 v3 v4 v5 m1) := by
    intro v1 v2 v3 v4 v5 m1
    unfold J_MO_steady_162
    refine gEx.iload rfl rfl rfl ?_
    refine gEx.if_ne (tn := 172) rfl rfl rfl ?_ ?_
    · refine gEx.iload rfl rfl rfl ?_
      refine gEx.goto (tn := 196) rfl rfl rfl ?_
      refine gEx.lab (ls' := [some (.ref 81), none, none, none, none, none, none, none, none, none, none]) rfl rfl ?_
      exact gEx.reti rfl rfl
    · refine gEx.iload rfl rfl rfl ?_
      refine gEx.iconst rfl rfl ?_
      refine gEx.icmp_ne (tn := 183) rfl rfl rfl ?_ ?_
      · refine gEx.iload rfl rfl rfl ?_
        refine gEx.goto (tn := 196) rfl rfl rfl ?_
        refine gEx.lab (ls' := [some (.ref 81), none, none, none, none, none, none, none, none, none, none]) rfl rfl ?_
        exact gEx.reti rfl rfl
      · refine gEx.iload rfl rfl rfl ?_
        refine gEx.iconst rfl rfl ?_
        refine gEx.icmp_ne (tn := 194) rfl rfl rfl ?_ ?_
        · refine gEx.iload rfl rfl rfl ?_
          refine gEx.goto (tn := 196) rfl rfl rfl ?_
          refine gEx.lab (ls' := [some (.ref 81), none, none, none, none, none, none, none, none, none, none]) rfl rfl ?_
          exact gEx.reti rfl rfl
        · refine gEx.iload rfl rfl rfl ?_
          refine gEx.lab (ls' := [some (.ref 81), none, none, none, none, none, none, none, none, none, none]) rfl rfl ?_
          exact gEx.reti rfl rfl
  show gEx d gcx_234 sh gri 0 [some (.ref 81), some (.int x1), some (.int x2), some (.int x3), some (.int x4), some (.int x5), none, none, none, none, none] [] m (f_MO_steady x1 x2 x3 x4 x5 m)
  unfold f_MO_steady
  refine gEx.aload rfl rfl rfl ?_
  refine gEx.iload rfl rfl rfl ?_
  refine gEx.iload rfl rfl rfl ?_
  refine gEx.iload rfl rfl rfl ?_
  refine gEx.iload rfl rfl rfl ?_
  refine gEx.callVi rfl rfl rfl rfl (h0 0 _ rfl) rfl (fun _ h => (t_MO_isRace (by omega) h0) _ h) (fun r1 => ?_)
  refine gEx.if_eq (tn := 25) rfl rfl rfl ?_ ?_
  · refine gEx.lab (ls' := [some (.ref 81), none, none, none, none, none, none, none, none, none, none]) rfl rfl ?_
    refine gEx.iconst rfl rfl ?_
    exact gEx.reti rfl rfl
  · refine gEx.iload rfl rfl rfl ?_
    refine gEx.i2l rfl rfl ?_
    refine gEx.lconst rfl rfl ?_
    refine gEx.lconst rfl rfl ?_
    refine gEx.callSi rfl rfl rfl rfl rfl (fun _ h => (t_MO_in (by omega) ) _ h) (fun r2 => ?_)
    refine gEx.if_ne (tn := 27) rfl rfl rfl ?_ ?_
    · refine gEx.lab (ls' := [some (.ref 81), none, none, none, none, none, none, none, none, none, none]) rfl rfl ?_
      refine gEx.iconst rfl rfl ?_
      exact gEx.reti rfl rfl
    · refine gEx.aload rfl rfl rfl ?_
      refine gEx.iload rfl rfl rfl ?_
      refine gEx.callVi rfl rfl rfl rfl (h0 0 _ rfl) rfl (fun _ h => (t_MO_haveSpots (by omega) h0) _ h) (fun r3 => ?_)
      refine gEx.if_ne (tn := 38) rfl rfl rfl ?_ ?_
      · refine gEx.iconst rfl rfl ?_
        exact gEx.reti rfl rfl
      · refine gEx.aload rfl rfl rfl ?_
        refine gEx.iload rfl rfl rfl ?_
        refine gEx.iload rfl rfl rfl ?_
        refine gEx.iload rfl rfl rfl ?_
        refine gEx.iload rfl rfl rfl ?_
        refine gEx.callVv rfl rfl rfl rfl (h0 0 _ rfl) rfl (fun _ h => (t_MO_raceAll (by omega) h0) _ h) (fun r4 => ?_)
        refine gEx.iconst rfl rfl ?_
        refine gEx.istore (ls' := [some (.ref 81), some (.int x1), some (.int x2), some (.int x3), some (.int x4), some (.int x5), some (.int 0), none, none, none, none]) rfl rfl rfl ?_
        refine gEx.iconst rfl rfl ?_
        refine gEx.istore (ls' := [some (.ref 81), some (.int x1), some (.int x2), some (.int x3), some (.int x4), some (.int x5), some (.int 0), some (.int (-4)), none, none, none]) rfl rfl rfl ?_
        refine gEx.iconst rfl rfl ?_
        refine gEx.istore (ls' := [some (.ref 81), some (.int x1), some (.int x2), some (.int x3), some (.int x4), some (.int x5), some (.int 0), some (.int (-4)), some (.int (-4)), none, none]) rfl rfl rfl ?_
        refine gEx.iconst rfl rfl ?_
        refine gEx.istore (ls' := [some (.ref 81), some (.int x1), some (.int x2), some (.int x3), some (.int x4), some (.int x5), some (.int 0), some (.int (-4)), some (.int (-4)), some (.int 0), none]) rfl rfl rfl ?_
        refine gEx.iconst rfl rfl ?_
        refine gEx.istore (ls' := [some (.ref 81), some (.int x1), some (.int x2), some (.int x3), some (.int x4), some (.int x5), some (.int 0), some (.int (-4)), some (.int (-4)), some (.int 0), some (.int 0)]) rfl rfl rfl ?_
        have hL_64 : ∀ (n : Nat) (v6 : Int32) (v7 : Int32) (v8 : Int32) (v9 : Int32) (v10 : Int32) (m2 : gM), gEx d gcx_234 sh gri 64 [some (.ref 81), some (.int x1), some (.int x2), some (.int x3), some (.int x4), some (.int x5), some (.int v6), some (.int v7), some (.int v8), some (.int v9), some (.int v10)] [] m2 (L_MO_steady_64 x1 (fun v6 v7 v8 v9 v10 m2 => J_MO_steady_162 x5 v6 v7 v8 v9 v10 m2) n v6 v7 v8 v9 v10 m2) := by
          refine gfix_ind (P := fun (f : Int32 → Int32 → Int32 → Int32 → Int32 → gM → Option (Int32 × gM)) => ∀ (v6 : Int32) (v7 : Int32) (v8 : Int32) (v9 : Int32) (v10 : Int32) (m2 : gM), gEx d gcx_234 sh gri 64 [some (.ref 81), some (.int x1), some (.int x2), some (.int x3), some (.int x4), some (.int x5), some (.int v6), some (.int v7), some (.int v8), some (.int v9), some (.int v10)] [] m2 (f v6 v7 v8 v9 v10 m2)) (fun _ _ _ _ _ _ => gEx.none) (fun rec_64 hrec_64 => ?_)
          have hJ_154 : ∀ (v11 : Int32) (v12 : Int32) (v13 : Int32) (v14 : Int32) (v15 : Int32) (v16 : Int32) (m3 : gM), gEx d gcx_234 sh gri 154 [some (.ref 81), some (.int x1), some (.int x2), some (.int x3), some (.int x4), some (.int x5), some (.int v11), some (.int v12), some (.int v13), some (.int v14), some (.int v15)] [.int v16] m3 (J_MO_steady_154 rec_64 v11 v12 v13 v14 v15 v16 m3) := by
            intro v11 v12 v13 v14 v15 v16 m3
            unfold J_MO_steady_154
            refine gEx.istore (ls' := [some (.ref 81), some (.int x1), some (.int x2), some (.int x3), some (.int x4), some (.int x5), some (.int v11), some (.int v12), some (.int v13), some (.int v16), some (.int v15)]) rfl rfl rfl ?_
            refine gEx.iinc (ls' := [some (.ref 81), some (.int x1), some (.int x2), some (.int x3), some (.int x4), some (.int x5), some (.int v11), some (.int v12), some (.int v13), some (.int v16), some (.int (v15 + 1))]) rfl rfl rfl rfl ?_
            refine gEx.goto (tn := 64) rfl rfl rfl ?_
            exact gEx.lab rfl rfl (hrec_64 v11 v12 v13 v16 (v15 + 1) m3)
          have hJ_130 : ∀ (v17 : Int32) (v18 : Int32) (v19 : Int32) (v20 : Int32) (v21 : Int32) (m4 : gM), gEx d gcx_234 sh gri 130 [some (.ref 81), some (.int x1), some (.int x2), some (.int x3), some (.int x4), some (.int x5), some (.int v17), some (.int v18), some (.int v19), some (.int v20), some (.int v21)] [] m4 (J_MO_steady_130 x1 rec_64 v17 v18 v19 v20 v21 m4) := by
            intro v17 v18 v19 v20 v21 m4
            unfold J_MO_steady_130
            refine gEx.aload rfl rfl rfl ?_
            refine gEx.iload rfl rfl rfl ?_
            refine gEx.iload rfl rfl rfl ?_
            refine gEx.callVi rfl rfl rfl rfl (h0 0 _ rfl) rfl (fun _ h => (t_MO_sumOf (by omega) h0) _ h) (fun r5 => ?_)
            refine gEx.aload rfl rfl rfl ?_
            refine gEx.iload rfl rfl rfl ?_
            refine gEx.iload rfl rfl rfl ?_
            refine gEx.callVi rfl rfl rfl rfl (h0 0 _ rfl) rfl (fun _ h => (t_MO_sumOf (by omega) h0) _ h) (fun r6 => ?_)
            refine gEx.icmp_le (tn := 152) rfl rfl rfl ?_ ?_
            · refine gEx.iload rfl rfl rfl ?_
              refine gEx.goto (tn := 154) rfl rfl rfl ?_
              exact gEx.lab rfl rfl (hJ_154 v17 v18 v19 v20 v21 v21 r6.2)
            · refine gEx.iload rfl rfl rfl ?_
              exact gEx.lab rfl rfl (hJ_154 v17 v18 v19 v20 v21 v20 r6.2)
          have hJ_125 : ∀ (v22 : Int32) (v23 : Int32) (v24 : Int32) (v25 : Int32) (v26 : Int32) (v27 : Int32) (m5 : gM), gEx d gcx_234 sh gri 125 [some (.ref 81), some (.int x1), some (.int x2), some (.int x3), some (.int x4), some (.int x5), some (.int v22), some (.int v23), some (.int v24), some (.int v25), some (.int v26)] [.int v27] m5 (J_MO_steady_125 x1 rec_64 v22 v23 v24 v25 v26 v27 m5) := by
            intro v22 v23 v24 v25 v26 v27 m5
            unfold J_MO_steady_125
            refine gEx.istore (ls' := [some (.ref 81), some (.int x1), some (.int x2), some (.int x3), some (.int x4), some (.int x5), some (.int v22), some (.int v23), some (.int v27), some (.int v25), some (.int v26)]) rfl rfl rfl ?_
            refine gEx.iinc (ls' := [some (.ref 81), some (.int x1), some (.int x2), some (.int x3), some (.int x4), some (.int x5), some (.int (v22 + 1)), some (.int v23), some (.int v27), some (.int v25), some (.int v26)]) rfl rfl rfl rfl ?_
            exact gEx.lab rfl rfl (hJ_130 (v22 + 1) v23 v27 v25 v26 m5)
          have hJ_118 : ∀ (v28 : Int32) (v29 : Int32) (v30 : Int32) (v31 : Int32) (v32 : Int32) (m6 : gM), gEx d gcx_234 sh gri 118 [some (.ref 81), some (.int x1), some (.int x2), some (.int x3), some (.int x4), some (.int x5), some (.int v28), some (.int v29), some (.int v30), some (.int v31), some (.int v32)] [] m6 (J_MO_steady_118 x1 rec_64 v28 v29 v30 v31 v32 m6) := by
            intro v28 v29 v30 v31 v32 m6
            unfold J_MO_steady_118
            refine gEx.iload rfl rfl rfl ?_
            refine gEx.goto (tn := 125) rfl rfl rfl ?_
            exact gEx.lab rfl rfl (hJ_125 v28 v29 v30 v31 v32 v32 m6)
          have hJ_94 : ∀ (v33 : Int32) (v34 : Int32) (v35 : Int32) (v36 : Int32) (v37 : Int32) (v38 : Int32) (m7 : gM), gEx d gcx_234 sh gri 94 [some (.ref 81), some (.int x1), some (.int x2), some (.int x3), some (.int x4), some (.int x5), some (.int v33), some (.int v34), some (.int v35), some (.int v36), some (.int v37)] [.int v38] m7 (J_MO_steady_94 x1 rec_64 v33 v34 v35 v36 v37 v38 m7) := by
            intro v33 v34 v35 v36 v37 v38 m7
            unfold J_MO_steady_94
            refine gEx.istore (ls' := [some (.ref 81), some (.int x1), some (.int x2), some (.int x3), some (.int x4), some (.int x5), some (.int v33), some (.int v38), some (.int v35), some (.int v36), some (.int v37)]) rfl rfl rfl ?_
            refine gEx.iload rfl rfl rfl ?_
            refine gEx.if_eq (tn := 118) rfl rfl rfl ?_ ?_
            · exact gEx.lab rfl rfl (hJ_118 v33 v38 v35 v36 v37 m7)
            · refine gEx.aload rfl rfl rfl ?_
              refine gEx.iload rfl rfl rfl ?_
              refine gEx.iload rfl rfl rfl ?_
              refine gEx.callVi rfl rfl rfl rfl (h0 0 _ rfl) rfl (fun _ h => (t_MO_sumOf (by omega) h0) _ h) (fun r7 => ?_)
              refine gEx.aload rfl rfl rfl ?_
              refine gEx.iload rfl rfl rfl ?_
              refine gEx.iload rfl rfl rfl ?_
              refine gEx.callVi rfl rfl rfl rfl (h0 0 _ rfl) rfl (fun _ h => (t_MO_sumOf (by omega) h0) _ h) (fun r8 => ?_)
              refine gEx.icmp_le (tn := 123) rfl rfl rfl ?_ ?_
              · exact gEx.lab rfl rfl (hJ_118 v33 v38 v35 v36 v37 r8.2)
              · refine gEx.iload rfl rfl rfl ?_
                exact gEx.lab rfl rfl (hJ_125 v33 v38 v35 v36 v37 v35 r8.2)
          intro v6 v7 v8 v9 v10 m2
          refine gEx.iload rfl rfl rfl ?_
          refine gEx.iconst rfl rfl ?_
          refine gEx.iload rfl rfl rfl ?_
          refine gEx.ishl rfl rfl ?_
          refine gEx.icmp_ge (tn := 162) rfl rfl rfl ?_ ?_
          · refine gEx.aload rfl rfl rfl ?_
            refine gEx.iload rfl rfl rfl ?_
            refine gEx.iload rfl rfl rfl ?_
            refine gEx.callVi rfl rfl rfl rfl (h0 0 _ rfl) rfl (fun _ h => (t_MO_isSteady (by omega) h0) _ h) (fun r9 => ?_)
            refine gEx.if_eq (tn := 130) rfl rfl rfl ?_ ?_
            · exact gEx.lab rfl rfl (hJ_130 v6 v7 v8 v9 v10 r9.2)
            · refine gEx.iload rfl rfl rfl ?_
              refine gEx.if_ne (tn := 92) rfl rfl rfl ?_ ?_
              · refine gEx.iload rfl rfl rfl ?_
                refine gEx.goto (tn := 94) rfl rfl rfl ?_
                exact gEx.lab rfl rfl (hJ_94 v6 v7 v8 v9 v10 v10 r9.2)
              · refine gEx.iload rfl rfl rfl ?_
                exact gEx.lab rfl rfl (hJ_94 v6 v7 v8 v9 v10 v7 r9.2)
          · exact gEx.lab rfl rfl (hJ_162 v6 v7 v8 v9 v10 m2)
        exact gEx.lab rfl rfl (hL_64 1000 0 (-4) (-4) 0 0 r4)
abbrev gcx_235 : gC := glook (gco_235_0 ++ (gco_235_1))
set_option maxRecDepth 100000 in
set_option maxHeartbeats 4000000 in
theorem t_MO_must {d : Nat} (hd : 9 ≤ d) {sh : gH} {x1 : Int32} {x2 : Int32} {x3 : Int32} {x4 : Int32} {x5 : Int32} (h0 : gHas sh.1 81 gsh_MO) {m : gM} : ∀ x, f_MO_must x1 x2 x3 x4 x5 m = some x → gR gmi gdf gcd d 235 [.ref 81, .int x1, .int x2, .int x3, .int x4, .int x5] (sh, m) ((gri x).1, (sh, (gri x).2)) := by
  obtain ⟨d, rfl⟩ : ∃ e, d = e + 1 := ⟨d - 1, by omega⟩
  refine gR_of (mx := 11) (code := gcx_235) rfl rfl (Nat.le_of_ble_eq_true rfl) ?_
  have hJ_167 : ∀ (v1 : Int32) (v2 : Int32) (v3 : Int32) (v4 : Int32) (m1 : gM), gEx d gcx_235 sh gri 167 [some (.ref 81), some (.int x1), some (.int x2), some (.int x3), some (.int x4), some (.int x5), some (.int v1), some (.int v2), some (.int v3), some (.int v4), none] [] m1 (J_MO_must_167 v1 v2 v3 v4 m1) := by
    intro v1 v2 v3 v4 m1
    unfold J_MO_must_167
    refine gEx.iload rfl rfl rfl ?_
    refine gEx.if_eq (tn := 176) rfl rfl rfl ?_ ?_
    · refine gEx.iload rfl rfl rfl ?_
      refine gEx.if_eq (tn := 190) rfl rfl rfl ?_ ?_
      · refine gEx.lab (ls' := [some (.ref 81), none, none, none, none, none, none, none, none, none, none]) rfl rfl ?_
        refine gEx.iconst rfl rfl ?_
        refine gEx.lab (ls' := [some (.ref 81), none, none, none, none, none, none, none, none, none, none]) rfl rfl ?_
        exact gEx.reti rfl rfl
      · refine gEx.iload rfl rfl rfl ?_
        refine gEx.if_eq (tn := 190) rfl rfl rfl ?_ ?_
        · refine gEx.lab (ls' := [some (.ref 81), none, none, none, none, none, none, none, none, none, none]) rfl rfl ?_
          refine gEx.iconst rfl rfl ?_
          refine gEx.lab (ls' := [some (.ref 81), none, none, none, none, none, none, none, none, none, none]) rfl rfl ?_
          exact gEx.reti rfl rfl
        · refine gEx.iconst rfl rfl ?_
          refine gEx.goto (tn := 191) rfl rfl rfl ?_
          refine gEx.lab (ls' := [some (.ref 81), none, none, none, none, none, none, none, none, none, none]) rfl rfl ?_
          exact gEx.reti rfl rfl
    · refine gEx.iconst rfl rfl ?_
      refine gEx.goto (tn := 191) rfl rfl rfl ?_
      refine gEx.lab (ls' := [some (.ref 81), none, none, none, none, none, none, none, none, none, none]) rfl rfl ?_
      exact gEx.reti rfl rfl
  show gEx d gcx_235 sh gri 0 [some (.ref 81), some (.int x1), some (.int x2), some (.int x3), some (.int x4), some (.int x5), none, none, none, none, none] [] m (f_MO_must x1 x2 x3 x4 x5 m)
  unfold f_MO_must
  refine gEx.aload rfl rfl rfl ?_
  refine gEx.iload rfl rfl rfl ?_
  refine gEx.iload rfl rfl rfl ?_
  refine gEx.iload rfl rfl rfl ?_
  refine gEx.iload rfl rfl rfl ?_
  refine gEx.callVi rfl rfl rfl rfl (h0 0 _ rfl) rfl (fun _ h => (t_MO_isRace (by omega) h0) _ h) (fun r1 => ?_)
  refine gEx.if_eq (tn := 26) rfl rfl rfl ?_ ?_
  · refine gEx.lab (ls' := [some (.ref 81), none, none, none, none, none, none, none, none, none, none]) rfl rfl ?_
    refine gEx.iconst rfl rfl ?_
    exact gEx.reti rfl rfl
  · refine gEx.iload rfl rfl rfl ?_
    refine gEx.i2l rfl rfl ?_
    refine gEx.lconst rfl rfl ?_
    refine gEx.iload rfl rfl rfl ?_
    refine gEx.iconst rfl rfl ?_
    refine gEx.isub rfl rfl ?_
    refine gEx.i2l rfl rfl ?_
    refine gEx.callSi rfl rfl rfl rfl rfl (fun _ h => (t_MO_in (by omega) ) _ h) (fun r2 => ?_)
    refine gEx.if_ne (tn := 28) rfl rfl rfl ?_ ?_
    · refine gEx.lab (ls' := [some (.ref 81), none, none, none, none, none, none, none, none, none, none]) rfl rfl ?_
      refine gEx.iconst rfl rfl ?_
      exact gEx.reti rfl rfl
    · refine gEx.aload rfl rfl rfl ?_
      refine gEx.iload rfl rfl rfl ?_
      refine gEx.callVi rfl rfl rfl rfl (h0 0 _ rfl) rfl (fun _ h => (t_MO_haveSpots (by omega) h0) _ h) (fun r3 => ?_)
      refine gEx.if_ne (tn := 39) rfl rfl rfl ?_ ?_
      · refine gEx.iconst rfl rfl ?_
        exact gEx.reti rfl rfl
      · refine gEx.aload rfl rfl rfl ?_
        refine gEx.iload rfl rfl rfl ?_
        refine gEx.iload rfl rfl rfl ?_
        refine gEx.iload rfl rfl rfl ?_
        refine gEx.iload rfl rfl rfl ?_
        refine gEx.callVv rfl rfl rfl rfl (h0 0 _ rfl) rfl (fun _ h => (t_MO_raceAll (by omega) h0) _ h) (fun r4 => ?_)
        refine gEx.iconst rfl rfl ?_
        refine gEx.istore (ls' := [some (.ref 81), some (.int x1), some (.int x2), some (.int x3), some (.int x4), some (.int x5), some (.int 1), none, none, none, none]) rfl rfl rfl ?_
        refine gEx.iconst rfl rfl ?_
        refine gEx.istore (ls' := [some (.ref 81), some (.int x1), some (.int x2), some (.int x3), some (.int x4), some (.int x5), some (.int 1), some (.int 1), none, none, none]) rfl rfl rfl ?_
        refine gEx.iconst rfl rfl ?_
        refine gEx.istore (ls' := [some (.ref 81), some (.int x1), some (.int x2), some (.int x3), some (.int x4), some (.int x5), some (.int 1), some (.int 1), some (.int 0), none, none]) rfl rfl rfl ?_
        refine gEx.iconst rfl rfl ?_
        refine gEx.istore (ls' := [some (.ref 81), some (.int x1), some (.int x2), some (.int x3), some (.int x4), some (.int x5), some (.int 1), some (.int 1), some (.int 0), some (.int 0), none]) rfl rfl rfl ?_
        have hL_60 : ∀ (n : Nat) (v5 : Int32) (v6 : Int32) (v7 : Int32) (v8 : Int32), gEx d gcx_235 sh gri 60 [some (.ref 81), some (.int x1), some (.int x2), some (.int x3), some (.int x4), some (.int x5), some (.int v5), some (.int v6), some (.int v7), some (.int v8), none] [] r4 (L_MO_must_60 x1 x5 r4 (fun v5 v6 v7 v8 => J_MO_must_167 v5 v6 v7 v8 r4) n v5 v6 v7 v8) := by
          refine gfix_ind (P := fun (f : Int32 → Int32 → Int32 → Int32 → Option (Int32 × gM)) => ∀ (v5 : Int32) (v6 : Int32) (v7 : Int32) (v8 : Int32), gEx d gcx_235 sh gri 60 [some (.ref 81), some (.int x1), some (.int x2), some (.int x3), some (.int x4), some (.int x5), some (.int v5), some (.int v6), some (.int v7), some (.int v8), none] [] r4 (f v5 v6 v7 v8)) (fun _ _ _ _ => gEx.none) (fun rec_60 hrec_60 => ?_)
          have hJ_161 : ∀ (v9 : Int32) (v10 : Int32) (v11 : Int32) (v12 : Int32), gEx d gcx_235 sh gri 161 [some (.ref 81), some (.int x1), some (.int x2), some (.int x3), some (.int x4), some (.int x5), some (.int v9), some (.int v10), some (.int v11), some (.int v12), none] [] r4 (J_MO_must_161 rec_60 v9 v10 v11 v12) := by
            intro v9 v10 v11 v12
            unfold J_MO_must_161
            refine gEx.iinc (ls' := [some (.ref 81), some (.int x1), some (.int x2), some (.int x3), some (.int x4), some (.int x5), some (.int v9), some (.int v10), some (.int v11), some (.int (v12 + 1)), none]) rfl rfl rfl rfl ?_
            refine gEx.goto (tn := 60) rfl rfl rfl ?_
            exact gEx.lab rfl rfl (hrec_60 v9 v10 v11 (v12 + 1))
          have hJ_159 : ∀ (v13 : Int32) (v14 : Int32) (v15 : Int32) (v16 : Int32) (v17 : Int32), gEx d gcx_235 sh gri 159 [some (.ref 81), some (.int x1), some (.int x2), some (.int x3), some (.int x4), some (.int x5), some (.int v13), some (.int v14), some (.int v15), some (.int v16), none] [.int v17] r4 (J_MO_must_159 rec_60 v13 v14 v15 v16 v17) := by
            intro v13 v14 v15 v16 v17
            unfold J_MO_must_159
            refine gEx.istore (ls' := [some (.ref 81), some (.int x1), some (.int x2), some (.int x3), some (.int x4), some (.int x5), some (.int v13), some (.int v14), some (.int v17), some (.int v16), none]) rfl rfl rfl ?_
            exact gEx.lab rfl rfl (hJ_161 v13 v14 v17 v16)
          have hJ_154 : ∀ (v18 : Int32) (v19 : Int32) (v20 : Int32) (v21 : Int32), gEx d gcx_235 sh gri 154 [some (.ref 81), some (.int x1), some (.int x2), some (.int x3), some (.int x4), some (.int x5), some (.int v18), some (.int v19), some (.int v20), some (.int v21), none] [] r4 (J_MO_must_154 rec_60 v18 v19 v20 v21) := by
            intro v18 v19 v20 v21
            unfold J_MO_must_154
            refine gEx.iconst rfl rfl ?_
            refine gEx.goto (tn := 159) rfl rfl rfl ?_
            exact gEx.lab rfl rfl (hJ_159 v18 v19 v20 v21 1)
          have hJ_142 : ∀ (v22 : Int32) (v23 : Int32) (v24 : Int32) (v25 : Int32) (v26 : Int32) (v27 : Int32), gEx d gcx_235 sh gri 142 [some (.ref 81), some (.int x1), some (.int x2), some (.int x3), some (.int x4), some (.int x5), some (.int v22), some (.int v23), some (.int v24), some (.int v25), some (.int v26)] [.int v27] r4 (J_MO_must_142 rec_60 v22 v23 v24 v25 v26 v27) := by
            intro v22 v23 v24 v25 v26 v27
            unfold J_MO_must_142
            refine gEx.istore (ls' := [some (.ref 81), some (.int x1), some (.int x2), some (.int x3), some (.int x4), some (.int x5), some (.int v22), some (.int v27), some (.int v24), some (.int v25), some (.int v26)]) rfl rfl rfl ?_
            refine gEx.iload rfl rfl rfl ?_
            refine gEx.if_ne (tn := 154) rfl rfl rfl ?_ ?_
            · refine gEx.iload rfl rfl rfl ?_
              refine gEx.if_le (tn := 158) rfl rfl rfl ?_ ?_
              · exact gEx.lab rfl rfl (hJ_154 v22 v27 v24 v25)
              · refine gEx.iconst rfl rfl ?_
                exact gEx.lab rfl rfl (hJ_159 v22 v27 v24 v25 0)
            · exact gEx.lab rfl rfl (hJ_154 v22 v27 v24 v25)
          have hJ_141 : ∀ (v28 : Int32) (v29 : Int32) (v30 : Int32) (v31 : Int32) (v32 : Int32), gEx d gcx_235 sh gri 141 [some (.ref 81), some (.int x1), some (.int x2), some (.int x3), some (.int x4), some (.int x5), some (.int v28), some (.int v29), some (.int v30), some (.int v31), some (.int v32)] [] r4 (J_MO_must_141 rec_60 v28 v29 v30 v31 v32) := by
            intro v28 v29 v30 v31 v32
            unfold J_MO_must_141
            refine gEx.iconst rfl rfl ?_
            exact gEx.lab rfl rfl (hJ_142 v28 v29 v30 v31 v32 0)
          have hJ_125 : ∀ (v33 : Int32) (v34 : Int32) (v35 : Int32) (v36 : Int32) (v37 : Int32) (v38 : Int32), gEx d gcx_235 sh gri 125 [some (.ref 81), some (.int x1), some (.int x2), some (.int x3), some (.int x4), some (.int x5), some (.int v33), some (.int v34), some (.int v35), some (.int v36), some (.int v37)] [.int v38] r4 (J_MO_must_125 rec_60 v33 v34 v35 v36 v37 v38) := by
            intro v33 v34 v35 v36 v37 v38
            unfold J_MO_must_125
            refine gEx.istore (ls' := [some (.ref 81), some (.int x1), some (.int x2), some (.int x3), some (.int x4), some (.int x5), some (.int v38), some (.int v34), some (.int v35), some (.int v36), some (.int v37)]) rfl rfl rfl ?_
            refine gEx.iload rfl rfl rfl ?_
            refine gEx.if_eq (tn := 141) rfl rfl rfl ?_ ?_
            · exact gEx.lab rfl rfl (hJ_141 v38 v34 v35 v36 v37)
            · refine gEx.iload rfl rfl rfl ?_
              refine gEx.if_lt (tn := 141) rfl rfl rfl ?_ ?_
              · exact gEx.lab rfl rfl (hJ_141 v38 v34 v35 v36 v37)
              · refine gEx.iconst rfl rfl ?_
                refine gEx.goto (tn := 142) rfl rfl rfl ?_
                exact gEx.lab rfl rfl (hJ_142 v38 v34 v35 v36 v37 1)
          have hJ_124 : ∀ (v39 : Int32) (v40 : Int32) (v41 : Int32) (v42 : Int32) (v43 : Int32), gEx d gcx_235 sh gri 124 [some (.ref 81), some (.int x1), some (.int x2), some (.int x3), some (.int x4), some (.int x5), some (.int v39), some (.int v40), some (.int v41), some (.int v42), some (.int v43)] [] r4 (J_MO_must_124 rec_60 v39 v40 v41 v42 v43) := by
            intro v39 v40 v41 v42 v43
            unfold J_MO_must_124
            refine gEx.iconst rfl rfl ?_
            exact gEx.lab rfl rfl (hJ_125 v39 v40 v41 v42 v43 0)
          intro v5 v6 v7 v8
          refine gEx.iload rfl rfl rfl ?_
          refine gEx.iconst rfl rfl ?_
          refine gEx.iload rfl rfl rfl ?_
          refine gEx.ishl rfl rfl ?_
          refine gEx.icmp_ge (tn := 167) rfl rfl rfl ?_ ?_
          · refine gEx.iload rfl rfl rfl ?_
            refine gEx.iload rfl rfl rfl ?_
            refine gEx.ishr rfl rfl ?_
            refine gEx.iconst rfl rfl ?_
            refine gEx.iand rfl rfl ?_
            refine gEx.if_ne (tn := 161) rfl rfl rfl ?_ ?_
            · refine gEx.aload rfl rfl rfl ?_
              refine gEx.getR rfl rfl (h0 0 _ rfl) rfl ?_
              refine gEx.iconst rfl rfl ?_
              refine gEx.iload rfl rfl rfl ?_
              refine gEx.iconst rfl rfl ?_
              refine gEx.iload rfl rfl rfl ?_
              refine gEx.ishl rfl rfl ?_
              refine gEx.ior rfl rfl ?_
              refine gEx.imul rfl rfl ?_
              refine gEx.iload rfl rfl rfl ?_
              refine gEx.iadd rfl rfl ?_
              refine gEx.iald rfl rfl (h0 43 _ rfl) ?_
              refine gEx.aload rfl rfl rfl ?_
              refine gEx.getR rfl rfl (h0 0 _ rfl) rfl ?_
              refine gEx.iconst rfl rfl ?_
              refine gEx.iload rfl rfl rfl ?_
              refine gEx.imul rfl rfl ?_
              refine gEx.iload rfl rfl rfl ?_
              refine gEx.iadd rfl rfl ?_
              refine gEx.iald rfl rfl (h0 43 _ rfl) ?_
              refine gEx.isub rfl rfl ?_
              refine gEx.istoreL (ls' := fun v44 => [some (.ref 81), some (.int x1), some (.int x2), some (.int x3), some (.int x4), some (.int x5), some (.int v5), some (.int v6), some (.int v7), some (.int v8), some (.int v44)]) rfl rfl (fun _ => rfl) (fun v44 => ?_)
              refine gEx.iload rfl rfl rfl ?_
              refine gEx.if_eq (tn := 124) rfl rfl rfl ?_ ?_
              · exact gEx.lab rfl rfl (hJ_124 v5 v6 v7 v8 v44)
              · refine gEx.iload rfl rfl rfl ?_
                refine gEx.if_le (tn := 124) rfl rfl rfl ?_ ?_
                · refine gEx.iconst rfl rfl ?_
                  refine gEx.goto (tn := 125) rfl rfl rfl ?_
                  exact gEx.lab rfl rfl (hJ_125 v5 v6 v7 v8 v44 1)
                · exact gEx.lab rfl rfl (hJ_124 v5 v6 v7 v8 v44)
            · exact gEx.lab rfl rfl (hJ_161 v5 v6 v7 v8)
          · exact gEx.lab rfl rfl (hJ_167 v5 v6 v7 v8 r4)
        exact gEx.lab rfl rfl (hL_60 1000 1 1 0 0)
abbrev gcx_236 : gC := glook (gco_236_0)
set_option maxRecDepth 100000 in
set_option maxHeartbeats 4000000 in
theorem t_MO_sheet {d : Nat} (hd : 2 ≤ d) {sh : gH} {x1 : Int32} {x2 : Int32} {x3 : Int32} (h0 : gHas sh.1 81 gsh_MO) {m : gM} : ∀ x, f_MO_sheet x1 x2 x3 m = some x → gR gmi gdf gcd d 236 [.ref 81, .int x1, .int x2, .int x3] (sh, m) ((gri x).1, (sh, (gri x).2)) := by
  obtain ⟨d, rfl⟩ : ∃ e, d = e + 1 := ⟨d - 1, by omega⟩
  refine gR_of (mx := 5) (code := gcx_236) rfl rfl (Nat.le_of_ble_eq_true rfl) ?_
  show gEx d gcx_236 sh gri 0 [some (.ref 81), some (.int x1), some (.int x2), some (.int x3), none] [] m (f_MO_sheet x1 x2 x3 m)
  unfold f_MO_sheet
  refine gEx.iload rfl rfl rfl ?_
  refine gEx.i2l rfl rfl ?_
  refine gEx.lconst rfl rfl ?_
  refine gEx.lconst rfl rfl ?_
  refine gEx.callSi rfl rfl rfl rfl rfl (fun _ h => (t_MO_in (by omega) ) _ h) (fun r1 => ?_)
  refine gEx.if_eq (tn := 30) rfl rfl rfl ?_ ?_
  · refine gEx.lab (ls' := [some (.ref 81), none, none, none, none]) rfl rfl ?_
    refine gEx.iconst rfl rfl ?_
    exact gEx.reti rfl rfl
  · refine gEx.iload rfl rfl rfl ?_
    refine gEx.i2l rfl rfl ?_
    refine gEx.lconst rfl rfl ?_
    refine gEx.lconst rfl rfl ?_
    refine gEx.callSi rfl rfl rfl rfl rfl (fun _ h => (t_MO_in (by omega) ) _ h) (fun r2 => ?_)
    refine gEx.if_eq (tn := 30) rfl rfl rfl ?_ ?_
    · refine gEx.lab (ls' := [some (.ref 81), none, none, none, none]) rfl rfl ?_
      refine gEx.iconst rfl rfl ?_
      exact gEx.reti rfl rfl
    · refine gEx.iload rfl rfl rfl ?_
      refine gEx.iconst rfl rfl ?_
      refine gEx.icmp_le (tn := 32) rfl rfl rfl ?_ ?_
      · refine gEx.lab (ls' := [some (.ref 81), none, none, none, none]) rfl rfl ?_
        refine gEx.iconst rfl rfl ?_
        exact gEx.reti rfl rfl
      · refine gEx.iload rfl rfl rfl ?_
        refine gEx.if_ge (tn := 39) rfl rfl rfl ?_ ?_
        · refine gEx.iconst rfl rfl ?_
          exact gEx.reti rfl rfl
        · refine gEx.aload rfl rfl rfl ?_
          refine gEx.getR rfl rfl (h0 0 _ rfl) rfl ?_
          refine gEx.iload rfl rfl rfl ?_
          refine gEx.iload rfl rfl rfl ?_
          refine gEx.iast rfl rfl (h0 44 _ rfl) (fun m1 => ?_)
          refine gEx.aload rfl rfl rfl ?_
          refine gEx.getR rfl rfl (h0 0 _ rfl) rfl ?_
          refine gEx.iload rfl rfl rfl ?_
          refine gEx.iload rfl rfl rfl ?_
          refine gEx.iast rfl rfl (h0 45 _ rfl) (fun m2 => ?_)
          refine gEx.iconst rfl rfl ?_
          refine gEx.istore (ls' := [some (.ref 81), some (.int x1), some (.int x2), some (.int x3), some (.int 0)]) rfl rfl rfl ?_
          have hL_56 : ∀ (n : Nat) (v1 : Int32) (m3 : gM), gEx d gcx_236 sh gri 56 [some (.ref 81), some (.int x1), some (.int x2), some (.int x3), some (.int v1)] [] m3 (L_MO_sheet_56 x1 n v1 m3) := by
            refine gfix_ind (P := fun (f : Int32 → gM → Option (Int32 × gM)) => ∀ (v1 : Int32) (m3 : gM), gEx d gcx_236 sh gri 56 [some (.ref 81), some (.int x1), some (.int x2), some (.int x3), some (.int v1)] [] m3 (f v1 m3)) (fun _ _ => gEx.none) (fun rec_56 hrec_56 => ?_)
            intro v1 m3
            refine gEx.iload rfl rfl rfl ?_
            refine gEx.iconst rfl rfl ?_
            refine gEx.icmp_ge (tn := 82) rfl rfl rfl ?_ ?_
            · refine gEx.aload rfl rfl rfl ?_
              refine gEx.getR rfl rfl (h0 0 _ rfl) rfl ?_
              refine gEx.iconst rfl rfl ?_
              refine gEx.iload rfl rfl rfl ?_
              refine gEx.imul rfl rfl ?_
              refine gEx.iload rfl rfl rfl ?_
              refine gEx.iadd rfl rfl ?_
              refine gEx.iconst rfl rfl ?_
              refine gEx.iast rfl rfl (h0 46 _ rfl) (fun m4 => ?_)
              refine gEx.iinc (ls' := [some (.ref 81), some (.int x1), some (.int x2), some (.int x3), some (.int (v1 + 1))]) rfl rfl rfl rfl ?_
              refine gEx.goto (tn := 56) rfl rfl rfl ?_
              exact gEx.lab rfl rfl (hrec_56 (v1 + 1) m4)
            · refine gEx.iconst rfl rfl ?_
              exact gEx.reti rfl rfl
          exact gEx.lab rfl rfl (hL_56 1000 0 m2)
abbrev gcx_237 : gC := glook (gco_237_0 ++ (gco_237_1))
set_option maxRecDepth 100000 in
set_option maxHeartbeats 4000000 in
theorem t_MO_write {d : Nat} (hd : 2 ≤ d) {sh : gH} {x1 : Int32} {x2 : Int32} {x3 : Int32} (h0 : gHas sh.1 81 gsh_MO) {m : gM} : ∀ x, f_MO_write x1 x2 x3 m = some x → gR gmi gdf gcd d 237 [.ref 81, .int x1, .int x2, .int x3] (sh, m) ((gri x).1, (sh, (gri x).2)) := by
  obtain ⟨d, rfl⟩ : ∃ e, d = e + 1 := ⟨d - 1, by omega⟩
  refine gR_of (mx := 4) (code := gcx_237) rfl rfl (Nat.le_of_ble_eq_true rfl) ?_
  have hJ_99 : ∀ (v1 : Int32) (v2 : Int32) (m1 : gM), gEx d gcx_237 sh gri 99 [some (.ref 81), none, none, none] [.int v2, .int v1, .ref 127] m1 (J_MO_write_99 v1 v2 m1) := by
    intro v1 v2 m1
    unfold J_MO_write_99
    refine gEx.iast rfl rfl (h0 46 _ rfl) (fun m2 => ?_)
    refine gEx.iconst rfl rfl ?_
    exact gEx.reti rfl rfl
  show gEx d gcx_237 sh gri 0 [some (.ref 81), some (.int x1), some (.int x2), some (.int x3)] [] m (f_MO_write x1 x2 x3 m)
  unfold f_MO_write
  refine gEx.iload rfl rfl rfl ?_
  refine gEx.i2l rfl rfl ?_
  refine gEx.lconst rfl rfl ?_
  refine gEx.lconst rfl rfl ?_
  refine gEx.callSi rfl rfl rfl rfl rfl (fun _ h => (t_MO_in (by omega) ) _ h) (fun r1 => ?_)
  refine gEx.if_ne (tn := 14) rfl rfl rfl ?_ ?_
  · refine gEx.iconst rfl rfl ?_
    exact gEx.reti rfl rfl
  · refine gEx.aload rfl rfl rfl ?_
    refine gEx.getR rfl rfl (h0 0 _ rfl) rfl ?_
    refine gEx.iload rfl rfl rfl ?_
    refine gEx.iald rfl rfl (h0 44 _ rfl) ?_
    refine gEx.iconst rfl rfl ?_
    refine gEx.icmp_ne (tn := 28) rfl rfl rfl ?_ ?_
    · refine gEx.iconst rfl rfl ?_
      exact gEx.reti rfl rfl
    · refine gEx.iload rfl rfl rfl ?_
      refine gEx.i2l rfl rfl ?_
      refine gEx.lconst rfl rfl ?_
      refine gEx.aload rfl rfl rfl ?_
      refine gEx.getR rfl rfl (h0 0 _ rfl) rfl ?_
      refine gEx.iload rfl rfl rfl ?_
      refine gEx.iald rfl rfl (h0 45 _ rfl) ?_
      refine gEx.iconst rfl rfl ?_
      refine gEx.isub rfl rfl ?_
      refine gEx.i2l rfl rfl ?_
      refine gEx.callSi rfl rfl rfl rfl rfl (fun _ h => (t_MO_in (by omega) ) _ h) (fun r2 => ?_)
      refine gEx.if_ne (tn := 49) rfl rfl rfl ?_ ?_
      · refine gEx.iconst rfl rfl ?_
        exact gEx.reti rfl rfl
      · refine gEx.aload rfl rfl rfl ?_
        refine gEx.getR rfl rfl (h0 0 _ rfl) rfl ?_
        refine gEx.iconst rfl rfl ?_
        refine gEx.iload rfl rfl rfl ?_
        refine gEx.imul rfl rfl ?_
        refine gEx.iload rfl rfl rfl ?_
        refine gEx.iadd rfl rfl ?_
        refine gEx.aload rfl rfl rfl ?_
        refine gEx.getR rfl rfl (h0 0 _ rfl) rfl ?_
        refine gEx.iload rfl rfl rfl ?_
        refine gEx.iald rfl rfl (h0 44 _ rfl) ?_
        refine gEx.if_ne (tn := 78) rfl rfl rfl ?_ ?_
        · refine gEx.iload rfl rfl rfl ?_
          refine gEx.iconst rfl rfl ?_
          refine gEx.ishl rfl rfl ?_
          refine gEx.iconst rfl rfl ?_
          refine gEx.ishr rfl rfl ?_
          refine gEx.goto (tn := 99) rfl rfl rfl ?_
          exact gEx.lab rfl rfl (hJ_99 ((72 * x1) + x2) ((x3 <<< (24 &&& 31)) >>> (24 &&& 31)) r2.2)
        · refine gEx.aload rfl rfl rfl ?_
          refine gEx.getR rfl rfl (h0 0 _ rfl) rfl ?_
          refine gEx.iload rfl rfl rfl ?_
          refine gEx.iald rfl rfl (h0 44 _ rfl) ?_
          refine gEx.iconst rfl rfl ?_
          refine gEx.icmp_ne (tn := 98) rfl rfl rfl ?_ ?_
          · refine gEx.iload rfl rfl rfl ?_
            refine gEx.iconst rfl rfl ?_
            refine gEx.ishl rfl rfl ?_
            refine gEx.iconst rfl rfl ?_
            refine gEx.ishr rfl rfl ?_
            refine gEx.goto (tn := 99) rfl rfl rfl ?_
            exact gEx.lab rfl rfl (hJ_99 ((72 * x1) + x2) ((x3 <<< (16 &&& 31)) >>> (16 &&& 31)) r2.2)
          · refine gEx.iload rfl rfl rfl ?_
            exact gEx.lab rfl rfl (hJ_99 ((72 * x1) + x2) x3 r2.2)
abbrev gcx_238 : gC := glook (gco_238_0 ++ (gco_238_1))
set_option maxRecDepth 100000 in
set_option maxHeartbeats 4000000 in
theorem t_MO_scan {d : Nat} (hd : 2 ≤ d) {sh : gH} {x1 : Int32} {x2 : Int32} {x3 : Int32} (h0 : gHas sh.1 81 gsh_MO) {m : gM} : ∀ x, f_MO_scan x1 x2 x3 m = some x → gR gmi gdf gcd d 238 [.ref 81, .int x1, .int x2, .int x3] (sh, m) ((gri x).1, (sh, (gri x).2)) := by
  obtain ⟨d, rfl⟩ : ∃ e, d = e + 1 := ⟨d - 1, by omega⟩
  refine gR_of (mx := 6) (code := gcx_238) rfl rfl (Nat.le_of_ble_eq_true rfl) ?_
  have hJ_129 : ∀ (v1 : Int32) (m1 : gM), gEx d gcx_238 sh gri 129 [some (.ref 81), some (.int x1), some (.int x2), some (.int x3), some (.int v1), none] [] m1 (J_MO_scan_129 x1 x3 v1 m1) := by
    intro v1 m1
    unfold J_MO_scan_129
    refine gEx.iconst rfl rfl ?_
    refine gEx.istore (ls' := [some (.ref 81), some (.int x1), some (.int x2), some (.int x3), some (.int 0), none]) rfl rfl rfl ?_
    refine gEx.iconst rfl rfl ?_
    refine gEx.istore (ls' := [some (.ref 81), some (.int x1), some (.int x2), some (.int x3), some (.int 0), some (.int 0)]) rfl rfl rfl ?_
    have hL_135 : ∀ (n : Nat) (v2 : Int32) (v3 : Int32) (m2 : gM), gEx d gcx_238 sh gri 135 [some (.ref 81), some (.int x1), some (.int x2), some (.int x3), some (.int v2), some (.int v3)] [] m2 (L_MO_scan_135 x1 x3 n v2 v3 m2) := by
      refine gfix_ind (P := fun (f : Int32 → Int32 → gM → Option (Int32 × gM)) => ∀ (v2 : Int32) (v3 : Int32) (m2 : gM), gEx d gcx_238 sh gri 135 [some (.ref 81), some (.int x1), some (.int x2), some (.int x3), some (.int v2), some (.int v3)] [] m2 (f v2 v3 m2)) (fun _ _ _ => gEx.none) (fun rec_135 hrec_135 => ?_)
      intro v2 v3 m2
      refine gEx.iload rfl rfl rfl ?_
      refine gEx.aload rfl rfl rfl ?_
      refine gEx.callVi rfl rfl rfl rfl (h0 0 _ rfl) rfl (fun _ h => (t_MO_cells (by omega) h0) _ h) (fun r1 => ?_)
      refine gEx.icmp_ge (tn := 189) rfl rfl rfl ?_ ?_
      · refine gEx.aload rfl rfl rfl ?_
        refine gEx.iload rfl rfl rfl ?_
        refine gEx.aload rfl rfl rfl ?_
        refine gEx.getR rfl rfl (h0 0 _ rfl) rfl ?_
        refine gEx.iconst rfl rfl ?_
        refine gEx.iload rfl rfl rfl ?_
        refine gEx.imul rfl rfl ?_
        refine gEx.iload rfl rfl rfl ?_
        refine gEx.iadd rfl rfl ?_
        refine gEx.iload rfl rfl rfl ?_
        refine gEx.iadd rfl rfl ?_
        refine gEx.iald rfl rfl (h0 46 _ rfl) ?_
        refine gEx.callVv rfl rfl rfl rfl (h0 0 _ rfl) rfl (fun _ h => (t_MO_putOil (by omega) h0) _ h) (fun r2 => ?_)
        refine gEx.iload rfl rfl rfl ?_
        refine gEx.aload rfl rfl rfl ?_
        refine gEx.getR rfl rfl (h0 0 _ rfl) rfl ?_
        refine gEx.iconst rfl rfl ?_
        refine gEx.iload rfl rfl rfl ?_
        refine gEx.imul rfl rfl ?_
        refine gEx.iload rfl rfl rfl ?_
        refine gEx.iadd rfl rfl ?_
        refine gEx.iload rfl rfl rfl ?_
        refine gEx.iadd rfl rfl ?_
        refine gEx.iald rfl rfl (h0 46 _ rfl) ?_
        refine gEx.iadd rfl rfl ?_
        refine gEx.istoreL (ls' := fun v4 => [some (.ref 81), some (.int x1), some (.int x2), some (.int x3), some (.int v4), some (.int v3)]) rfl rfl (fun _ => rfl) (fun v4 => ?_)
        refine gEx.iinc (ls' := [some (.ref 81), some (.int x1), some (.int x2), some (.int x3), some (.int v4), some (.int (v3 + 1))]) rfl rfl rfl rfl ?_
        refine gEx.goto (tn := 135) rfl rfl rfl ?_
        exact gEx.lab rfl rfl (hrec_135 v4 (v3 + 1) r2)
      · refine gEx.iload rfl rfl rfl ?_
        exact gEx.reti rfl rfl
    exact gEx.lab rfl rfl (hL_135 1000 0 0 m1)
  have hJ_117 : ∀ (v5 : Int32) (m3 : gM), gEx d gcx_238 sh gri 117 [some (.ref 81), some (.int x1), some (.int x2), some (.int x3), some (.int v5), none] [] m3 (J_MO_scan_117 v5 m3) := by
    intro v5 m3
    unfold J_MO_scan_117
    refine gEx.iconst rfl rfl ?_
    refine gEx.iload rfl rfl rfl ?_
    refine gEx.isub rfl rfl ?_
    exact gEx.reti rfl rfl
  show gEx d gcx_238 sh gri 0 [some (.ref 81), some (.int x1), some (.int x2), some (.int x3), none, none] [] m (f_MO_scan x1 x2 x3 m)
  unfold f_MO_scan
  refine gEx.iload rfl rfl rfl ?_
  refine gEx.i2l rfl rfl ?_
  refine gEx.lconst rfl rfl ?_
  refine gEx.lconst rfl rfl ?_
  refine gEx.callSi rfl rfl rfl rfl rfl (fun _ h => (t_MO_in (by omega) ) _ h) (fun r3 => ?_)
  refine gEx.if_eq (tn := 24) rfl rfl rfl ?_ ?_
  · refine gEx.lab (ls' := [some (.ref 81), none, none, none, none, none]) rfl rfl ?_
    refine gEx.iconst rfl rfl ?_
    exact gEx.reti rfl rfl
  · refine gEx.iload rfl rfl rfl ?_
    refine gEx.i2l rfl rfl ?_
    refine gEx.lconst rfl rfl ?_
    refine gEx.lconst rfl rfl ?_
    refine gEx.callSi rfl rfl rfl rfl rfl (fun _ h => (t_MO_in (by omega) ) _ h) (fun r4 => ?_)
    refine gEx.if_ne (tn := 26) rfl rfl rfl ?_ ?_
    · refine gEx.lab (ls' := [some (.ref 81), none, none, none, none, none]) rfl rfl ?_
      refine gEx.iconst rfl rfl ?_
      exact gEx.reti rfl rfl
    · refine gEx.aload rfl rfl rfl ?_
      refine gEx.getR rfl rfl (h0 0 _ rfl) rfl ?_
      refine gEx.iload rfl rfl rfl ?_
      refine gEx.iald rfl rfl (h0 44 _ rfl) ?_
      refine gEx.iload rfl rfl rfl ?_
      refine gEx.icmp_eq (tn := 55) rfl rfl rfl ?_ ?_
      · refine gEx.iconst rfl rfl ?_
        refine gEx.istore (ls' := [some (.ref 81), some (.int x1), some (.int x2), some (.int x3), some (.int 0), none]) rfl rfl rfl ?_
        have hL_58 : ∀ (n : Nat) (v6 : Int32) (m4 : gM), gEx d gcx_238 sh gri 58 [some (.ref 81), some (.int x1), some (.int x2), some (.int x3), some (.int v6), none] [] m4 (L_MO_scan_58 x1 x3 (fun v6 m4 => J_MO_scan_129 x1 x3 v6 m4) n v6 m4) := by
          refine gfix_ind (P := fun (f : Int32 → gM → Option (Int32 × gM)) => ∀ (v6 : Int32) (m4 : gM), gEx d gcx_238 sh gri 58 [some (.ref 81), some (.int x1), some (.int x2), some (.int x3), some (.int v6), none] [] m4 (f v6 m4)) (fun _ _ => gEx.none) (fun rec_58 hrec_58 => ?_)
          intro v6 m4
          refine gEx.iload rfl rfl rfl ?_
          refine gEx.aload rfl rfl rfl ?_
          refine gEx.callVi rfl rfl rfl rfl (h0 0 _ rfl) rfl (fun _ h => (t_MO_cells (by omega) h0) _ h) (fun r5 => ?_)
          refine gEx.icmp_ge (tn := 129) rfl rfl rfl ?_ ?_
          · refine gEx.iload rfl rfl rfl ?_
            refine gEx.i2l rfl rfl ?_
            refine gEx.iload rfl rfl rfl ?_
            refine gEx.i2l rfl rfl ?_
            refine gEx.ladd rfl rfl ?_
            refine gEx.lconst rfl rfl ?_
            refine gEx.aload rfl rfl rfl ?_
            refine gEx.getR rfl rfl (h0 0 _ rfl) rfl ?_
            refine gEx.iload rfl rfl rfl ?_
            refine gEx.iald rfl rfl (h0 45 _ rfl) ?_
            refine gEx.iconst rfl rfl ?_
            refine gEx.isub rfl rfl ?_
            refine gEx.i2l rfl rfl ?_
            refine gEx.callSi rfl rfl rfl rfl rfl (fun _ h => (t_MO_in (by omega) ) _ h) (fun r6 => ?_)
            refine gEx.if_ne (tn := 92) rfl rfl rfl ?_ ?_
            · refine gEx.iconst rfl rfl ?_
              exact gEx.reti rfl rfl
            · refine gEx.aload rfl rfl rfl ?_
              refine gEx.getR rfl rfl (h0 0 _ rfl) rfl ?_
              refine gEx.iconst rfl rfl ?_
              refine gEx.iload rfl rfl rfl ?_
              refine gEx.imul rfl rfl ?_
              refine gEx.iload rfl rfl rfl ?_
              refine gEx.iadd rfl rfl ?_
              refine gEx.iload rfl rfl rfl ?_
              refine gEx.iadd rfl rfl ?_
              refine gEx.iald rfl rfl (h0 46 _ rfl) ?_
              refine gEx.i2l rfl rfl ?_
              refine gEx.lconst rfl rfl ?_
              refine gEx.lconst rfl rfl ?_
              refine gEx.callSi rfl rfl rfl rfl rfl (fun _ h => (t_MO_in (by omega) ) _ h) (fun r7 => ?_)
              refine gEx.if_ne (tn := 123) rfl rfl rfl ?_ ?_
              · exact gEx.lab rfl rfl (hJ_117 v6 r7.2)
              · refine gEx.iinc (ls' := [some (.ref 81), some (.int x1), some (.int x2), some (.int x3), some (.int (v6 + 1)), none]) rfl rfl rfl rfl ?_
                refine gEx.goto (tn := 58) rfl rfl rfl ?_
                exact gEx.lab rfl rfl (hrec_58 (v6 + 1) r7.2)
          · exact gEx.lab rfl rfl (hJ_129 v6 r5.2)
        exact gEx.lab rfl rfl (hL_58 1000 0 r4.2)
      · refine gEx.aload rfl rfl rfl ?_
        refine gEx.getR rfl rfl (h0 0 _ rfl) rfl ?_
        refine gEx.iload rfl rfl rfl ?_
        refine gEx.iald rfl rfl (h0 44 _ rfl) ?_
        refine gEx.iconst rfl rfl ?_
        refine gEx.icmp_ne (tn := 52) rfl rfl rfl ?_ ?_
        · refine gEx.iconst rfl rfl ?_
          refine gEx.goto (tn := 54) rfl rfl rfl ?_
          refine gEx.lab (ls' := [some (.ref 81), none, none, none, none, none]) rfl rfl ?_
          exact gEx.reti rfl rfl
        · refine gEx.iconst rfl rfl ?_
          refine gEx.lab (ls' := [some (.ref 81), none, none, none, none, none]) rfl rfl ?_
          exact gEx.reti rfl rfl
abbrev gcx_239 : gC := glook (gco_239_0 ++ (gco_239_1))
set_option maxRecDepth 100000 in
set_option maxHeartbeats 4000000 in
theorem t_MO_count {d : Nat} (hd : 6 ≤ d) {sh : gH} {x1 : Int32} (h0 : gHas sh.1 81 gsh_MO) {m : gM} : ∀ x, f_MO_count x1 m = some x → gR gmi gdf gcd d 239 [.ref 81, .int x1] (sh, m) ((gri x).1, (sh, (gri x).2)) := by
  obtain ⟨d, rfl⟩ : ∃ e, d = e + 1 := ⟨d - 1, by omega⟩
  refine gR_of (mx := 7) (code := gcx_239) rfl rfl (Nat.le_of_ble_eq_true rfl) ?_
  have hJ_87 : ∀ (v1 : Int32) (v2 : Int32) (v3 : Int32) (v4 : Int32) (v5 : Int32) (m1 : gM), gEx d gcx_239 sh gri 87 [some (.ref 81), some (.int x1), some (.int v1), some (.int v2), some (.int v3), some (.int v4), some (.int v5)] [] m1 (J_MO_count_87 x1 v1 v2 v3 v4 v5 m1) := by
    intro v1 v2 v3 v4 v5 m1
    unfold J_MO_count_87
    refine gEx.iload rfl rfl rfl ?_
    refine gEx.sw (dft := 238) (ps := #[(0, 160), (1, 165), (2, 167), (3, 169), (4, 174), (5, 179), (6, 184), (7, 189), (8, 194), (9, 197), (10, 200), (11, 205), (12, 210), (13, 215)]) rfl rfl [(0, (f_MO_cells m1).bind fun (r1 : Int32 × gM) => some (r1.1, r1.2)), (1, some (v1, m1)), (2, some (v2, m1)), (3, some (gfd m1 81 8, m1)), (4, some (gfd m1 81 10, m1)), (5, some (gfd m1 81 15, m1)), (6, some (gfd m1 81 48, m1)), (7, some (gfd m1 81 2, m1)), (8, some (v3, m1)), (9, some (v4, m1)), (10, (f_MO_hotAll m1).bind fun (r2 : Int32 × gM) => some (r2.1, r2.2)), (11, some (gfd m1 81 60, m1)), (12, some (gfd m1 81 37, m1)), (13, gok (gib 0 4) (if (grd m1 125 0) = (-4) then (some ((-4), m1)) else (gok (gib 0 4) (some (grd m1 126 0, m1)))))] (some ((-1), m1)) ⟨rfl, ?_, ⟨rfl, ?_, ⟨rfl, ?_, ⟨rfl, ?_, ⟨rfl, ?_, ⟨rfl, ?_, ⟨rfl, ?_, ⟨rfl, ?_, ⟨rfl, ?_, ⟨rfl, ?_, ⟨rfl, ?_, ⟨rfl, ?_, ⟨rfl, ?_, ⟨rfl, ?_, trivial⟩⟩⟩⟩⟩⟩⟩⟩⟩⟩⟩⟩⟩⟩ ?_
    · show gEx d gcx_239 sh gri 160 _ _ _ _
      refine gEx.aload rfl rfl rfl ?_
      refine gEx.callVi rfl rfl rfl rfl (h0 0 _ rfl) rfl (fun _ h => (t_MO_cells (by omega) h0) _ h) (fun r1 => ?_)
      exact gEx.reti rfl rfl
    · show gEx d gcx_239 sh gri 165 _ _ _ _
      refine gEx.iload rfl rfl rfl ?_
      exact gEx.reti rfl rfl
    · show gEx d gcx_239 sh gri 167 _ _ _ _
      refine gEx.iload rfl rfl rfl ?_
      exact gEx.reti rfl rfl
    · show gEx d gcx_239 sh gri 169 _ _ _ _
      refine gEx.aload rfl rfl rfl ?_
      refine gEx.getI rfl rfl (h0 0 _ rfl) rfl ?_
      exact gEx.reti rfl rfl
    · show gEx d gcx_239 sh gri 174 _ _ _ _
      refine gEx.aload rfl rfl rfl ?_
      refine gEx.getI rfl rfl (h0 0 _ rfl) rfl ?_
      exact gEx.reti rfl rfl
    · show gEx d gcx_239 sh gri 179 _ _ _ _
      refine gEx.aload rfl rfl rfl ?_
      refine gEx.getI rfl rfl (h0 0 _ rfl) rfl ?_
      exact gEx.reti rfl rfl
    · show gEx d gcx_239 sh gri 184 _ _ _ _
      refine gEx.aload rfl rfl rfl ?_
      refine gEx.getI rfl rfl (h0 0 _ rfl) rfl ?_
      exact gEx.reti rfl rfl
    · show gEx d gcx_239 sh gri 189 _ _ _ _
      refine gEx.aload rfl rfl rfl ?_
      refine gEx.getI rfl rfl (h0 0 _ rfl) rfl ?_
      exact gEx.reti rfl rfl
    · show gEx d gcx_239 sh gri 194 _ _ _ _
      refine gEx.iload rfl rfl rfl ?_
      exact gEx.reti rfl rfl
    · show gEx d gcx_239 sh gri 197 _ _ _ _
      refine gEx.iload rfl rfl rfl ?_
      exact gEx.reti rfl rfl
    · show gEx d gcx_239 sh gri 200 _ _ _ _
      refine gEx.aload rfl rfl rfl ?_
      refine gEx.callVi rfl rfl rfl rfl (h0 0 _ rfl) rfl (fun _ h => (t_MO_hotAll (by omega) h0) _ h) (fun r2 => ?_)
      exact gEx.reti rfl rfl
    · show gEx d gcx_239 sh gri 205 _ _ _ _
      refine gEx.aload rfl rfl rfl ?_
      refine gEx.getI rfl rfl (h0 0 _ rfl) rfl ?_
      exact gEx.reti rfl rfl
    · show gEx d gcx_239 sh gri 210 _ _ _ _
      refine gEx.aload rfl rfl rfl ?_
      refine gEx.getI rfl rfl (h0 0 _ rfl) rfl ?_
      exact gEx.reti rfl rfl
    · show gEx d gcx_239 sh gri 215 _ _ _ _
      refine gEx.aload rfl rfl rfl ?_
      refine gEx.getR rfl rfl (h0 0 _ rfl) rfl ?_
      refine gEx.iconst rfl rfl ?_
      refine gEx.iald rfl rfl (h0 44 _ rfl) ?_
      refine gEx.iconst rfl rfl ?_
      refine gEx.icmp_ne (tn := 231) rfl rfl rfl ?_ ?_
      · refine gEx.iconst rfl rfl ?_
        refine gEx.goto (tn := 237) rfl rfl rfl ?_
        refine gEx.lab (ls' := [some (.ref 81), none, none, none, none, none, none]) rfl rfl ?_
        exact gEx.reti rfl rfl
      · refine gEx.aload rfl rfl rfl ?_
        refine gEx.getR rfl rfl (h0 0 _ rfl) rfl ?_
        refine gEx.iconst rfl rfl ?_
        refine gEx.iald rfl rfl (h0 45 _ rfl) ?_
        refine gEx.lab (ls' := [some (.ref 81), none, none, none, none, none, none]) rfl rfl ?_
        exact gEx.reti rfl rfl
    · show gEx d gcx_239 sh gri 238 _ _ _ _
      refine gEx.iconst rfl rfl ?_
      exact gEx.reti rfl rfl
  have hJ_47 : ∀ (v6 : Int32) (v7 : Int32) (v8 : Int32) (v9 : Int32) (v10 : Int32) (m2 : gM), gEx d gcx_239 sh gri 47 [some (.ref 81), some (.int x1), some (.int v6), some (.int v7), some (.int v8), some (.int v9), some (.int v10)] [] m2 (J_MO_count_47 x1 v6 v7 v8 v9 v10 m2) := by
    intro v6 v7 v8 v9 v10 m2
    unfold J_MO_count_47
    refine gEx.iconst rfl rfl ?_
    refine gEx.istore (ls' := [some (.ref 81), some (.int x1), some (.int v6), some (.int v7), some (.int v8), some (.int v9), some (.int 0)]) rfl rfl rfl ?_
    have hL_50 : ∀ (n : Nat) (v11 : Int32) (v12 : Int32) (v13 : Int32), gEx d gcx_239 sh gri 50 [some (.ref 81), some (.int x1), some (.int v6), some (.int v7), some (.int v11), some (.int v12), some (.int v13)] [] m2 (L_MO_count_50 m2 (fun v11 v12 v13 => J_MO_count_87 x1 v6 v7 v11 v12 v13 m2) n v11 v12 v13) := by
      refine gfix_ind (P := fun (f : Int32 → Int32 → Int32 → Option (Int32 × gM)) => ∀ (v11 : Int32) (v12 : Int32) (v13 : Int32), gEx d gcx_239 sh gri 50 [some (.ref 81), some (.int x1), some (.int v6), some (.int v7), some (.int v11), some (.int v12), some (.int v13)] [] m2 (f v11 v12 v13)) (fun _ _ _ => gEx.none) (fun rec_50 hrec_50 => ?_)
      intro v11 v12 v13
      refine gEx.iload rfl rfl rfl ?_
      refine gEx.iconst rfl rfl ?_
      refine gEx.icmp_ge (tn := 87) rfl rfl rfl ?_ ?_
      · refine gEx.iload rfl rfl rfl ?_
        refine gEx.aload rfl rfl rfl ?_
        refine gEx.getR rfl rfl (h0 0 _ rfl) rfl ?_
        refine gEx.iload rfl rfl rfl ?_
        refine gEx.iald rfl rfl (h0 19 _ rfl) ?_
        refine gEx.iadd rfl rfl ?_
        refine gEx.istoreL (ls' := fun v14 => [some (.ref 81), some (.int x1), some (.int v6), some (.int v7), some (.int v14), some (.int v12), some (.int v13)]) rfl rfl (fun _ => rfl) (fun v14 => ?_)
        refine gEx.iload rfl rfl rfl ?_
        refine gEx.aload rfl rfl rfl ?_
        refine gEx.getR rfl rfl (h0 0 _ rfl) rfl ?_
        refine gEx.iload rfl rfl rfl ?_
        refine gEx.iald rfl rfl (h0 20 _ rfl) ?_
        refine gEx.iadd rfl rfl ?_
        refine gEx.istoreL (ls' := fun v15 => [some (.ref 81), some (.int x1), some (.int v6), some (.int v7), some (.int v14), some (.int v15), some (.int v13)]) rfl rfl (fun _ => rfl) (fun v15 => ?_)
        refine gEx.iinc (ls' := [some (.ref 81), some (.int x1), some (.int v6), some (.int v7), some (.int v14), some (.int v15), some (.int (v13 + 1))]) rfl rfl rfl rfl ?_
        refine gEx.goto (tn := 50) rfl rfl rfl ?_
        exact gEx.lab rfl rfl (hrec_50 v14 v15 (v13 + 1))
      · exact gEx.lab rfl rfl (hJ_87 v6 v7 v11 v12 v13 m2)
    exact gEx.lab rfl rfl (hL_50 1000 v8 v9 0)
  show gEx d gcx_239 sh gri 0 [some (.ref 81), some (.int x1), none, none, none, none, none] [] m (f_MO_count x1 m)
  unfold f_MO_count
  refine gEx.iconst rfl rfl ?_
  refine gEx.istore (ls' := [some (.ref 81), some (.int x1), some (.int 0), none, none, none, none]) rfl rfl rfl ?_
  refine gEx.iconst rfl rfl ?_
  refine gEx.istore (ls' := [some (.ref 81), some (.int x1), some (.int 0), some (.int 0), none, none, none]) rfl rfl rfl ?_
  refine gEx.iconst rfl rfl ?_
  refine gEx.istore (ls' := [some (.ref 81), some (.int x1), some (.int 0), some (.int 0), some (.int 0), none, none]) rfl rfl rfl ?_
  refine gEx.iconst rfl rfl ?_
  refine gEx.istore (ls' := [some (.ref 81), some (.int x1), some (.int 0), some (.int 0), some (.int 0), some (.int 0), none]) rfl rfl rfl ?_
  refine gEx.iconst rfl rfl ?_
  refine gEx.istore (ls' := [some (.ref 81), some (.int x1), some (.int 0), some (.int 0), some (.int 0), some (.int 0), some (.int 0)]) rfl rfl rfl ?_
  have hL_13 : ∀ (n : Nat) (v16 : Int32) (v17 : Int32) (v18 : Int32) (m3 : gM), gEx d gcx_239 sh gri 13 [some (.ref 81), some (.int x1), some (.int v16), some (.int v17), some (.int 0), some (.int 0), some (.int v18)] [] m3 (L_MO_count_13 (fun v16 v17 v18 m3 => J_MO_count_47 x1 v16 v17 0 0 v18 m3) n v16 v17 v18 m3) := by
    refine gfix_ind (P := fun (f : Int32 → Int32 → Int32 → gM → Option (Int32 × gM)) => ∀ (v16 : Int32) (v17 : Int32) (v18 : Int32) (m3 : gM), gEx d gcx_239 sh gri 13 [some (.ref 81), some (.int x1), some (.int v16), some (.int v17), some (.int 0), some (.int 0), some (.int v18)] [] m3 (f v16 v17 v18 m3)) (fun _ _ _ _ => gEx.none) (fun rec_13 hrec_13 => ?_)
    intro v16 v17 v18 m3
    refine gEx.iload rfl rfl rfl ?_
    refine gEx.aload rfl rfl rfl ?_
    refine gEx.callVi rfl rfl rfl rfl (h0 0 _ rfl) rfl (fun _ h => (t_MO_cells (by omega) h0) _ h) (fun r3 => ?_)
    refine gEx.icmp_ge (tn := 47) rfl rfl rfl ?_ ?_
    · refine gEx.iload rfl rfl rfl ?_
      refine gEx.aload rfl rfl rfl ?_
      refine gEx.iload rfl rfl rfl ?_
      refine gEx.callVi rfl rfl rfl rfl (h0 0 _ rfl) rfl (fun _ h => (t_MO_oilOf (by omega) h0) _ h) (fun r4 => ?_)
      refine gEx.iadd rfl rfl ?_
      refine gEx.istoreL (ls' := fun v19 => [some (.ref 81), some (.int x1), some (.int v19), some (.int v17), some (.int 0), some (.int 0), some (.int v18)]) rfl rfl (fun _ => rfl) (fun v19 => ?_)
      refine gEx.iload rfl rfl rfl ?_
      refine gEx.aload rfl rfl rfl ?_
      refine gEx.getR rfl rfl (h0 0 _ rfl) rfl ?_
      refine gEx.iload rfl rfl rfl ?_
      refine gEx.iald rfl rfl (h0 3 _ rfl) ?_
      refine gEx.iadd rfl rfl ?_
      refine gEx.istoreL (ls' := fun v20 => [some (.ref 81), some (.int x1), some (.int v19), some (.int v20), some (.int 0), some (.int 0), some (.int v18)]) rfl rfl (fun _ => rfl) (fun v20 => ?_)
      refine gEx.iinc (ls' := [some (.ref 81), some (.int x1), some (.int v19), some (.int v20), some (.int 0), some (.int 0), some (.int (v18 + 1))]) rfl rfl rfl rfl ?_
      refine gEx.goto (tn := 13) rfl rfl rfl ?_
      exact gEx.lab rfl rfl (hrec_13 v19 v20 (v18 + 1) r4.2)
    · exact gEx.lab rfl rfl (hJ_47 v16 v17 0 0 v18 r3.2)
  exact gEx.lab rfl rfl (hL_13 1000 0 0 0 m)
