/-! ===== the methods' runs follow the pure functions (by program) ===== -/
abbrev gcx_164 : gC := glook (gco_164_0 ++ (gco_164_1))
set_option maxRecDepth 100000 in
set_option maxHeartbeats 4000000 in
theorem t_MO_field {d : Nat} (hd : 2 ≤ d) {sh : gH} {x1 : Int32} {x2 : Int32} (h0 : gHas sh.1 81 gsh_MO) {m : gM} : ∀ x, f_MO_field x1 x2 m = some x → gR gmi gdf gcd d 164 [.ref 81, .int x1, .int x2] (sh, m) ((gri x).1, (sh, (gri x).2)) := by
  obtain ⟨d, rfl⟩ : ∃ e, d = e + 1 := ⟨d - 1, by omega⟩
  refine gR_of (mx := 4) (code := gcx_164) rfl rfl (Nat.le_of_ble_eq_true rfl) ?_
  have hJ_173 : ∀ (v1 : Int32) (m1 : gM), gEx d gcx_164 sh gri 173 [some (.ref 81), some (.int x1), some (.int x2), some (.int v1)] [] m1 (J_MO_field_173 v1 m1) := by
    intro v1 m1
    unfold J_MO_field_173
    refine gEx.iconst rfl rfl ?_
    refine gEx.istore (ls' := [some (.ref 81), some (.int x1), some (.int x2), some (.int 0)]) rfl rfl rfl ?_
    have hL_175 : ∀ (n : Nat) (v2 : Int32) (m2 : gM), gEx d gcx_164 sh gri 175 [some (.ref 81), some (.int x1), some (.int x2), some (.int v2)] [] m2 (L_MO_field_175 n v2 m2) := by
      refine gfix_ind (P := fun (f : Int32 → gM → Option (Int32 × gM)) => ∀ (v2 : Int32) (m2 : gM), gEx d gcx_164 sh gri 175 [some (.ref 81), some (.int x1), some (.int x2), some (.int v2)] [] m2 (f v2 m2)) (fun _ _ => gEx.none) (fun rec_175 hrec_175 => ?_)
      intro v2 m2
      refine gEx.iload rfl rfl rfl ?_
      refine gEx.iconst rfl rfl ?_
      refine gEx.icmp_ge (tn := 194) rfl rfl rfl ?_ ?_
      · refine gEx.aload rfl rfl rfl ?_
        refine gEx.getR rfl rfl (h0 0 _ rfl) rfl ?_
        refine gEx.iload rfl rfl rfl ?_
        refine gEx.iconst rfl rfl ?_
        refine gEx.iast rfl rfl (h0 22 _ rfl) (fun m3 => ?_)
        refine gEx.iinc (ls' := [some (.ref 81), some (.int x1), some (.int x2), some (.int (v2 + 1))]) rfl rfl rfl rfl ?_
        refine gEx.goto (tn := 175) rfl rfl rfl ?_
        exact gEx.lab rfl rfl (hrec_175 (v2 + 1) m3)
      · refine gEx.iconst rfl rfl ?_
        exact gEx.reti rfl rfl
    exact gEx.lab rfl rfl (hL_175 1000 0 m1)
  have hJ_138 : ∀ (v3 : Int32) (m4 : gM), gEx d gcx_164 sh gri 138 [some (.ref 81), some (.int x1), some (.int x2), some (.int v3)] [] m4 (J_MO_field_138 v3 m4) := by
    intro v3 m4
    unfold J_MO_field_138
    refine gEx.iconst rfl rfl ?_
    refine gEx.istore (ls' := [some (.ref 81), some (.int x1), some (.int x2), some (.int 0)]) rfl rfl rfl ?_
    have hL_140 : ∀ (n : Nat) (v4 : Int32) (m5 : gM), gEx d gcx_164 sh gri 140 [some (.ref 81), some (.int x1), some (.int x2), some (.int v4)] [] m5 (L_MO_field_140 (fun v4 m5 => J_MO_field_173 v4 m5) n v4 m5) := by
      refine gfix_ind (P := fun (f : Int32 → gM → Option (Int32 × gM)) => ∀ (v4 : Int32) (m5 : gM), gEx d gcx_164 sh gri 140 [some (.ref 81), some (.int x1), some (.int x2), some (.int v4)] [] m5 (f v4 m5)) (fun _ _ => gEx.none) (fun rec_140 hrec_140 => ?_)
      intro v4 m5
      refine gEx.iload rfl rfl rfl ?_
      refine gEx.iconst rfl rfl ?_
      refine gEx.icmp_ge (tn := 173) rfl rfl rfl ?_ ?_
      · refine gEx.aload rfl rfl rfl ?_
        refine gEx.getR rfl rfl (h0 0 _ rfl) rfl ?_
        refine gEx.iload rfl rfl rfl ?_
        refine gEx.iconst rfl rfl ?_
        refine gEx.iast rfl rfl (h0 19 _ rfl) (fun m6 => ?_)
        refine gEx.aload rfl rfl rfl ?_
        refine gEx.getR rfl rfl (h0 0 _ rfl) rfl ?_
        refine gEx.iload rfl rfl rfl ?_
        refine gEx.iconst rfl rfl ?_
        refine gEx.iast rfl rfl (h0 20 _ rfl) (fun m7 => ?_)
        refine gEx.aload rfl rfl rfl ?_
        refine gEx.getR rfl rfl (h0 0 _ rfl) rfl ?_
        refine gEx.iload rfl rfl rfl ?_
        refine gEx.iconst rfl rfl ?_
        refine gEx.iast rfl rfl (h0 21 _ rfl) (fun m8 => ?_)
        refine gEx.iinc (ls' := [some (.ref 81), some (.int x1), some (.int x2), some (.int (v4 + 1))]) rfl rfl rfl rfl ?_
        refine gEx.goto (tn := 140) rfl rfl rfl ?_
        exact gEx.lab rfl rfl (hrec_140 (v4 + 1) m8)
      · exact gEx.lab rfl rfl (hJ_173 v4 m5)
    exact gEx.lab rfl rfl (hL_140 1000 0 m4)
  have hJ_116 : ∀ (v5 : Int32) (m9 : gM), gEx d gcx_164 sh gri 116 [some (.ref 81), some (.int x1), some (.int x2), some (.int v5)] [] m9 (J_MO_field_116 v5 m9) := by
    intro v5 m9
    unfold J_MO_field_116
    refine gEx.iconst rfl rfl ?_
    refine gEx.istore (ls' := [some (.ref 81), some (.int x1), some (.int x2), some (.int 0)]) rfl rfl rfl ?_
    have hL_118 : ∀ (n : Nat) (v6 : Int32) (m10 : gM), gEx d gcx_164 sh gri 118 [some (.ref 81), some (.int x1), some (.int x2), some (.int v6)] [] m10 (L_MO_field_118 (fun v6 m10 => J_MO_field_138 v6 m10) n v6 m10) := by
      refine gfix_ind (P := fun (f : Int32 → gM → Option (Int32 × gM)) => ∀ (v6 : Int32) (m10 : gM), gEx d gcx_164 sh gri 118 [some (.ref 81), some (.int x1), some (.int x2), some (.int v6)] [] m10 (f v6 m10)) (fun _ _ => gEx.none) (fun rec_118 hrec_118 => ?_)
      intro v6 m10
      refine gEx.iload rfl rfl rfl ?_
      refine gEx.iconst rfl rfl ?_
      refine gEx.icmp_ge (tn := 138) rfl rfl rfl ?_ ?_
      · refine gEx.aload rfl rfl rfl ?_
        refine gEx.getR rfl rfl (h0 0 _ rfl) rfl ?_
        refine gEx.iload rfl rfl rfl ?_
        refine gEx.iconst rfl rfl ?_
        refine gEx.iast rfl rfl (h0 6 _ rfl) (fun m11 => ?_)
        refine gEx.iinc (ls' := [some (.ref 81), some (.int x1), some (.int x2), some (.int (v6 + 1))]) rfl rfl rfl rfl ?_
        refine gEx.goto (tn := 118) rfl rfl rfl ?_
        exact gEx.lab rfl rfl (hrec_118 (v6 + 1) m11)
      · exact gEx.lab rfl rfl (hJ_138 v6 m10)
    exact gEx.lab rfl rfl (hL_118 1000 0 m9)
  have hJ_94 : ∀ (v7 : Int32) (m12 : gM), gEx d gcx_164 sh gri 94 [some (.ref 81), some (.int x1), some (.int x2), some (.int v7)] [] m12 (J_MO_field_94 v7 m12) := by
    intro v7 m12
    unfold J_MO_field_94
    refine gEx.iconst rfl rfl ?_
    refine gEx.istore (ls' := [some (.ref 81), some (.int x1), some (.int x2), some (.int 0)]) rfl rfl rfl ?_
    have hL_96 : ∀ (n : Nat) (v8 : Int32) (m13 : gM), gEx d gcx_164 sh gri 96 [some (.ref 81), some (.int x1), some (.int x2), some (.int v8)] [] m13 (L_MO_field_96 (fun v8 m13 => J_MO_field_116 v8 m13) n v8 m13) := by
      refine gfix_ind (P := fun (f : Int32 → gM → Option (Int32 × gM)) => ∀ (v8 : Int32) (m13 : gM), gEx d gcx_164 sh gri 96 [some (.ref 81), some (.int x1), some (.int x2), some (.int v8)] [] m13 (f v8 m13)) (fun _ _ => gEx.none) (fun rec_96 hrec_96 => ?_)
      intro v8 m13
      refine gEx.iload rfl rfl rfl ?_
      refine gEx.iconst rfl rfl ?_
      refine gEx.icmp_ge (tn := 116) rfl rfl rfl ?_ ?_
      · refine gEx.aload rfl rfl rfl ?_
        refine gEx.getR rfl rfl (h0 0 _ rfl) rfl ?_
        refine gEx.iload rfl rfl rfl ?_
        refine gEx.iconst rfl rfl ?_
        refine gEx.iast rfl rfl (h0 5 _ rfl) (fun m14 => ?_)
        refine gEx.iinc (ls' := [some (.ref 81), some (.int x1), some (.int x2), some (.int (v8 + 1))]) rfl rfl rfl rfl ?_
        refine gEx.goto (tn := 96) rfl rfl rfl ?_
        exact gEx.lab rfl rfl (hrec_96 (v8 + 1) m14)
      · exact gEx.lab rfl rfl (hJ_116 v8 m13)
    exact gEx.lab rfl rfl (hL_96 1000 0 m12)
  show gEx d gcx_164 sh gri 0 [some (.ref 81), some (.int x1), some (.int x2), none] [] m (f_MO_field x1 x2 m)
  unfold f_MO_field
  refine gEx.iload rfl rfl rfl ?_
  refine gEx.i2l rfl rfl ?_
  refine gEx.lconst rfl rfl ?_
  refine gEx.lconst rfl rfl ?_
  refine gEx.callSi rfl rfl rfl rfl rfl (fun _ h => (t_MO_in (by omega) ) _ h) (fun r1 => ?_)
  refine gEx.if_eq (tn := 24) rfl rfl rfl ?_ ?_
  · refine gEx.lab (ls' := [some (.ref 81), none, none, none]) rfl rfl ?_
    refine gEx.iconst rfl rfl ?_
    exact gEx.reti rfl rfl
  · refine gEx.iload rfl rfl rfl ?_
    refine gEx.i2l rfl rfl ?_
    refine gEx.lconst rfl rfl ?_
    refine gEx.lconst rfl rfl ?_
    refine gEx.callSi rfl rfl rfl rfl rfl (fun _ h => (t_MO_in (by omega) ) _ h) (fun r2 => ?_)
    refine gEx.if_ne (tn := 26) rfl rfl rfl ?_ ?_
    · refine gEx.lab (ls' := [some (.ref 81), none, none, none]) rfl rfl ?_
      refine gEx.iconst rfl rfl ?_
      exact gEx.reti rfl rfl
    · refine gEx.aload rfl rfl rfl ?_
      refine gEx.iload rfl rfl rfl ?_
      refine gEx.putI rfl rfl (h0 0 _ rfl) rfl rfl rfl (fun m15 => ?_)
      refine gEx.aload rfl rfl rfl ?_
      refine gEx.iload rfl rfl rfl ?_
      refine gEx.putI rfl rfl (h0 0 _ rfl) rfl rfl rfl (fun m16 => ?_)
      refine gEx.aload rfl rfl rfl ?_
      refine gEx.iconst rfl rfl ?_
      refine gEx.putI rfl rfl (h0 0 _ rfl) rfl rfl rfl (fun m17 => ?_)
      refine gEx.aload rfl rfl rfl ?_
      refine gEx.iconst rfl rfl ?_
      refine gEx.putI rfl rfl (h0 0 _ rfl) rfl rfl rfl (fun m18 => ?_)
      refine gEx.aload rfl rfl rfl ?_
      refine gEx.iconst rfl rfl ?_
      refine gEx.putI rfl rfl (h0 0 _ rfl) rfl rfl rfl (fun m19 => ?_)
      refine gEx.iconst rfl rfl ?_
      refine gEx.istore (ls' := [some (.ref 81), some (.int x1), some (.int x2), some (.int 0)]) rfl rfl rfl ?_
      have hL_53 : ∀ (n : Nat) (v9 : Int32) (m20 : gM), gEx d gcx_164 sh gri 53 [some (.ref 81), some (.int x1), some (.int x2), some (.int v9)] [] m20 (L_MO_field_53 (fun v9 m20 => J_MO_field_94 v9 m20) n v9 m20) := by
        refine gfix_ind (P := fun (f : Int32 → gM → Option (Int32 × gM)) => ∀ (v9 : Int32) (m20 : gM), gEx d gcx_164 sh gri 53 [some (.ref 81), some (.int x1), some (.int x2), some (.int v9)] [] m20 (f v9 m20)) (fun _ _ => gEx.none) (fun rec_53 hrec_53 => ?_)
        intro v9 m20
        refine gEx.iload rfl rfl rfl ?_
        refine gEx.iconst rfl rfl ?_
        refine gEx.icmp_ge (tn := 94) rfl rfl rfl ?_ ?_
        · refine gEx.aload rfl rfl rfl ?_
          refine gEx.getR rfl rfl (h0 0 _ rfl) rfl ?_
          refine gEx.iload rfl rfl rfl ?_
          refine gEx.iconst rfl rfl ?_
          refine gEx.iast rfl rfl (h0 1 _ rfl) (fun m21 => ?_)
          refine gEx.aload rfl rfl rfl ?_
          refine gEx.getR rfl rfl (h0 0 _ rfl) rfl ?_
          refine gEx.iload rfl rfl rfl ?_
          refine gEx.iconst rfl rfl ?_
          refine gEx.iast rfl rfl (h0 2 _ rfl) (fun m22 => ?_)
          refine gEx.aload rfl rfl rfl ?_
          refine gEx.getR rfl rfl (h0 0 _ rfl) rfl ?_
          refine gEx.iload rfl rfl rfl ?_
          refine gEx.iconst rfl rfl ?_
          refine gEx.iast rfl rfl (h0 3 _ rfl) (fun m23 => ?_)
          refine gEx.aload rfl rfl rfl ?_
          refine gEx.getR rfl rfl (h0 0 _ rfl) rfl ?_
          refine gEx.iload rfl rfl rfl ?_
          refine gEx.iconst rfl rfl ?_
          refine gEx.iast rfl rfl (h0 4 _ rfl) (fun m24 => ?_)
          refine gEx.iinc (ls' := [some (.ref 81), some (.int x1), some (.int x2), some (.int (v9 + 1))]) rfl rfl rfl rfl ?_
          refine gEx.goto (tn := 53) rfl rfl rfl ?_
          exact gEx.lab rfl rfl (hrec_53 (v9 + 1) m24)
        · exact gEx.lab rfl rfl (hJ_94 v9 m20)
      exact gEx.lab rfl rfl (hL_53 1000 0 m19)
abbrev gcx_165 : gC := glook (gco_165_0)
set_option maxRecDepth 100000 in
set_option maxHeartbeats 4000000 in
theorem t_MO_putOil {d : Nat} (hd : 1 ≤ d) {sh : gH} {x1 : Int32} {x2 : Int32} (h0 : gHas sh.1 81 gsh_MO) {m : gM} : ∀ x, f_MO_putOil x1 x2 m = some x → gR gmi gdf gcd d 165 [.ref 81, .int x1, .int x2] (sh, m) ((grv x).1, (sh, (grv x).2)) := by
  obtain ⟨d, rfl⟩ : ∃ e, d = e + 1 := ⟨d - 1, by omega⟩
  refine gR_of (mx := 4) (code := gcx_165) rfl rfl (Nat.le_of_ble_eq_true rfl) ?_
  have hJ_56 : ∀ (v1 : Int32) (v2 : Int32) (m1 : gM), gEx d gcx_165 sh grv 56 [some (.ref 81), some (.int x1), some (.int x2), none] [.int v2, .int v1, .ref 86] m1 (J_MO_putOil_56 x2 v1 v2 m1) := by
    intro v1 v2 m1
    unfold J_MO_putOil_56
    refine gEx.iadd rfl rfl ?_
    refine gEx.iload rfl rfl rfl ?_
    refine gEx.iast rfl rfl (h0 5 _ rfl) (fun m2 => ?_)
    exact gEx.retv rfl rfl
  have hJ_26 : ∀ (v3 : Int32) (m3 : gM), gEx d gcx_165 sh grv 26 [some (.ref 81), some (.int x1), some (.int x2), some (.int v3)] [] m3 (J_MO_putOil_26 x1 x2 v3 m3) := by
    intro v3 m3
    unfold J_MO_putOil_26
    refine gEx.aload rfl rfl rfl ?_
    refine gEx.getR rfl rfl (h0 0 _ rfl) rfl ?_
    refine gEx.iconst rfl rfl ?_
    refine gEx.iload rfl rfl rfl ?_
    refine gEx.imul rfl rfl ?_
    refine gEx.aload rfl rfl rfl ?_
    refine gEx.getR rfl rfl (h0 0 _ rfl) rfl ?_
    refine gEx.iload rfl rfl rfl ?_
    refine gEx.iald rfl rfl (h0 4 _ rfl) ?_
    refine gEx.iconst rfl rfl ?_
    refine gEx.icmp_ne (tn := 50) rfl rfl rfl ?_ ?_
    · refine gEx.iconst rfl rfl ?_
      refine gEx.goto (tn := 56) rfl rfl rfl ?_
      exact gEx.lab rfl rfl (hJ_56 (9 * x1) 8 m3)
    · refine gEx.aload rfl rfl rfl ?_
      refine gEx.getR rfl rfl (h0 0 _ rfl) rfl ?_
      refine gEx.iload rfl rfl rfl ?_
      refine gEx.iald rfl rfl (h0 4 _ rfl) ?_
      exact gEx.lab rfl rfl (hJ_56 (9 * x1) (grd m3 85 x1) m3)
  show gEx d gcx_165 sh grv 0 [some (.ref 81), some (.int x1), some (.int x2), none] [] m (f_MO_putOil x1 x2 m)
  unfold f_MO_putOil
  refine gEx.iconst rfl rfl ?_
  refine gEx.istore (ls' := [some (.ref 81), some (.int x1), some (.int x2), some (.int 0)]) rfl rfl rfl ?_
  have hL_2 : ∀ (n : Nat) (v4 : Int32) (m4 : gM), gEx d gcx_165 sh grv 2 [some (.ref 81), some (.int x1), some (.int x2), some (.int v4)] [] m4 (L_MO_putOil_2 x1 (fun v4 m4 => J_MO_putOil_26 x1 x2 v4 m4) n v4 m4) := by
    refine gfix_ind (P := fun (f : Int32 → gM → Option (gM)) => ∀ (v4 : Int32) (m4 : gM), gEx d gcx_165 sh grv 2 [some (.ref 81), some (.int x1), some (.int x2), some (.int v4)] [] m4 (f v4 m4)) (fun _ _ => gEx.none) (fun rec_2 hrec_2 => ?_)
    intro v4 m4
    refine gEx.iload rfl rfl rfl ?_
    refine gEx.iconst rfl rfl ?_
    refine gEx.icmp_ge (tn := 26) rfl rfl rfl ?_ ?_
    · refine gEx.aload rfl rfl rfl ?_
      refine gEx.getR rfl rfl (h0 0 _ rfl) rfl ?_
      refine gEx.iconst rfl rfl ?_
      refine gEx.iload rfl rfl rfl ?_
      refine gEx.imul rfl rfl ?_
      refine gEx.iload rfl rfl rfl ?_
      refine gEx.iadd rfl rfl ?_
      refine gEx.iconst rfl rfl ?_
      refine gEx.iast rfl rfl (h0 5 _ rfl) (fun m5 => ?_)
      refine gEx.iinc (ls' := [some (.ref 81), some (.int x1), some (.int x2), some (.int (v4 + 1))]) rfl rfl rfl rfl ?_
      refine gEx.goto (tn := 2) rfl rfl rfl ?_
      exact gEx.lab rfl rfl (hrec_2 (v4 + 1) m5)
    · exact gEx.lab rfl rfl (hJ_26 v4 m4)
  exact gEx.lab rfl rfl (hL_2 1000 0 m)
abbrev gcx_166 : gC := glook (gco_166_0)
set_option maxRecDepth 100000 in
set_option maxHeartbeats 4000000 in
theorem t_MO_oilOf {d : Nat} (hd : 1 ≤ d) {sh : gH} {x1 : Int32} (h0 : gHas sh.1 81 gsh_MO) {m : gM} : ∀ x, f_MO_oilOf x1 m = some x → gR gmi gdf gcd d 166 [.ref 81, .int x1] (sh, m) ((gri x).1, (sh, (gri x).2)) := by
  obtain ⟨d, rfl⟩ : ∃ e, d = e + 1 := ⟨d - 1, by omega⟩
  refine gR_of (mx := 4) (code := gcx_166) rfl rfl (Nat.le_of_ble_eq_true rfl) ?_
  show gEx d gcx_166 sh gri 0 [some (.ref 81), some (.int x1), none, none] [] m (f_MO_oilOf x1 m)
  unfold f_MO_oilOf
  refine gEx.iconst rfl rfl ?_
  refine gEx.istore (ls' := [some (.ref 81), some (.int x1), some (.int 0), none]) rfl rfl rfl ?_
  refine gEx.iconst rfl rfl ?_
  refine gEx.istore (ls' := [some (.ref 81), some (.int x1), some (.int 0), some (.int 0)]) rfl rfl rfl ?_
  have hL_4 : ∀ (n : Nat) (v1 : Int32) (v2 : Int32), gEx d gcx_166 sh gri 4 [some (.ref 81), some (.int x1), some (.int v1), some (.int v2)] [] m (L_MO_oilOf_4 x1 m n v1 v2) := by
    refine gfix_ind (P := fun (f : Int32 → Int32 → Option (Int32 × gM)) => ∀ (v1 : Int32) (v2 : Int32), gEx d gcx_166 sh gri 4 [some (.ref 81), some (.int x1), some (.int v1), some (.int v2)] [] m (f v1 v2)) (fun _ _ => gEx.none) (fun rec_4 hrec_4 => ?_)
    intro v1 v2
    refine gEx.iload rfl rfl rfl ?_
    refine gEx.iconst rfl rfl ?_
    refine gEx.icmp_ge (tn := 30) rfl rfl rfl ?_ ?_
    · refine gEx.iload rfl rfl rfl ?_
      refine gEx.aload rfl rfl rfl ?_
      refine gEx.getR rfl rfl (h0 0 _ rfl) rfl ?_
      refine gEx.iconst rfl rfl ?_
      refine gEx.iload rfl rfl rfl ?_
      refine gEx.imul rfl rfl ?_
      refine gEx.iload rfl rfl rfl ?_
      refine gEx.iadd rfl rfl ?_
      refine gEx.iald rfl rfl (h0 5 _ rfl) ?_
      refine gEx.iadd rfl rfl ?_
      refine gEx.istoreL (ls' := fun v3 => [some (.ref 81), some (.int x1), some (.int v3), some (.int v2)]) rfl rfl (fun _ => rfl) (fun v3 => ?_)
      refine gEx.iinc (ls' := [some (.ref 81), some (.int x1), some (.int v3), some (.int (v2 + 1))]) rfl rfl rfl rfl ?_
      refine gEx.goto (tn := 4) rfl rfl rfl ?_
      exact gEx.lab rfl rfl (hrec_4 v3 (v2 + 1))
    · refine gEx.iload rfl rfl rfl ?_
      exact gEx.reti rfl rfl
  exact gEx.lab rfl rfl (hL_4 1000 0 0)
abbrev gcx_167 : gC := glook (gco_167_0)
set_option maxRecDepth 100000 in
set_option maxHeartbeats 4000000 in
theorem t_MO_cell {d : Nat} (hd : 3 ≤ d) {sh : gH} {x1 : Int32} {x2 : Int32} {x3 : Int32} {x4 : Int32} {x5 : Int32} (h0 : gHas sh.1 81 gsh_MO) {m : gM} : ∀ x, f_MO_cell x1 x2 x3 x4 x5 m = some x → gR gmi gdf gcd d 167 [.ref 81, .int x1, .int x2, .int x3, .int x4, .int x5] (sh, m) ((gri x).1, (sh, (gri x).2)) := by
  obtain ⟨d, rfl⟩ : ∃ e, d = e + 1 := ⟨d - 1, by omega⟩
  refine gR_of (mx := 6) (code := gcx_167) rfl rfl (Nat.le_of_ble_eq_true rfl) ?_
  show gEx d gcx_167 sh gri 0 [some (.ref 81), some (.int x1), some (.int x2), some (.int x3), some (.int x4), some (.int x5)] [] m (f_MO_cell x1 x2 x3 x4 x5 m)
  unfold f_MO_cell
  refine gEx.aload rfl rfl rfl ?_
  refine gEx.iload rfl rfl rfl ?_
  refine gEx.callVi rfl rfl rfl rfl (h0 0 _ rfl) rfl (fun _ h => (t_MO_isCell (by omega) h0) _ h) (fun r1 => ?_)
  refine gEx.if_eq (tn := 58) rfl rfl rfl ?_ ?_
  · refine gEx.lab (ls' := [some (.ref 81), none, none, none, none, none]) rfl rfl ?_
    refine gEx.iconst rfl rfl ?_
    exact gEx.reti rfl rfl
  · refine gEx.iload rfl rfl rfl ?_
    refine gEx.i2l rfl rfl ?_
    refine gEx.lconst rfl rfl ?_
    refine gEx.lconst rfl rfl ?_
    refine gEx.callSi rfl rfl rfl rfl rfl (fun _ h => (t_MO_in (by omega) ) _ h) (fun r2 => ?_)
    refine gEx.if_eq (tn := 58) rfl rfl rfl ?_ ?_
    · refine gEx.lab (ls' := [some (.ref 81), none, none, none, none, none]) rfl rfl ?_
      refine gEx.iconst rfl rfl ?_
      exact gEx.reti rfl rfl
    · refine gEx.iload rfl rfl rfl ?_
      refine gEx.i2l rfl rfl ?_
      refine gEx.lconst rfl rfl ?_
      refine gEx.lconst rfl rfl ?_
      refine gEx.callSi rfl rfl rfl rfl rfl (fun _ h => (t_MO_in (by omega) ) _ h) (fun r3 => ?_)
      refine gEx.if_eq (tn := 58) rfl rfl rfl ?_ ?_
      · refine gEx.lab (ls' := [some (.ref 81), none, none, none, none, none]) rfl rfl ?_
        refine gEx.iconst rfl rfl ?_
        exact gEx.reti rfl rfl
      · refine gEx.iload rfl rfl rfl ?_
        refine gEx.i2l rfl rfl ?_
        refine gEx.lconst rfl rfl ?_
        refine gEx.lconst rfl rfl ?_
        refine gEx.callSi rfl rfl rfl rfl rfl (fun _ h => (t_MO_in (by omega) ) _ h) (fun r4 => ?_)
        refine gEx.if_eq (tn := 58) rfl rfl rfl ?_ ?_
        · refine gEx.lab (ls' := [some (.ref 81), none, none, none, none, none]) rfl rfl ?_
          refine gEx.iconst rfl rfl ?_
          exact gEx.reti rfl rfl
        · refine gEx.iload rfl rfl rfl ?_
          refine gEx.i2l rfl rfl ?_
          refine gEx.lconst rfl rfl ?_
          refine gEx.lconst rfl rfl ?_
          refine gEx.callSi rfl rfl rfl rfl rfl (fun _ h => (t_MO_in (by omega) ) _ h) (fun r5 => ?_)
          refine gEx.if_ne (tn := 60) rfl rfl rfl ?_ ?_
          · refine gEx.lab (ls' := [some (.ref 81), none, none, none, none, none]) rfl rfl ?_
            refine gEx.iconst rfl rfl ?_
            exact gEx.reti rfl rfl
          · refine gEx.aload rfl rfl rfl ?_
            refine gEx.getR rfl rfl (h0 0 _ rfl) rfl ?_
            refine gEx.iload rfl rfl rfl ?_
            refine gEx.iload rfl rfl rfl ?_
            refine gEx.iast rfl rfl (h0 1 _ rfl) (fun m1 => ?_)
            refine gEx.aload rfl rfl rfl ?_
            refine gEx.getR rfl rfl (h0 0 _ rfl) rfl ?_
            refine gEx.iload rfl rfl rfl ?_
            refine gEx.iload rfl rfl rfl ?_
            refine gEx.iast rfl rfl (h0 2 _ rfl) (fun m2 => ?_)
            refine gEx.aload rfl rfl rfl ?_
            refine gEx.getR rfl rfl (h0 0 _ rfl) rfl ?_
            refine gEx.iload rfl rfl rfl ?_
            refine gEx.iload rfl rfl rfl ?_
            refine gEx.iast rfl rfl (h0 3 _ rfl) (fun m3 => ?_)
            refine gEx.aload rfl rfl rfl ?_
            refine gEx.iload rfl rfl rfl ?_
            refine gEx.iload rfl rfl rfl ?_
            refine gEx.callVv rfl rfl rfl rfl (h0 0 _ rfl) rfl (fun _ h => (t_MO_putOil (by omega) h0) _ h) (fun r6 => ?_)
            refine gEx.iconst rfl rfl ?_
            exact gEx.reti rfl rfl
abbrev gcx_168 : gC := glook (gco_168_0)
set_option maxRecDepth 100000 in
set_option maxHeartbeats 4000000 in
theorem t_MO_lay {d : Nat} (hd : 3 ≤ d) {sh : gH} {x1 : Int32} {x2 : Int32} (h0 : gHas sh.1 81 gsh_MO) {m : gM} : ∀ x, f_MO_lay x1 x2 m = some x → gR gmi gdf gcd d 168 [.ref 81, .int x1, .int x2] (sh, m) ((gri x).1, (sh, (gri x).2)) := by
  obtain ⟨d, rfl⟩ : ∃ e, d = e + 1 := ⟨d - 1, by omega⟩
  refine gR_of (mx := 4) (code := gcx_168) rfl rfl (Nat.le_of_ble_eq_true rfl) ?_
  have hJ_23 : ∀ (m1 : gM), gEx d gcx_168 sh gri 23 [some (.ref 81), some (.int x1), some (.int x2), none] [] m1 (J_MO_lay_23 x1 x2 m1) := by
    intro m1
    unfold J_MO_lay_23
    refine gEx.aload rfl rfl rfl ?_
    refine gEx.getR rfl rfl (h0 0 _ rfl) rfl ?_
    refine gEx.iload rfl rfl rfl ?_
    refine gEx.iald rfl rfl (h0 4 _ rfl) ?_
    refine gEx.istoreL (ls' := fun v1 => [some (.ref 81), some (.int x1), some (.int x2), some (.int v1)]) rfl rfl (fun _ => rfl) (fun v1 => ?_)
    refine gEx.aload rfl rfl rfl ?_
    refine gEx.getR rfl rfl (h0 0 _ rfl) rfl ?_
    refine gEx.iload rfl rfl rfl ?_
    refine gEx.iload rfl rfl rfl ?_
    refine gEx.iast rfl rfl (h0 4 _ rfl) (fun m2 => ?_)
    refine gEx.iload rfl rfl rfl ?_
    exact gEx.reti rfl rfl
  show gEx d gcx_168 sh gri 0 [some (.ref 81), some (.int x1), some (.int x2), none] [] m (f_MO_lay x1 x2 m)
  unfold f_MO_lay
  refine gEx.aload rfl rfl rfl ?_
  refine gEx.iload rfl rfl rfl ?_
  refine gEx.callVi rfl rfl rfl rfl (h0 0 _ rfl) rfl (fun _ h => (t_MO_isCell (by omega) h0) _ h) (fun r1 => ?_)
  refine gEx.if_eq (tn := 21) rfl rfl rfl ?_ ?_
  · refine gEx.lab (ls' := [some (.ref 81), none, none, none]) rfl rfl ?_
    refine gEx.iconst rfl rfl ?_
    exact gEx.reti rfl rfl
  · refine gEx.iload rfl rfl rfl ?_
    refine gEx.callSi rfl rfl rfl rfl rfl (fun _ h => (t_MO_isLot (by omega) ) _ h) (fun r2 => ?_)
    refine gEx.if_ne (tn := 23) rfl rfl rfl ?_ ?_
    · refine gEx.iload rfl rfl rfl ?_
      refine gEx.iconst rfl rfl ?_
      refine gEx.icmp_eq (tn := 23) rfl rfl rfl ?_ ?_
      · exact gEx.lab rfl rfl (hJ_23 r2.2)
      · refine gEx.lab (ls' := [some (.ref 81), none, none, none]) rfl rfl ?_
        refine gEx.iconst rfl rfl ?_
        exact gEx.reti rfl rfl
    · exact gEx.lab rfl rfl (hJ_23 r2.2)
abbrev gcx_169 : gC := glook (gco_169_0)
set_option maxRecDepth 100000 in
set_option maxHeartbeats 4000000 in
theorem t_MO_pushOf {d : Nat} (hd : 2 ≤ d) {sh : gH} {x1 : Int32} (h0 : gHas sh.1 81 gsh_MO) {m : gM} : ∀ x, f_MO_pushOf x1 m = some x → gR gmi gdf gcd d 169 [.ref 81, .int x1] (sh, m) ((gri x).1, (sh, (gri x).2)) := by
  obtain ⟨d, rfl⟩ : ∃ e, d = e + 1 := ⟨d - 1, by omega⟩
  refine gR_of (mx := 2) (code := gcx_169) rfl rfl (Nat.le_of_ble_eq_true rfl) ?_
  show gEx d gcx_169 sh gri 0 [some (.ref 81), some (.int x1)] [] m (f_MO_pushOf x1 m)
  unfold f_MO_pushOf
  refine gEx.aload rfl rfl rfl ?_
  refine gEx.iload rfl rfl rfl ?_
  refine gEx.callVi rfl rfl rfl rfl (h0 0 _ rfl) rfl (fun _ h => (t_MO_oilOf (by omega) h0) _ h) (fun r1 => ?_)
  refine gEx.aload rfl rfl rfl ?_
  refine gEx.getR rfl rfl (h0 0 _ rfl) rfl ?_
  refine gEx.iload rfl rfl rfl ?_
  refine gEx.iald rfl rfl (h0 3 _ rfl) ?_
  refine gEx.iadd rfl rfl ?_
  refine gEx.aload rfl rfl rfl ?_
  refine gEx.getR rfl rfl (h0 0 _ rfl) rfl ?_
  refine gEx.iload rfl rfl rfl ?_
  refine gEx.iald rfl rfl (h0 2 _ rfl) ?_
  refine gEx.iadd rfl rfl ?_
  exact gEx.reti rfl rfl
abbrev gcx_170 : gC := glook (gco_170_0)
set_option maxRecDepth 100000 in
set_option maxHeartbeats 4000000 in
theorem t_MO_cellOf {d : Nat} (hd : 3 ≤ d) {sh : gH} {x1 : Int32} {x2 : Int32} (h0 : gHas sh.1 81 gsh_MO) {m : gM} : ∀ x, f_MO_cellOf x1 x2 m = some x → gR gmi gdf gcd d 170 [.ref 81, .int x1, .int x2] (sh, m) ((gri x).1, (sh, (gri x).2)) := by
  obtain ⟨d, rfl⟩ : ∃ e, d = e + 1 := ⟨d - 1, by omega⟩
  refine gR_of (mx := 3) (code := gcx_170) rfl rfl (Nat.le_of_ble_eq_true rfl) ?_
  show gEx d gcx_170 sh gri 0 [some (.ref 81), some (.int x1), some (.int x2)] [] m (f_MO_cellOf x1 x2 m)
  unfold f_MO_cellOf
  refine gEx.aload rfl rfl rfl ?_
  refine gEx.iload rfl rfl rfl ?_
  refine gEx.callVi rfl rfl rfl rfl (h0 0 _ rfl) rfl (fun _ h => (t_MO_isCell (by omega) h0) _ h) (fun r1 => ?_)
  refine gEx.if_ne (tn := 10) rfl rfl rfl ?_ ?_
  · refine gEx.iconst rfl rfl ?_
    exact gEx.reti rfl rfl
  · refine gEx.iload rfl rfl rfl ?_
    refine gEx.i2l rfl rfl ?_
    refine gEx.lconst rfl rfl ?_
    refine gEx.lconst rfl rfl ?_
    refine gEx.callSi rfl rfl rfl rfl rfl (fun _ h => (t_MO_in (by omega) ) _ h) (fun r2 => ?_)
    refine gEx.if_eq (tn := 39) rfl rfl rfl ?_ ?_
    · refine gEx.iload rfl rfl rfl ?_
      refine gEx.sw (dft := 120) (ps := #[(0, 80), (1, 87), (2, 94), (3, 101), (4, 107), (5, 114)]) rfl rfl [(0, gok (gib x1 36) (some (grd r2.2 82 x1, r2.2))), (1, gok (gib x1 36) (some (grd r2.2 83 x1, r2.2))), (2, gok (gib x1 36) (some (grd r2.2 84 x1, r2.2))), (3, (f_MO_oilOf x1 r2.2).bind fun (r3 : Int32 × gM) => some (r3.1, r3.2)), (4, gok (gib x1 36) (some (grd r2.2 85 x1, r2.2))), (5, (f_MO_pushOf x1 r2.2).bind fun (r4 : Int32 × gM) => some (r4.1, r4.2))] (some ((-1), r2.2)) ⟨rfl, ?_, ⟨rfl, ?_, ⟨rfl, ?_, ⟨rfl, ?_, ⟨rfl, ?_, ⟨rfl, ?_, trivial⟩⟩⟩⟩⟩⟩ ?_
      · show gEx d gcx_170 sh gri 80 _ _ _ _
        refine gEx.aload rfl rfl rfl ?_
        refine gEx.getR rfl rfl (h0 0 _ rfl) rfl ?_
        refine gEx.iload rfl rfl rfl ?_
        refine gEx.iald rfl rfl (h0 1 _ rfl) ?_
        exact gEx.reti rfl rfl
      · show gEx d gcx_170 sh gri 87 _ _ _ _
        refine gEx.aload rfl rfl rfl ?_
        refine gEx.getR rfl rfl (h0 0 _ rfl) rfl ?_
        refine gEx.iload rfl rfl rfl ?_
        refine gEx.iald rfl rfl (h0 2 _ rfl) ?_
        exact gEx.reti rfl rfl
      · show gEx d gcx_170 sh gri 94 _ _ _ _
        refine gEx.aload rfl rfl rfl ?_
        refine gEx.getR rfl rfl (h0 0 _ rfl) rfl ?_
        refine gEx.iload rfl rfl rfl ?_
        refine gEx.iald rfl rfl (h0 3 _ rfl) ?_
        exact gEx.reti rfl rfl
      · show gEx d gcx_170 sh gri 101 _ _ _ _
        refine gEx.aload rfl rfl rfl ?_
        refine gEx.iload rfl rfl rfl ?_
        refine gEx.callVi rfl rfl rfl rfl (h0 0 _ rfl) rfl (fun _ h => (t_MO_oilOf (by omega) h0) _ h) (fun r3 => ?_)
        exact gEx.reti rfl rfl
      · show gEx d gcx_170 sh gri 107 _ _ _ _
        refine gEx.aload rfl rfl rfl ?_
        refine gEx.getR rfl rfl (h0 0 _ rfl) rfl ?_
        refine gEx.iload rfl rfl rfl ?_
        refine gEx.iald rfl rfl (h0 4 _ rfl) ?_
        exact gEx.reti rfl rfl
      · show gEx d gcx_170 sh gri 114 _ _ _ _
        refine gEx.aload rfl rfl rfl ?_
        refine gEx.iload rfl rfl rfl ?_
        refine gEx.callVi rfl rfl rfl rfl (h0 0 _ rfl) rfl (fun _ h => (t_MO_pushOf (by omega) h0) _ h) (fun r4 => ?_)
        exact gEx.reti rfl rfl
      · show gEx d gcx_170 sh gri 120 _ _ _ _
        refine gEx.iconst rfl rfl ?_
        exact gEx.reti rfl rfl
    · refine gEx.aload rfl rfl rfl ?_
      refine gEx.getR rfl rfl (h0 0 _ rfl) rfl ?_
      refine gEx.iconst rfl rfl ?_
      refine gEx.iload rfl rfl rfl ?_
      refine gEx.imul rfl rfl ?_
      refine gEx.iload rfl rfl rfl ?_
      refine gEx.iadd rfl rfl ?_
      refine gEx.iconst rfl rfl ?_
      refine gEx.isub rfl rfl ?_
      refine gEx.iald rfl rfl (h0 5 _ rfl) ?_
      exact gEx.reti rfl rfl
abbrev gcx_171 : gC := glook (gco_171_0 ++ (gco_171_1))
set_option maxRecDepth 100000 in
set_option maxHeartbeats 4000000 in
theorem t_MO_take {d : Nat} (hd : 2 ≤ d) {sh : gH} {x1 : Int32} {x2 : Int32} (h0 : gHas sh.1 81 gsh_MO) {m : gM} : ∀ x, f_MO_take x1 x2 m = some x → gR gmi gdf gcd d 171 [.ref 81, .int x1, .int x2] (sh, m) ((grv x).1, (sh, (grv x).2)) := by
  obtain ⟨d, rfl⟩ : ∃ e, d = e + 1 := ⟨d - 1, by omega⟩
  refine gR_of (mx := 6) (code := gcx_171) rfl rfl (Nat.le_of_ble_eq_true rfl) ?_
  have hJ_125 : ∀ (m1 : gM), gEx d gcx_171 sh grv 125 [some (.ref 81), some (.int x1), none, none, none, none] [] m1 (J_MO_take_125 x1 m1) := by
    intro m1
    unfold J_MO_take_125
    refine gEx.iconst rfl rfl ?_
    refine gEx.istore (ls' := [some (.ref 81), some (.int x1), none, none, none, some (.int 0)]) rfl rfl rfl ?_
    have hL_128 : ∀ (n : Nat) (v1 : Int32) (m2 : gM), gEx d gcx_171 sh grv 128 [some (.ref 81), some (.int x1), none, none, none, some (.int v1)] [] m2 (L_MO_take_128 x1 n v1 m2) := by
      refine gfix_ind (P := fun (f : Int32 → gM → Option (gM)) => ∀ (v1 : Int32) (m2 : gM), gEx d gcx_171 sh grv 128 [some (.ref 81), some (.int x1), none, none, none, some (.int v1)] [] m2 (f v1 m2)) (fun _ _ => gEx.none) (fun rec_128 hrec_128 => ?_)
      intro v1 m2
      refine gEx.iload rfl rfl rfl ?_
      refine gEx.iconst rfl rfl ?_
      refine gEx.icmp_ge (tn := 163) rfl rfl rfl ?_ ?_
      · refine gEx.aload rfl rfl rfl ?_
        refine gEx.getR rfl rfl (h0 0 _ rfl) rfl ?_
        refine gEx.iconst rfl rfl ?_
        refine gEx.iload rfl rfl rfl ?_
        refine gEx.imul rfl rfl ?_
        refine gEx.iload rfl rfl rfl ?_
        refine gEx.iadd rfl rfl ?_
        refine gEx.dup2 rfl rfl ?_
        refine gEx.iald rfl rfl (h0 5 _ rfl) ?_
        refine gEx.aload rfl rfl rfl ?_
        refine gEx.getR rfl rfl (h0 0 _ rfl) rfl ?_
        refine gEx.iload rfl rfl rfl ?_
        refine gEx.iald rfl rfl (h0 24 _ rfl) ?_
        refine gEx.isub rfl rfl ?_
        refine gEx.iast rfl rfl (h0 5 _ rfl) (fun m3 => ?_)
        refine gEx.iinc (ls' := [some (.ref 81), some (.int x1), none, none, none, some (.int (v1 + 1))]) rfl rfl rfl rfl ?_
        refine gEx.goto (tn := 128) rfl rfl rfl ?_
        exact gEx.lab rfl rfl (hrec_128 (v1 + 1) m3)
      · exact gEx.retv rfl rfl
    exact gEx.lab rfl rfl (hL_128 1000 0 m1)
  have hJ_68 : ∀ (v2 : Int32) (v3 : Int32) (v4 : Int32) (m4 : gM), gEx d gcx_171 sh grv 68 [some (.ref 81), some (.int x1), some (.int x2), some (.int v2), some (.int v3), some (.int v4)] [] m4 (J_MO_take_68 x1 v2 v3 v4 m4) := by
    intro v2 v3 v4 m4
    unfold J_MO_take_68
    refine gEx.iconst rfl rfl ?_
    refine gEx.istore (ls' := [some (.ref 81), some (.int x1), some (.int x2), some (.int v2), some (.int v3), some (.int 0)]) rfl rfl rfl ?_
    have hL_71 : ∀ (n : Nat) (v5 : Int32) (v6 : Int32) (m5 : gM), gEx d gcx_171 sh grv 71 [some (.ref 81), some (.int x1), some (.int x2), some (.int v2), some (.int v5), some (.int v6)] [] m5 (L_MO_take_71 x1 (fun v5 v6 m5 => J_MO_take_125 x1 m5) n v5 v6 m5) := by
      refine gfix_ind (P := fun (f : Int32 → Int32 → gM → Option (gM)) => ∀ (v5 : Int32) (v6 : Int32) (m5 : gM), gEx d gcx_171 sh grv 71 [some (.ref 81), some (.int x1), some (.int x2), some (.int v2), some (.int v5), some (.int v6)] [] m5 (f v5 v6 m5)) (fun _ _ _ => gEx.none) (fun rec_71 hrec_71 => ?_)
      have hJ_119 : ∀ (v7 : Int32) (v8 : Int32) (m6 : gM), gEx d gcx_171 sh grv 119 [some (.ref 81), some (.int x1), some (.int x2), some (.int v2), some (.int v7), some (.int v8)] [] m6 (J_MO_take_119 rec_71 v7 v8 m6) := by
        intro v7 v8 m6
        unfold J_MO_take_119
        refine gEx.iinc (ls' := [some (.ref 81), some (.int x1), some (.int x2), some (.int v2), some (.int v7), some (.int (v8 + 1))]) rfl rfl rfl rfl ?_
        refine gEx.goto (tn := 71) rfl rfl rfl ?_
        exact gEx.lab rfl rfl (hrec_71 v7 (v8 + 1) m6)
      intro v5 v6 m5
      refine gEx.iload rfl rfl rfl ?_
      refine gEx.iconst rfl rfl ?_
      refine gEx.icmp_ge (tn := 125) rfl rfl rfl ?_ ?_
      · refine gEx.iload rfl rfl rfl ?_
        refine gEx.if_le (tn := 125) rfl rfl rfl ?_ ?_
        · refine gEx.aload rfl rfl rfl ?_
          refine gEx.getR rfl rfl (h0 0 _ rfl) rfl ?_
          refine gEx.iconst rfl rfl ?_
          refine gEx.iload rfl rfl rfl ?_
          refine gEx.imul rfl rfl ?_
          refine gEx.iload rfl rfl rfl ?_
          refine gEx.iadd rfl rfl ?_
          refine gEx.iald rfl rfl (h0 5 _ rfl) ?_
          refine gEx.aload rfl rfl rfl ?_
          refine gEx.getR rfl rfl (h0 0 _ rfl) rfl ?_
          refine gEx.iload rfl rfl rfl ?_
          refine gEx.iald rfl rfl (h0 24 _ rfl) ?_
          refine gEx.icmp_le (tn := 119) rfl rfl rfl ?_ ?_
          · refine gEx.aload rfl rfl rfl ?_
            refine gEx.getR rfl rfl (h0 0 _ rfl) rfl ?_
            refine gEx.iload rfl rfl rfl ?_
            refine gEx.dup2 rfl rfl ?_
            refine gEx.iald rfl rfl (h0 24 _ rfl) ?_
            refine gEx.iconst rfl rfl ?_
            refine gEx.iadd rfl rfl ?_
            refine gEx.iast rfl rfl (h0 24 _ rfl) (fun m7 => ?_)
            refine gEx.iinc (ls' := [some (.ref 81), some (.int x1), some (.int x2), some (.int v2), some (.int (v5 + (-1))), some (.int v6)]) rfl rfl rfl rfl ?_
            exact gEx.lab rfl rfl (hJ_119 (v5 + (-1)) v6 m7)
          · exact gEx.lab rfl rfl (hJ_119 v5 v6 m5)
        · exact gEx.lab rfl rfl (hJ_125 m5)
      · exact gEx.lab rfl rfl (hJ_125 m5)
    exact gEx.lab rfl rfl (hL_71 1000 v3 0 m4)
  show gEx d gcx_171 sh grv 0 [some (.ref 81), some (.int x1), some (.int x2), none, none, none] [] m (f_MO_take x1 x2 m)
  unfold f_MO_take
  refine gEx.aload rfl rfl rfl ?_
  refine gEx.iload rfl rfl rfl ?_
  refine gEx.callVi rfl rfl rfl rfl (h0 0 _ rfl) rfl (fun _ h => (t_MO_oilOf (by omega) h0) _ h) (fun r1 => ?_)
  refine gEx.istore (ls' := [some (.ref 81), some (.int x1), some (.int x2), some (.int r1.1), none, none]) rfl rfl rfl ?_
  refine gEx.iload rfl rfl rfl ?_
  refine gEx.istore (ls' := [some (.ref 81), some (.int x1), some (.int x2), some (.int r1.1), some (.int x2), none]) rfl rfl rfl ?_
  refine gEx.iconst rfl rfl ?_
  refine gEx.istore (ls' := [some (.ref 81), some (.int x1), some (.int x2), some (.int r1.1), some (.int x2), some (.int 0)]) rfl rfl rfl ?_
  have hL_12 : ∀ (n : Nat) (v9 : Int32) (v10 : Int32) (m8 : gM), gEx d gcx_171 sh grv 12 [some (.ref 81), some (.int x1), some (.int x2), some (.int r1.1), some (.int v9), some (.int v10)] [] m8 (L_MO_take_12 x1 x2 r1 (fun v9 v10 m8 => J_MO_take_68 x1 r1.1 v9 v10 m8) n v9 v10 m8) := by
    refine gfix_ind (P := fun (f : Int32 → Int32 → gM → Option (gM)) => ∀ (v9 : Int32) (v10 : Int32) (m8 : gM), gEx d gcx_171 sh grv 12 [some (.ref 81), some (.int x1), some (.int x2), some (.int r1.1), some (.int v9), some (.int v10)] [] m8 (f v9 v10 m8)) (fun _ _ _ => gEx.none) (fun rec_12 hrec_12 => ?_)
    have hJ_49 : ∀ (v11 : Int32) (v12 : Int32) (v13 : Int32) (v14 : Int32) (m9 : gM), gEx d gcx_171 sh grv 49 [some (.ref 81), some (.int x1), some (.int x2), some (.int r1.1), some (.int v11), some (.int v12)] [.int v14, .int v13, .ref 105] m9 (J_MO_take_49 rec_12 v11 v12 v13 v14 m9) := by
      intro v11 v12 v13 v14 m9
      unfold J_MO_take_49
      refine gEx.iast rfl rfl (h0 24 _ rfl) (fun m10 => ?_)
      refine gEx.iload rfl rfl rfl ?_
      refine gEx.aload rfl rfl rfl ?_
      refine gEx.getR rfl rfl (h0 0 _ rfl) rfl ?_
      refine gEx.iload rfl rfl rfl ?_
      refine gEx.iald rfl rfl (h0 24 _ rfl) ?_
      refine gEx.isub rfl rfl ?_
      refine gEx.istoreL (ls' := fun v15 => [some (.ref 81), some (.int x1), some (.int x2), some (.int r1.1), some (.int v15), some (.int v12)]) rfl rfl (fun _ => rfl) (fun v15 => ?_)
      refine gEx.iinc (ls' := [some (.ref 81), some (.int x1), some (.int x2), some (.int r1.1), some (.int v15), some (.int (v12 + 1))]) rfl rfl rfl rfl ?_
      refine gEx.goto (tn := 12) rfl rfl rfl ?_
      exact gEx.lab rfl rfl (hrec_12 v15 (v12 + 1) m10)
    intro v9 v10 m8
    refine gEx.iload rfl rfl rfl ?_
    refine gEx.iconst rfl rfl ?_
    refine gEx.icmp_ge (tn := 68) rfl rfl rfl ?_ ?_
    · refine gEx.aload rfl rfl rfl ?_
      refine gEx.getR rfl rfl (h0 0 _ rfl) rfl ?_
      refine gEx.iload rfl rfl rfl ?_
      refine gEx.iload rfl rfl rfl ?_
      refine gEx.if_ne (tn := 33) rfl rfl rfl ?_ ?_
      · refine gEx.iconst rfl rfl ?_
        refine gEx.goto (tn := 49) rfl rfl rfl ?_
        exact gEx.lab rfl rfl (hJ_49 v9 v10 v10 0 m8)
      · refine gEx.iload rfl rfl rfl ?_
        refine gEx.aload rfl rfl rfl ?_
        refine gEx.getR rfl rfl (h0 0 _ rfl) rfl ?_
        refine gEx.iconst rfl rfl ?_
        refine gEx.iload rfl rfl rfl ?_
        refine gEx.imul rfl rfl ?_
        refine gEx.iload rfl rfl rfl ?_
        refine gEx.iadd rfl rfl ?_
        refine gEx.iald rfl rfl (h0 5 _ rfl) ?_
        refine gEx.imul rfl rfl ?_
        refine gEx.iload rfl rfl rfl ?_
        refine gEx.idiv rfl rfl ?_
        exact gEx.lab rfl rfl (hJ_49 v9 v10 v10 ((x2 * (grd m8 86 ((9 * x1) + v10))) / r1.1) m8)
    · exact gEx.lab rfl rfl (hJ_68 r1.1 v9 v10 m8)
  exact gEx.lab rfl rfl (hL_12 1000 x2 0 r1.2)
abbrev gcx_172 : gC := glook (gco_172_0 ++ (gco_172_1 ++ (gco_172_2)))
set_option maxRecDepth 100000 in
set_option maxHeartbeats 4000000 in
theorem t_MO_draws {d : Nat} (hd : 3 ≤ d) {sh : gH}  (h0 : gHas sh.1 81 gsh_MO) {m : gM} : ∀ x, f_MO_draws  m = some x → gR gmi gdf gcd d 172 [.ref 81] (sh, m) ((gri x).1, (sh, (gri x).2)) := by
  obtain ⟨d, rfl⟩ : ∃ e, d = e + 1 := ⟨d - 1, by omega⟩
  refine gR_of (mx := 8) (code := gcx_172) rfl rfl (Nat.le_of_ble_eq_true rfl) ?_
  show gEx d gcx_172 sh gri 0 [some (.ref 81), none, none, none, none, none, none, none] [] m (f_MO_draws  m)
  unfold f_MO_draws
  refine gEx.iconst rfl rfl ?_
  refine gEx.istore (ls' := [some (.ref 81), some (.int 0), none, none, none, none, none, none]) rfl rfl rfl ?_
  refine gEx.iconst rfl rfl ?_
  refine gEx.istore (ls' := [some (.ref 81), some (.int 0), some (.int 0), none, none, none, none, none]) rfl rfl rfl ?_
  have hL_4 : ∀ (n : Nat) (v1 : Int32) (v2 : Int32) (m1 : gM), gEx d gcx_172 sh gri 4 [some (.ref 81), some (.int v1), some (.int v2), none, none, none, none, none] [] m1 (L_MO_draws_4 n v1 v2 m1) := by
    refine gfix_ind (P := fun (f : Int32 → Int32 → gM → Option (Int32 × gM)) => ∀ (v1 : Int32) (v2 : Int32) (m1 : gM), gEx d gcx_172 sh gri 4 [some (.ref 81), some (.int v1), some (.int v2), none, none, none, none, none] [] m1 (f v1 v2 m1)) (fun _ _ _ => gEx.none) (fun rec_4 hrec_4 => ?_)
    have hJ_209 : ∀ (v3 : Int32) (v4 : Int32) (m2 : gM), gEx d gcx_172 sh gri 209 [some (.ref 81), some (.int v3), some (.int v4), none, none, none, none, none] [] m2 (J_MO_draws_209 rec_4 v3 v4 m2) := by
      intro v3 v4 m2
      unfold J_MO_draws_209
      refine gEx.iinc (ls' := [some (.ref 81), some (.int v3), some (.int (v4 + 1)), none, none, none, none, none]) rfl rfl rfl rfl ?_
      refine gEx.goto (tn := 4) rfl rfl rfl ?_
      exact gEx.lab rfl rfl (hrec_4 v3 (v4 + 1) m2)
    have hJ_169 : ∀ (v5 : Int32) (v6 : Int32) (v7 : Int32) (v8 : Int32) (v9 : Int32) (v10 : Int32) (v11 : Int32) (m3 : gM), gEx d gcx_172 sh gri 169 [some (.ref 81), some (.int v5), some (.int v6), some (.int v7), some (.int v8), some (.int v9), some (.int v10), some (.int v11)] [] m3 (J_MO_draws_169 rec_4 v5 v6 v7 v8 v9 v10 v11 m3) := by
      intro v5 v6 v7 v8 v9 v10 v11 m3
      unfold J_MO_draws_169
      refine gEx.aload rfl rfl rfl ?_
      refine gEx.getR rfl rfl (h0 0 _ rfl) rfl ?_
      refine gEx.iconst rfl rfl ?_
      refine gEx.iload rfl rfl rfl ?_
      refine gEx.imul rfl rfl ?_
      refine gEx.aload rfl rfl rfl ?_
      refine gEx.callVi rfl rfl rfl rfl (h0 0 _ rfl) rfl (fun _ h => (t_MO_shift (by omega) h0) _ h) (fun r1 => ?_)
      refine gEx.iadd rfl rfl ?_
      refine gEx.dup2 rfl rfl ?_
      refine gEx.iald rfl rfl (h0 18 _ rfl) ?_
      refine gEx.iload rfl rfl rfl ?_
      refine gEx.iadd rfl rfl ?_
      refine gEx.iast rfl rfl (h0 18 _ rfl) (fun m4 => ?_)
      refine gEx.aload rfl rfl rfl ?_
      refine gEx.getR rfl rfl (h0 0 _ rfl) rfl ?_
      refine gEx.aload rfl rfl rfl ?_
      refine gEx.getR rfl rfl (h0 0 _ rfl) rfl ?_
      refine gEx.iload rfl rfl rfl ?_
      refine gEx.iald rfl rfl (h0 11 _ rfl) ?_
      refine gEx.dup2 rfl rfl ?_
      refine gEx.iald rfl rfl (h0 19 _ rfl) ?_
      refine gEx.iload rfl rfl rfl ?_
      refine gEx.iadd rfl rfl ?_
      refine gEx.iast rfl rfl (h0 19 _ rfl) (fun m5 => ?_)
      refine gEx.iload rfl rfl rfl ?_
      refine gEx.iload rfl rfl rfl ?_
      refine gEx.iadd rfl rfl ?_
      refine gEx.istoreL (ls' := fun v12 => [some (.ref 81), some (.int v12), some (.int v6), some (.int v7), some (.int v8), some (.int v9), some (.int v10), some (.int v11)]) rfl rfl (fun _ => rfl) (fun v12 => ?_)
      exact gEx.lab rfl rfl (hJ_209 v12 v6 m5)
    have hJ_55 : ∀ (v13 : Int32) (v14 : Int32) (v15 : Int32) (v16 : Int32) (v17 : Int32) (m6 : gM), gEx d gcx_172 sh gri 55 [some (.ref 81), some (.int v13), some (.int v14), some (.int v15), some (.int v16), none, none, none] [.int v17] m6 (J_MO_draws_55 rec_4 v13 v14 v15 v16 v17 m6) := by
      intro v13 v14 v15 v16 v17 m6
      unfold J_MO_draws_55
      refine gEx.istore (ls' := [some (.ref 81), some (.int v13), some (.int v14), some (.int v15), some (.int v16), some (.int v17), none, none]) rfl rfl rfl ?_
      refine gEx.aload rfl rfl rfl ?_
      refine gEx.getR rfl rfl (h0 0 _ rfl) rfl ?_
      refine gEx.iload rfl rfl rfl ?_
      refine gEx.iald rfl rfl (h0 14 _ rfl) ?_
      refine gEx.iconst rfl rfl ?_
      refine gEx.icmp_ne (tn := 209) rfl rfl rfl ?_ ?_
      · refine gEx.iload rfl rfl rfl ?_
        refine gEx.if_le (tn := 209) rfl rfl rfl ?_ ?_
        · refine gEx.iload rfl rfl rfl ?_
          refine gEx.aload rfl rfl rfl ?_
          refine gEx.iload rfl rfl rfl ?_
          refine gEx.callVi rfl rfl rfl rfl (h0 0 _ rfl) rfl (fun _ h => (t_MO_oilOf (by omega) h0) _ h) (fun r2 => ?_)
          refine gEx.imul rfl rfl ?_
          refine gEx.iload rfl rfl rfl ?_
          refine gEx.idiv rfl rfl ?_
          refine gEx.istoreL (ls' := fun v18 => [some (.ref 81), some (.int v13), some (.int v14), some (.int v15), some (.int v16), some (.int v17), some (.int v18), none]) rfl rfl (fun _ => rfl) (fun v18 => ?_)
          refine gEx.aload rfl rfl rfl ?_
          refine gEx.iload rfl rfl rfl ?_
          refine gEx.iload rfl rfl rfl ?_
          refine gEx.callVv rfl rfl rfl rfl (h0 0 _ rfl) rfl (fun _ h => (t_MO_take (by omega) h0) _ h) (fun r3 => ?_)
          refine gEx.aload rfl rfl rfl ?_
          refine gEx.getR rfl rfl (h0 0 _ rfl) rfl ?_
          refine gEx.iload rfl rfl rfl ?_
          refine gEx.dup2 rfl rfl ?_
          refine gEx.iald rfl rfl (h0 3 _ rfl) ?_
          refine gEx.iload rfl rfl rfl ?_
          refine gEx.iload rfl rfl rfl ?_
          refine gEx.isub rfl rfl ?_
          refine gEx.isub rfl rfl ?_
          refine gEx.iast rfl rfl (h0 3 _ rfl) (fun m7 => ?_)
          refine gEx.aload rfl rfl rfl ?_
          refine gEx.getR rfl rfl (h0 0 _ rfl) rfl ?_
          refine gEx.iload rfl rfl rfl ?_
          refine gEx.dup2 rfl rfl ?_
          refine gEx.iald rfl rfl (h0 16 _ rfl) ?_
          refine gEx.iload rfl rfl rfl ?_
          refine gEx.iload rfl rfl rfl ?_
          refine gEx.isub rfl rfl ?_
          refine gEx.iadd rfl rfl ?_
          refine gEx.iast rfl rfl (h0 16 _ rfl) (fun m8 => ?_)
          refine gEx.aload rfl rfl rfl ?_
          refine gEx.getR rfl rfl (h0 0 _ rfl) rfl ?_
          refine gEx.iload rfl rfl rfl ?_
          refine gEx.dup2 rfl rfl ?_
          refine gEx.iald rfl rfl (h0 15 _ rfl) ?_
          refine gEx.iload rfl rfl rfl ?_
          refine gEx.iadd rfl rfl ?_
          refine gEx.iast rfl rfl (h0 15 _ rfl) (fun m9 => ?_)
          refine gEx.iconst rfl rfl ?_
          refine gEx.istore (ls' := [some (.ref 81), some (.int v13), some (.int v14), some (.int v15), some (.int v16), some (.int v17), some (.int v18), some (.int 0)]) rfl rfl rfl ?_
          have hL_134 : ∀ (n : Nat) (v19 : Int32) (m10 : gM), gEx d gcx_172 sh gri 134 [some (.ref 81), some (.int v13), some (.int v14), some (.int v15), some (.int v16), some (.int v17), some (.int v18), some (.int v19)] [] m10 (L_MO_draws_134 v14 (fun v19 m10 => J_MO_draws_169 rec_4 v13 v14 v15 v16 v17 v18 v19 m10) n v19 m10) := by
            refine gfix_ind (P := fun (f : Int32 → gM → Option (Int32 × gM)) => ∀ (v19 : Int32) (m10 : gM), gEx d gcx_172 sh gri 134 [some (.ref 81), some (.int v13), some (.int v14), some (.int v15), some (.int v16), some (.int v17), some (.int v18), some (.int v19)] [] m10 (f v19 m10)) (fun _ _ => gEx.none) (fun rec_134 hrec_134 => ?_)
            intro v19 m10
            refine gEx.iload rfl rfl rfl ?_
            refine gEx.iconst rfl rfl ?_
            refine gEx.icmp_ge (tn := 169) rfl rfl rfl ?_ ?_
            · refine gEx.aload rfl rfl rfl ?_
              refine gEx.getR rfl rfl (h0 0 _ rfl) rfl ?_
              refine gEx.iconst rfl rfl ?_
              refine gEx.iload rfl rfl rfl ?_
              refine gEx.imul rfl rfl ?_
              refine gEx.iload rfl rfl rfl ?_
              refine gEx.iadd rfl rfl ?_
              refine gEx.dup2 rfl rfl ?_
              refine gEx.iald rfl rfl (h0 17 _ rfl) ?_
              refine gEx.aload rfl rfl rfl ?_
              refine gEx.getR rfl rfl (h0 0 _ rfl) rfl ?_
              refine gEx.iload rfl rfl rfl ?_
              refine gEx.iald rfl rfl (h0 24 _ rfl) ?_
              refine gEx.iadd rfl rfl ?_
              refine gEx.iast rfl rfl (h0 17 _ rfl) (fun m11 => ?_)
              refine gEx.iinc (ls' := [some (.ref 81), some (.int v13), some (.int v14), some (.int v15), some (.int v16), some (.int v17), some (.int v18), some (.int (v19 + 1))]) rfl rfl rfl rfl ?_
              refine gEx.goto (tn := 134) rfl rfl rfl ?_
              exact gEx.lab rfl rfl (hrec_134 (v19 + 1) m11)
            · exact gEx.lab rfl rfl (hJ_169 v13 v14 v15 v16 v17 v18 v19 m10)
          exact gEx.lab rfl rfl (hL_134 1000 0 m9)
        · exact gEx.lab rfl rfl (hJ_209 v13 v14 m6)
      · exact gEx.lab rfl rfl (hJ_209 v13 v14 m6)
    intro v1 v2 m1
    refine gEx.iload rfl rfl rfl ?_
    refine gEx.aload rfl rfl rfl ?_
    refine gEx.getI rfl rfl (h0 0 _ rfl) rfl ?_
    refine gEx.icmp_ge (tn := 215) rfl rfl rfl ?_ ?_
    · refine gEx.aload rfl rfl rfl ?_
      refine gEx.getR rfl rfl (h0 0 _ rfl) rfl ?_
      refine gEx.iload rfl rfl rfl ?_
      refine gEx.iald rfl rfl (h0 12 _ rfl) ?_
      refine gEx.istoreL (ls' := fun v20 => [some (.ref 81), some (.int v1), some (.int v2), some (.int v20), none, none, none, none]) rfl rfl (fun _ => rfl) (fun v20 => ?_)
      refine gEx.aload rfl rfl rfl ?_
      refine gEx.iload rfl rfl rfl ?_
      refine gEx.callVi rfl rfl rfl rfl (h0 0 _ rfl) rfl (fun _ h => (t_MO_oilOf (by omega) h0) _ h) (fun r4 => ?_)
      refine gEx.aload rfl rfl rfl ?_
      refine gEx.getR rfl rfl (h0 0 _ rfl) rfl ?_
      refine gEx.iload rfl rfl rfl ?_
      refine gEx.iald rfl rfl (h0 3 _ rfl) ?_
      refine gEx.iadd rfl rfl ?_
      refine gEx.istoreL (ls' := fun v21 => [some (.ref 81), some (.int v1), some (.int v2), some (.int v20), some (.int v21), none, none, none]) rfl rfl (fun _ => rfl) (fun v21 => ?_)
      refine gEx.aload rfl rfl rfl ?_
      refine gEx.getR rfl rfl (h0 0 _ rfl) rfl ?_
      refine gEx.iload rfl rfl rfl ?_
      refine gEx.iald rfl rfl (h0 13 _ rfl) ?_
      refine gEx.iload rfl rfl rfl ?_
      refine gEx.icmp_ge (tn := 53) rfl rfl rfl ?_ ?_
      · refine gEx.aload rfl rfl rfl ?_
        refine gEx.getR rfl rfl (h0 0 _ rfl) rfl ?_
        refine gEx.iload rfl rfl rfl ?_
        refine gEx.iald rfl rfl (h0 13 _ rfl) ?_
        refine gEx.goto (tn := 55) rfl rfl rfl ?_
        exact gEx.lab rfl rfl (hJ_55 v1 v2 v20 v21 (grd r4.2 94 v2) r4.2)
      · refine gEx.iload rfl rfl rfl ?_
        exact gEx.lab rfl rfl (hJ_55 v1 v2 v20 v21 v21 r4.2)
    · refine gEx.iload rfl rfl rfl ?_
      exact gEx.reti rfl rfl
  exact gEx.lab rfl rfl (hL_4 1000 0 0 m)
abbrev gcx_173 : gC := glook (gco_173_0 ++ (gco_173_1))
set_option maxRecDepth 100000 in
set_option maxHeartbeats 4000000 in
theorem t_MO_beside {d : Nat} (hd : 2 ≤ d) {sh : gH} {x1 : Int32} {x2 : Int32} (h0 : gHas sh.1 81 gsh_MO) {m : gM} : ∀ x, f_MO_beside x1 x2 m = some x → gR gmi gdf gcd d 173 [.ref 81, .int x1, .int x2] (sh, m) ((gri x).1, (sh, (gri x).2)) := by
  obtain ⟨d, rfl⟩ : ∃ e, d = e + 1 := ⟨d - 1, by omega⟩
  refine gR_of (mx := 5) (code := gcx_173) rfl rfl (Nat.le_of_ble_eq_true rfl) ?_
  have hJ_51 : ∀ (v1 : Int32) (v2 : Int32) (v3 : Int32) (m1 : gM), gEx d gcx_173 sh gri 51 [some (.ref 81), some (.int x1), some (.int x2), some (.int v1), none] [.int v3, .int v2] m1 (J_MO_beside_51 v1 v2 v3 m1) := by
    intro v1 v2 v3 m1
    unfold J_MO_beside_51
    refine gEx.iadd rfl rfl ?_
    refine gEx.istore (ls' := [some (.ref 81), some (.int x1), some (.int x2), some (.int v1), some (.int (v2 + v3))]) rfl rfl rfl ?_
    refine gEx.iload rfl rfl rfl ?_
    refine gEx.i2l rfl rfl ?_
    refine gEx.lconst rfl rfl ?_
    refine gEx.aload rfl rfl rfl ?_
    refine gEx.getI rfl rfl (h0 0 _ rfl) rfl ?_
    refine gEx.iconst rfl rfl ?_
    refine gEx.isub rfl rfl ?_
    refine gEx.i2l rfl rfl ?_
    refine gEx.callSi rfl rfl rfl rfl rfl (fun _ h => (t_MO_in (by omega) ) _ h) (fun r1 => ?_)
    refine gEx.if_eq (tn := 99) rfl rfl rfl ?_ ?_
    · refine gEx.lab (ls' := [some (.ref 81), none, none, none, none]) rfl rfl ?_
      refine gEx.iconst rfl rfl ?_
      refine gEx.lab (ls' := [some (.ref 81), none, none, none, none]) rfl rfl ?_
      exact gEx.reti rfl rfl
    · refine gEx.iload rfl rfl rfl ?_
      refine gEx.i2l rfl rfl ?_
      refine gEx.lconst rfl rfl ?_
      refine gEx.aload rfl rfl rfl ?_
      refine gEx.getI rfl rfl (h0 0 _ rfl) rfl ?_
      refine gEx.iconst rfl rfl ?_
      refine gEx.isub rfl rfl ?_
      refine gEx.i2l rfl rfl ?_
      refine gEx.callSi rfl rfl rfl rfl rfl (fun _ h => (t_MO_in (by omega) ) _ h) (fun r2 => ?_)
      refine gEx.if_eq (tn := 99) rfl rfl rfl ?_ ?_
      · refine gEx.lab (ls' := [some (.ref 81), none, none, none, none]) rfl rfl ?_
        refine gEx.iconst rfl rfl ?_
        refine gEx.lab (ls' := [some (.ref 81), none, none, none, none]) rfl rfl ?_
        exact gEx.reti rfl rfl
      · refine gEx.aload rfl rfl rfl ?_
        refine gEx.getI rfl rfl (h0 0 _ rfl) rfl ?_
        refine gEx.iload rfl rfl rfl ?_
        refine gEx.imul rfl rfl ?_
        refine gEx.iload rfl rfl rfl ?_
        refine gEx.iadd rfl rfl ?_
        refine gEx.goto (tn := 101) rfl rfl rfl ?_
        refine gEx.lab (ls' := [some (.ref 81), none, none, none, none]) rfl rfl ?_
        exact gEx.reti rfl rfl
  have hJ_24 : ∀ (v4 : Int32) (v5 : Int32) (m2 : gM), gEx d gcx_173 sh gri 24 [some (.ref 81), some (.int x1), some (.int x2), none, none] [.int v5, .int v4] m2 (J_MO_beside_24 x1 x2 v4 v5 m2) := by
    intro v4 v5 m2
    unfold J_MO_beside_24
    refine gEx.iadd rfl rfl ?_
    refine gEx.istore (ls' := [some (.ref 81), some (.int x1), some (.int x2), some (.int (v4 + v5)), none]) rfl rfl rfl ?_
    refine gEx.iload rfl rfl rfl ?_
    refine gEx.aload rfl rfl rfl ?_
    refine gEx.getI rfl rfl (h0 0 _ rfl) rfl ?_
    refine gEx.idiv rfl rfl ?_
    refine gEx.iload rfl rfl rfl ?_
    refine gEx.iconst rfl rfl ?_
    refine gEx.icmp_ne (tn := 41) rfl rfl rfl ?_ ?_
    · refine gEx.iconst rfl rfl ?_
      refine gEx.goto (tn := 51) rfl rfl rfl ?_
      exact gEx.lab rfl rfl (hJ_51 (v4 + v5) (x1 / (gfd m2 81 0)) (-1) m2)
    · refine gEx.iload rfl rfl rfl ?_
      refine gEx.iconst rfl rfl ?_
      refine gEx.icmp_ne (tn := 50) rfl rfl rfl ?_ ?_
      · refine gEx.iconst rfl rfl ?_
        refine gEx.goto (tn := 51) rfl rfl rfl ?_
        exact gEx.lab rfl rfl (hJ_51 (v4 + v5) (x1 / (gfd m2 81 0)) 1 m2)
      · refine gEx.iconst rfl rfl ?_
        exact gEx.lab rfl rfl (hJ_51 (v4 + v5) (x1 / (gfd m2 81 0)) 0 m2)
  show gEx d gcx_173 sh gri 0 [some (.ref 81), some (.int x1), some (.int x2), none, none] [] m (f_MO_beside x1 x2 m)
  unfold f_MO_beside
  refine gEx.iload rfl rfl rfl ?_
  refine gEx.aload rfl rfl rfl ?_
  refine gEx.getI rfl rfl (h0 0 _ rfl) rfl ?_
  refine gEx.irem rfl rfl ?_
  refine gEx.iload rfl rfl rfl ?_
  refine gEx.if_ne (tn := 14) rfl rfl rfl ?_ ?_
  · refine gEx.iconst rfl rfl ?_
    refine gEx.goto (tn := 24) rfl rfl rfl ?_
    exact gEx.lab rfl rfl (hJ_24 (x1 - x1 / (gfd m 81 0) * (gfd m 81 0)) (-1) m)
  · refine gEx.iload rfl rfl rfl ?_
    refine gEx.iconst rfl rfl ?_
    refine gEx.icmp_ne (tn := 23) rfl rfl rfl ?_ ?_
    · refine gEx.iconst rfl rfl ?_
      refine gEx.goto (tn := 24) rfl rfl rfl ?_
      exact gEx.lab rfl rfl (hJ_24 (x1 - x1 / (gfd m 81 0) * (gfd m 81 0)) 1 m)
    · refine gEx.iconst rfl rfl ?_
      exact gEx.lab rfl rfl (hJ_24 (x1 - x1 / (gfd m 81 0) * (gfd m 81 0)) 0 m)
abbrev gcx_174 : gC := glook (gco_174_0)
set_option maxRecDepth 100000 in
set_option maxHeartbeats 4000000 in
theorem t_MO_wantOf {d : Nat} (hd : 3 ≤ d) {sh : gH} {x1 : Int32} {x2 : Int32} (h0 : gHas sh.1 81 gsh_MO) {m : gM} : ∀ x, f_MO_wantOf x1 x2 m = some x → gR gmi gdf gcd d 174 [.ref 81, .int x1, .int x2] (sh, m) ((gri x).1, (sh, (gri x).2)) := by
  obtain ⟨d, rfl⟩ : ∃ e, d = e + 1 := ⟨d - 1, by omega⟩
  refine gR_of (mx := 5) (code := gcx_174) rfl rfl (Nat.le_of_ble_eq_true rfl) ?_
  have hJ_60 : ∀ (v1 : Int32) (v2 : Int32) (m1 : gM), gEx d gcx_174 sh gri 60 [some (.ref 81), some (.int x1), some (.int x2), some (.int v1), none] [.int v2] m1 (J_MO_wantOf_60 x1 v1 v2 m1) := by
    intro v1 v2 m1
    unfold J_MO_wantOf_60
    refine gEx.istore (ls' := [some (.ref 81), some (.int x1), some (.int x2), some (.int v1), some (.int v2)]) rfl rfl rfl ?_
    refine gEx.aload rfl rfl rfl ?_
    refine gEx.getR rfl rfl (h0 0 _ rfl) rfl ?_
    refine gEx.iload rfl rfl rfl ?_
    refine gEx.iald rfl rfl (h0 25 _ rfl) ?_
    refine gEx.aload rfl rfl rfl ?_
    refine gEx.getR rfl rfl (h0 0 _ rfl) rfl ?_
    refine gEx.iload rfl rfl rfl ?_
    refine gEx.iald rfl rfl (h0 25 _ rfl) ?_
    refine gEx.isub rfl rfl ?_
    refine gEx.iload rfl rfl rfl ?_
    refine gEx.imul rfl rfl ?_
    refine gEx.iconst rfl rfl ?_
    refine gEx.idiv rfl rfl ?_
    exact gEx.reti rfl rfl
  show gEx d gcx_174 sh gri 0 [some (.ref 81), some (.int x1), some (.int x2), none, none] [] m (f_MO_wantOf x1 x2 m)
  unfold f_MO_wantOf
  refine gEx.aload rfl rfl rfl ?_
  refine gEx.iload rfl rfl rfl ?_
  refine gEx.iload rfl rfl rfl ?_
  refine gEx.callVi rfl rfl rfl rfl (h0 0 _ rfl) rfl (fun _ h => (t_MO_beside (by omega) h0) _ h) (fun r1 => ?_)
  refine gEx.istore (ls' := [some (.ref 81), some (.int x1), some (.int x2), some (.int r1.1), none]) rfl rfl rfl ?_
  refine gEx.iload rfl rfl rfl ?_
  refine gEx.iconst rfl rfl ?_
  refine gEx.icmp_eq (tn := 28) rfl rfl rfl ?_ ?_
  · refine gEx.lab (ls' := [some (.ref 81), none, none, none, none]) rfl rfl ?_
    refine gEx.iconst rfl rfl ?_
    exact gEx.reti rfl rfl
  · refine gEx.aload rfl rfl rfl ?_
    refine gEx.getR rfl rfl (h0 0 _ rfl) rfl ?_
    refine gEx.iload rfl rfl rfl ?_
    refine gEx.iald rfl rfl (h0 25 _ rfl) ?_
    refine gEx.aload rfl rfl rfl ?_
    refine gEx.getR rfl rfl (h0 0 _ rfl) rfl ?_
    refine gEx.iload rfl rfl rfl ?_
    refine gEx.iald rfl rfl (h0 25 _ rfl) ?_
    refine gEx.icmp_lt (tn := 30) rfl rfl rfl ?_ ?_
    · refine gEx.aload rfl rfl rfl ?_
      refine gEx.getR rfl rfl (h0 0 _ rfl) rfl ?_
      refine gEx.iload rfl rfl rfl ?_
      refine gEx.iald rfl rfl (h0 1 _ rfl) ?_
      refine gEx.aload rfl rfl rfl ?_
      refine gEx.getR rfl rfl (h0 0 _ rfl) rfl ?_
      refine gEx.iload rfl rfl rfl ?_
      refine gEx.iald rfl rfl (h0 1 _ rfl) ?_
      refine gEx.icmp_ge (tn := 54) rfl rfl rfl ?_ ?_
      · refine gEx.aload rfl rfl rfl ?_
        refine gEx.getR rfl rfl (h0 0 _ rfl) rfl ?_
        refine gEx.iload rfl rfl rfl ?_
        refine gEx.iald rfl rfl (h0 1 _ rfl) ?_
        refine gEx.goto (tn := 60) rfl rfl rfl ?_
        exact gEx.lab rfl rfl (hJ_60 r1.1 (grd r1.2 82 x1) r1.2)
      · refine gEx.aload rfl rfl rfl ?_
        refine gEx.getR rfl rfl (h0 0 _ rfl) rfl ?_
        refine gEx.iload rfl rfl rfl ?_
        refine gEx.iald rfl rfl (h0 1 _ rfl) ?_
        exact gEx.lab rfl rfl (hJ_60 r1.1 (grd r1.2 82 r1.1) r1.2)
    · refine gEx.lab (ls' := [some (.ref 81), none, none, none, none]) rfl rfl ?_
      refine gEx.iconst rfl rfl ?_
      exact gEx.reti rfl rfl
abbrev gcx_175 : gC := glook (gco_175_0 ++ (gco_175_1 ++ (gco_175_2)))
set_option maxRecDepth 100000 in
set_option maxHeartbeats 4000000 in
theorem t_MO_flowOf {d : Nat} (hd : 4 ≤ d) {sh : gH} {x1 : Int32} (h0 : gHas sh.1 81 gsh_MO) {m : gM} : ∀ x, f_MO_flowOf x1 m = some x → gR gmi gdf gcd d 175 [.ref 81, .int x1] (sh, m) ((grv x).1, (sh, (grv x).2)) := by
  obtain ⟨d, rfl⟩ : ∃ e, d = e + 1 := ⟨d - 1, by omega⟩
  refine gR_of (mx := 9) (code := gcx_175) rfl rfl (Nat.le_of_ble_eq_true rfl) ?_
  have hJ_55 : ∀ (v1 : Int32) (v2 : Int32) (v3 : Int32) (m1 : gM), gEx d gcx_175 sh grv 55 [some (.ref 81), some (.int x1), some (.int v1), some (.int v2), some (.int v3), none, none, none, none] [] m1 (J_MO_flowOf_55 x1 v1 v2 v3 m1) := by
    intro v1 v2 v3 m1
    unfold J_MO_flowOf_55
    refine gEx.iconst rfl rfl ?_
    refine gEx.istore (ls' := [some (.ref 81), some (.int x1), some (.int v1), some (.int v2), some (.int 0), none, none, none, none]) rfl rfl rfl ?_
    have hL_58 : ∀ (n : Nat) (v4 : Int32) (m2 : gM), gEx d gcx_175 sh grv 58 [some (.ref 81), some (.int x1), some (.int v1), some (.int v2), some (.int v4), none, none, none, none] [] m2 (L_MO_flowOf_58 x1 v1 v2 n v4 m2) := by
      refine gfix_ind (P := fun (f : Int32 → gM → Option (gM)) => ∀ (v4 : Int32) (m2 : gM), gEx d gcx_175 sh grv 58 [some (.ref 81), some (.int x1), some (.int v1), some (.int v2), some (.int v4), none, none, none, none] [] m2 (f v4 m2)) (fun _ _ => gEx.none) (fun rec_58 hrec_58 => ?_)
      have hJ_201 : ∀ (v5 : Int32) (m3 : gM), gEx d gcx_175 sh grv 201 [some (.ref 81), some (.int x1), some (.int v1), some (.int v2), some (.int v5), none, none, none, none] [] m3 (J_MO_flowOf_201 rec_58 v5 m3) := by
        intro v5 m3
        unfold J_MO_flowOf_201
        refine gEx.iinc (ls' := [some (.ref 81), some (.int x1), some (.int v1), some (.int v2), some (.int (v5 + 1)), none, none, none, none]) rfl rfl rfl rfl ?_
        refine gEx.goto (tn := 58) rfl rfl rfl ?_
        exact gEx.lab rfl rfl (hrec_58 (v5 + 1) m3)
      have hJ_178 : ∀ (v6 : Int32) (v7 : Int32) (v8 : Int32) (v9 : Int32) (v10 : Int32) (m4 : gM), gEx d gcx_175 sh grv 178 [some (.ref 81), some (.int x1), some (.int v1), some (.int v2), some (.int v6), some (.int v7), some (.int v8), some (.int v9), some (.int v10)] [] m4 (J_MO_flowOf_178 x1 rec_58 v6 v7 v8 v9 v10 m4) := by
        intro v6 v7 v8 v9 v10 m4
        unfold J_MO_flowOf_178
        refine gEx.aload rfl rfl rfl ?_
        refine gEx.getR rfl rfl (h0 0 _ rfl) rfl ?_
        refine gEx.iload rfl rfl rfl ?_
        refine gEx.dup2 rfl rfl ?_
        refine gEx.iald rfl rfl (h0 3 _ rfl) ?_
        refine gEx.iload rfl rfl rfl ?_
        refine gEx.isub rfl rfl ?_
        refine gEx.iast rfl rfl (h0 3 _ rfl) (fun m5 => ?_)
        refine gEx.aload rfl rfl rfl ?_
        refine gEx.getR rfl rfl (h0 0 _ rfl) rfl ?_
        refine gEx.iload rfl rfl rfl ?_
        refine gEx.dup2 rfl rfl ?_
        refine gEx.iald rfl rfl (h0 29 _ rfl) ?_
        refine gEx.iload rfl rfl rfl ?_
        refine gEx.iadd rfl rfl ?_
        refine gEx.iast rfl rfl (h0 29 _ rfl) (fun m6 => ?_)
        exact gEx.lab rfl rfl (hJ_201 v6 m6)
      have hJ_90 : ∀ (v11 : Int32) (v12 : Int32) (m7 : gM), gEx d gcx_175 sh grv 90 [some (.ref 81), some (.int x1), some (.int v1), some (.int v2), some (.int v11), none, none, none, none] [.int v12] m7 (J_MO_flowOf_90 x1 v1 rec_58 v11 v12 m7) := by
        intro v11 v12 m7
        unfold J_MO_flowOf_90
        refine gEx.istore (ls' := [some (.ref 81), some (.int x1), some (.int v1), some (.int v2), some (.int v11), some (.int v12), none, none, none]) rfl rfl rfl ?_
        refine gEx.iload rfl rfl rfl ?_
        refine gEx.if_le (tn := 201) rfl rfl rfl ?_ ?_
        · refine gEx.iload rfl rfl rfl ?_
          refine gEx.if_le (tn := 201) rfl rfl rfl ?_ ?_
          · refine gEx.aload rfl rfl rfl ?_
            refine gEx.iload rfl rfl rfl ?_
            refine gEx.iload rfl rfl rfl ?_
            refine gEx.callVi rfl rfl rfl rfl (h0 0 _ rfl) rfl (fun _ h => (t_MO_beside (by omega) h0) _ h) (fun r1 => ?_)
            refine gEx.istore (ls' := [some (.ref 81), some (.int x1), some (.int v1), some (.int v2), some (.int v11), some (.int v12), some (.int r1.1), none, none]) rfl rfl rfl ?_
            refine gEx.iload rfl rfl rfl ?_
            refine gEx.aload rfl rfl rfl ?_
            refine gEx.getR rfl rfl (h0 0 _ rfl) rfl ?_
            refine gEx.iload rfl rfl rfl ?_
            refine gEx.iald rfl rfl (h0 27 _ rfl) ?_
            refine gEx.imul rfl rfl ?_
            refine gEx.iload rfl rfl rfl ?_
            refine gEx.idiv rfl rfl ?_
            refine gEx.istoreL (ls' := fun v13 => [some (.ref 81), some (.int x1), some (.int v1), some (.int v2), some (.int v11), some (.int v12), some (.int r1.1), some (.int v13), none]) rfl rfl (fun _ => rfl) (fun v13 => ?_)
            refine gEx.aload rfl rfl rfl ?_
            refine gEx.iload rfl rfl rfl ?_
            refine gEx.iload rfl rfl rfl ?_
            refine gEx.aload rfl rfl rfl ?_
            refine gEx.getR rfl rfl (h0 0 _ rfl) rfl ?_
            refine gEx.iload rfl rfl rfl ?_
            refine gEx.iald rfl rfl (h0 26 _ rfl) ?_
            refine gEx.imul rfl rfl ?_
            refine gEx.iload rfl rfl rfl ?_
            refine gEx.idiv rfl rfl ?_
            refine gEx.callVv rfl rfl rfl rfl (h0 0 _ rfl) rfl (fun _ h => (t_MO_take (by omega) h0) _ h) (fun r2 => ?_)
            refine gEx.iconst rfl rfl ?_
            refine gEx.istore (ls' := [some (.ref 81), some (.int x1), some (.int v1), some (.int v2), some (.int v11), some (.int v12), some (.int r1.1), some (.int v13), some (.int 0)]) rfl rfl rfl ?_
            have hL_142 : ∀ (n : Nat) (v14 : Int32) (m8 : gM), gEx d gcx_175 sh grv 142 [some (.ref 81), some (.int x1), some (.int v1), some (.int v2), some (.int v11), some (.int v12), some (.int r1.1), some (.int v13), some (.int v14)] [] m8 (L_MO_flowOf_142 r1 (fun v14 m8 => J_MO_flowOf_178 x1 rec_58 v11 v12 r1.1 v13 v14 m8) n v14 m8) := by
              refine gfix_ind (P := fun (f : Int32 → gM → Option (gM)) => ∀ (v14 : Int32) (m8 : gM), gEx d gcx_175 sh grv 142 [some (.ref 81), some (.int x1), some (.int v1), some (.int v2), some (.int v11), some (.int v12), some (.int r1.1), some (.int v13), some (.int v14)] [] m8 (f v14 m8)) (fun _ _ => gEx.none) (fun rec_142 hrec_142 => ?_)
              intro v14 m8
              refine gEx.iload rfl rfl rfl ?_
              refine gEx.iconst rfl rfl ?_
              refine gEx.icmp_ge (tn := 178) rfl rfl rfl ?_ ?_
              · refine gEx.aload rfl rfl rfl ?_
                refine gEx.getR rfl rfl (h0 0 _ rfl) rfl ?_
                refine gEx.iconst rfl rfl ?_
                refine gEx.iload rfl rfl rfl ?_
                refine gEx.imul rfl rfl ?_
                refine gEx.iload rfl rfl rfl ?_
                refine gEx.iadd rfl rfl ?_
                refine gEx.dup2 rfl rfl ?_
                refine gEx.iald rfl rfl (h0 28 _ rfl) ?_
                refine gEx.aload rfl rfl rfl ?_
                refine gEx.getR rfl rfl (h0 0 _ rfl) rfl ?_
                refine gEx.iload rfl rfl rfl ?_
                refine gEx.iald rfl rfl (h0 24 _ rfl) ?_
                refine gEx.iadd rfl rfl ?_
                refine gEx.iast rfl rfl (h0 28 _ rfl) (fun m9 => ?_)
                refine gEx.iinc (ls' := [some (.ref 81), some (.int x1), some (.int v1), some (.int v2), some (.int v11), some (.int v12), some (.int r1.1), some (.int v13), some (.int (v14 + 1))]) rfl rfl rfl rfl ?_
                refine gEx.goto (tn := 142) rfl rfl rfl ?_
                exact gEx.lab rfl rfl (hrec_142 (v14 + 1) m9)
              · exact gEx.lab rfl rfl (hJ_178 v11 v12 r1.1 v13 v14 m8)
            exact gEx.lab rfl rfl (hL_142 1000 0 r2)
          · exact gEx.lab rfl rfl (hJ_201 v11 m7)
        · exact gEx.lab rfl rfl (hJ_201 v11 m7)
      intro v4 m2
      refine gEx.iload rfl rfl rfl ?_
      refine gEx.iconst rfl rfl ?_
      refine gEx.icmp_ge (tn := 207) rfl rfl rfl ?_ ?_
      · refine gEx.iload rfl rfl rfl ?_
        refine gEx.iload rfl rfl rfl ?_
        refine gEx.icmp_le (tn := 83) rfl rfl rfl ?_ ?_
        · refine gEx.aload rfl rfl rfl ?_
          refine gEx.getR rfl rfl (h0 0 _ rfl) rfl ?_
          refine gEx.iload rfl rfl rfl ?_
          refine gEx.iald rfl rfl (h0 30 _ rfl) ?_
          refine gEx.iload rfl rfl rfl ?_
          refine gEx.imul rfl rfl ?_
          refine gEx.iload rfl rfl rfl ?_
          refine gEx.idiv rfl rfl ?_
          refine gEx.goto (tn := 90) rfl rfl rfl ?_
          exact gEx.lab rfl rfl (hJ_90 v4 (((grd m2 111 v4) * v1) / v2) m2)
        · refine gEx.aload rfl rfl rfl ?_
          refine gEx.getR rfl rfl (h0 0 _ rfl) rfl ?_
          refine gEx.iload rfl rfl rfl ?_
          refine gEx.iald rfl rfl (h0 30 _ rfl) ?_
          exact gEx.lab rfl rfl (hJ_90 v4 (grd m2 111 v4) m2)
      · exact gEx.retv rfl rfl
    exact gEx.lab rfl rfl (hL_58 1000 0 m1)
  show gEx d gcx_175 sh grv 0 [some (.ref 81), some (.int x1), none, none, none, none, none, none, none] [] m (f_MO_flowOf x1 m)
  unfold f_MO_flowOf
  refine gEx.aload rfl rfl rfl ?_
  refine gEx.getR rfl rfl (h0 0 _ rfl) rfl ?_
  refine gEx.iload rfl rfl rfl ?_
  refine gEx.iald rfl rfl (h0 26 _ rfl) ?_
  refine gEx.aload rfl rfl rfl ?_
  refine gEx.getR rfl rfl (h0 0 _ rfl) rfl ?_
  refine gEx.iload rfl rfl rfl ?_
  refine gEx.iald rfl rfl (h0 27 _ rfl) ?_
  refine gEx.iadd rfl rfl ?_
  refine gEx.istoreL (ls' := fun v15 => [some (.ref 81), some (.int x1), some (.int v15), none, none, none, none, none, none]) rfl rfl (fun _ => rfl) (fun v15 => ?_)
  refine gEx.iconst rfl rfl ?_
  refine gEx.istore (ls' := [some (.ref 81), some (.int x1), some (.int v15), some (.int 0), none, none, none, none, none]) rfl rfl rfl ?_
  refine gEx.iconst rfl rfl ?_
  refine gEx.istore (ls' := [some (.ref 81), some (.int x1), some (.int v15), some (.int 0), some (.int 0), none, none, none, none]) rfl rfl rfl ?_
  have hL_19 : ∀ (n : Nat) (v16 : Int32) (v17 : Int32) (m10 : gM), gEx d gcx_175 sh grv 19 [some (.ref 81), some (.int x1), some (.int v15), some (.int v16), some (.int v17), none, none, none, none] [] m10 (L_MO_flowOf_19 x1 (fun v16 v17 m10 => J_MO_flowOf_55 x1 v15 v16 v17 m10) n v16 v17 m10) := by
    refine gfix_ind (P := fun (f : Int32 → Int32 → gM → Option (gM)) => ∀ (v16 : Int32) (v17 : Int32) (m10 : gM), gEx d gcx_175 sh grv 19 [some (.ref 81), some (.int x1), some (.int v15), some (.int v16), some (.int v17), none, none, none, none] [] m10 (f v16 v17 m10)) (fun _ _ _ => gEx.none) (fun rec_19 hrec_19 => ?_)
    intro v16 v17 m10
    refine gEx.iload rfl rfl rfl ?_
    refine gEx.iconst rfl rfl ?_
    refine gEx.icmp_ge (tn := 55) rfl rfl rfl ?_ ?_
    · refine gEx.aload rfl rfl rfl ?_
      refine gEx.getR rfl rfl (h0 0 _ rfl) rfl ?_
      refine gEx.iload rfl rfl rfl ?_
      refine gEx.aload rfl rfl rfl ?_
      refine gEx.iload rfl rfl rfl ?_
      refine gEx.iload rfl rfl rfl ?_
      refine gEx.callVi rfl rfl rfl rfl (h0 0 _ rfl) rfl (fun _ h => (t_MO_wantOf (by omega) h0) _ h) (fun r3 => ?_)
      refine gEx.iast rfl rfl (h0 30 _ rfl) (fun m11 => ?_)
      refine gEx.iload rfl rfl rfl ?_
      refine gEx.aload rfl rfl rfl ?_
      refine gEx.getR rfl rfl (h0 0 _ rfl) rfl ?_
      refine gEx.iload rfl rfl rfl ?_
      refine gEx.iald rfl rfl (h0 30 _ rfl) ?_
      refine gEx.iadd rfl rfl ?_
      refine gEx.istoreL (ls' := fun v18 => [some (.ref 81), some (.int x1), some (.int v15), some (.int v18), some (.int v17), none, none, none, none]) rfl rfl (fun _ => rfl) (fun v18 => ?_)
      refine gEx.iinc (ls' := [some (.ref 81), some (.int x1), some (.int v15), some (.int v18), some (.int (v17 + 1)), none, none, none, none]) rfl rfl rfl rfl ?_
      refine gEx.goto (tn := 19) rfl rfl rfl ?_
      exact gEx.lab rfl rfl (hrec_19 v18 (v17 + 1) m11)
    · exact gEx.lab rfl rfl (hJ_55 v15 v16 v17 m10)
  exact gEx.lab rfl rfl (hL_19 1000 0 0 m)
abbrev gcx_176 : gC := glook (gco_176_0 ++ (gco_176_1))
set_option maxRecDepth 100000 in
set_option maxHeartbeats 4000000 in
theorem t_MO_flows {d : Nat} (hd : 5 ≤ d) {sh : gH}  (h0 : gHas sh.1 81 gsh_MO) {m : gM} : ∀ x, f_MO_flows  m = some x → gR gmi gdf gcd d 176 [.ref 81] (sh, m) ((grv x).1, (sh, (grv x).2)) := by
  obtain ⟨d, rfl⟩ : ∃ e, d = e + 1 := ⟨d - 1, by omega⟩
  refine gR_of (mx := 3) (code := gcx_176) rfl rfl (Nat.le_of_ble_eq_true rfl) ?_
  have hJ_104 : ∀ (v1 : Int32) (m1 : gM), gEx d gcx_176 sh grv 104 [some (.ref 81), some (.int v1), none] [] m1 (J_MO_flows_104 v1 m1) := by
    intro v1 m1
    unfold J_MO_flows_104
    refine gEx.iconst rfl rfl ?_
    refine gEx.istore (ls' := [some (.ref 81), some (.int 0), none]) rfl rfl rfl ?_
    have hL_106 : ∀ (n : Nat) (v2 : Int32) (m2 : gM), gEx d gcx_176 sh grv 106 [some (.ref 81), some (.int v2), none] [] m2 (L_MO_flows_106 n v2 m2) := by
      refine gfix_ind (P := fun (f : Int32 → gM → Option (gM)) => ∀ (v2 : Int32) (m2 : gM), gEx d gcx_176 sh grv 106 [some (.ref 81), some (.int v2), none] [] m2 (f v2 m2)) (fun _ _ => gEx.none) (fun rec_106 hrec_106 => ?_)
      have hJ_168 : ∀ (v3 : Int32) (v4 : Int32) (m3 : gM), gEx d gcx_176 sh grv 168 [some (.ref 81), some (.int v3), some (.int v4)] [] m3 (J_MO_flows_168 rec_106 v3 v4 m3) := by
        intro v3 v4 m3
        unfold J_MO_flows_168
        refine gEx.iinc (ls' := [some (.ref 81), some (.int (v3 + 1)), some (.int v4)]) rfl rfl rfl rfl ?_
        refine gEx.goto (tn := 106) rfl rfl rfl ?_
        exact gEx.lab rfl rfl (hrec_106 (v3 + 1) m3)
      intro v2 m2
      refine gEx.iload rfl rfl rfl ?_
      refine gEx.aload rfl rfl rfl ?_
      refine gEx.callVi rfl rfl rfl rfl (h0 0 _ rfl) rfl (fun _ h => (t_MO_cells (by omega) h0) _ h) (fun r1 => ?_)
      refine gEx.icmp_ge (tn := 174) rfl rfl rfl ?_ ?_
      · refine gEx.aload rfl rfl rfl ?_
        refine gEx.getR rfl rfl (h0 0 _ rfl) rfl ?_
        refine gEx.iload rfl rfl rfl ?_
        refine gEx.dup2 rfl rfl ?_
        refine gEx.iald rfl rfl (h0 3 _ rfl) ?_
        refine gEx.aload rfl rfl rfl ?_
        refine gEx.getR rfl rfl (h0 0 _ rfl) rfl ?_
        refine gEx.iload rfl rfl rfl ?_
        refine gEx.iald rfl rfl (h0 29 _ rfl) ?_
        refine gEx.iadd rfl rfl ?_
        refine gEx.iast rfl rfl (h0 3 _ rfl) (fun m4 => ?_)
        refine gEx.iconst rfl rfl ?_
        refine gEx.istore (ls' := [some (.ref 81), some (.int v2), some (.int 0)]) rfl rfl rfl ?_
        have hL_131 : ∀ (n : Nat) (v5 : Int32) (m5 : gM), gEx d gcx_176 sh grv 131 [some (.ref 81), some (.int v2), some (.int v5)] [] m5 (L_MO_flows_131 v2 (fun v5 m5 => J_MO_flows_168 rec_106 v2 v5 m5) n v5 m5) := by
          refine gfix_ind (P := fun (f : Int32 → gM → Option (gM)) => ∀ (v5 : Int32) (m5 : gM), gEx d gcx_176 sh grv 131 [some (.ref 81), some (.int v2), some (.int v5)] [] m5 (f v5 m5)) (fun _ _ => gEx.none) (fun rec_131 hrec_131 => ?_)
          intro v5 m5
          refine gEx.iload rfl rfl rfl ?_
          refine gEx.iconst rfl rfl ?_
          refine gEx.icmp_ge (tn := 168) rfl rfl rfl ?_ ?_
          · refine gEx.aload rfl rfl rfl ?_
            refine gEx.getR rfl rfl (h0 0 _ rfl) rfl ?_
            refine gEx.iconst rfl rfl ?_
            refine gEx.iload rfl rfl rfl ?_
            refine gEx.imul rfl rfl ?_
            refine gEx.iload rfl rfl rfl ?_
            refine gEx.iadd rfl rfl ?_
            refine gEx.dup2 rfl rfl ?_
            refine gEx.iald rfl rfl (h0 5 _ rfl) ?_
            refine gEx.aload rfl rfl rfl ?_
            refine gEx.getR rfl rfl (h0 0 _ rfl) rfl ?_
            refine gEx.iconst rfl rfl ?_
            refine gEx.iload rfl rfl rfl ?_
            refine gEx.imul rfl rfl ?_
            refine gEx.iload rfl rfl rfl ?_
            refine gEx.iadd rfl rfl ?_
            refine gEx.iald rfl rfl (h0 28 _ rfl) ?_
            refine gEx.iadd rfl rfl ?_
            refine gEx.iast rfl rfl (h0 5 _ rfl) (fun m6 => ?_)
            refine gEx.iinc (ls' := [some (.ref 81), some (.int v2), some (.int (v5 + 1))]) rfl rfl rfl rfl ?_
            refine gEx.goto (tn := 131) rfl rfl rfl ?_
            exact gEx.lab rfl rfl (hrec_131 (v5 + 1) m6)
          · exact gEx.lab rfl rfl (hJ_168 v2 v5 m5)
        exact gEx.lab rfl rfl (hL_131 1000 0 m4)
      · exact gEx.retv rfl rfl
    exact gEx.lab rfl rfl (hL_106 1000 0 m1)
  have hJ_83 : ∀ (v6 : Int32) (m7 : gM), gEx d gcx_176 sh grv 83 [some (.ref 81), some (.int v6), none] [] m7 (J_MO_flows_83 v6 m7) := by
    intro v6 m7
    unfold J_MO_flows_83
    refine gEx.iconst rfl rfl ?_
    refine gEx.istore (ls' := [some (.ref 81), some (.int 0), none]) rfl rfl rfl ?_
    have hL_85 : ∀ (n : Nat) (v7 : Int32) (m8 : gM), gEx d gcx_176 sh grv 85 [some (.ref 81), some (.int v7), none] [] m8 (L_MO_flows_85 (fun v7 m8 => J_MO_flows_104 v7 m8) n v7 m8) := by
      refine gfix_ind (P := fun (f : Int32 → gM → Option (gM)) => ∀ (v7 : Int32) (m8 : gM), gEx d gcx_176 sh grv 85 [some (.ref 81), some (.int v7), none] [] m8 (f v7 m8)) (fun _ _ => gEx.none) (fun rec_85 hrec_85 => ?_)
      intro v7 m8
      refine gEx.iload rfl rfl rfl ?_
      refine gEx.aload rfl rfl rfl ?_
      refine gEx.callVi rfl rfl rfl rfl (h0 0 _ rfl) rfl (fun _ h => (t_MO_cells (by omega) h0) _ h) (fun r2 => ?_)
      refine gEx.icmp_ge (tn := 104) rfl rfl rfl ?_ ?_
      · refine gEx.aload rfl rfl rfl ?_
        refine gEx.iload rfl rfl rfl ?_
        refine gEx.callVv rfl rfl rfl rfl (h0 0 _ rfl) rfl (fun _ h => (t_MO_flowOf (by omega) h0) _ h) (fun r3 => ?_)
        refine gEx.iinc (ls' := [some (.ref 81), some (.int (v7 + 1)), none]) rfl rfl rfl rfl ?_
        refine gEx.goto (tn := 85) rfl rfl rfl ?_
        exact gEx.lab rfl rfl (hrec_85 (v7 + 1) r3)
      · exact gEx.lab rfl rfl (hJ_104 v7 r2.2)
    exact gEx.lab rfl rfl (hL_85 1000 0 m7)
  show gEx d gcx_176 sh grv 0 [some (.ref 81), none, none] [] m (f_MO_flows  m)
  unfold f_MO_flows
  refine gEx.iconst rfl rfl ?_
  refine gEx.istore (ls' := [some (.ref 81), some (.int 0), none]) rfl rfl rfl ?_
  have hL_2 : ∀ (n : Nat) (v8 : Int32) (m9 : gM), gEx d gcx_176 sh grv 2 [some (.ref 81), some (.int v8), none] [] m9 (L_MO_flows_2 (fun v8 m9 => J_MO_flows_83 v8 m9) n v8 m9) := by
    refine gfix_ind (P := fun (f : Int32 → gM → Option (gM)) => ∀ (v8 : Int32) (m9 : gM), gEx d gcx_176 sh grv 2 [some (.ref 81), some (.int v8), none] [] m9 (f v8 m9)) (fun _ _ => gEx.none) (fun rec_2 hrec_2 => ?_)
    have hJ_77 : ∀ (v9 : Int32) (v10 : Int32) (m10 : gM), gEx d gcx_176 sh grv 77 [some (.ref 81), some (.int v9), some (.int v10)] [] m10 (J_MO_flows_77 rec_2 v9 v10 m10) := by
      intro v9 v10 m10
      unfold J_MO_flows_77
      refine gEx.iinc (ls' := [some (.ref 81), some (.int (v9 + 1)), some (.int v10)]) rfl rfl rfl rfl ?_
      refine gEx.goto (tn := 2) rfl rfl rfl ?_
      exact gEx.lab rfl rfl (hrec_2 (v9 + 1) m10)
    intro v8 m9
    refine gEx.iload rfl rfl rfl ?_
    refine gEx.aload rfl rfl rfl ?_
    refine gEx.callVi rfl rfl rfl rfl (h0 0 _ rfl) rfl (fun _ h => (t_MO_cells (by omega) h0) _ h) (fun r4 => ?_)
    refine gEx.icmp_ge (tn := 83) rfl rfl rfl ?_ ?_
    · refine gEx.aload rfl rfl rfl ?_
      refine gEx.getR rfl rfl (h0 0 _ rfl) rfl ?_
      refine gEx.iload rfl rfl rfl ?_
      refine gEx.aload rfl rfl rfl ?_
      refine gEx.iload rfl rfl rfl ?_
      refine gEx.callVi rfl rfl rfl rfl (h0 0 _ rfl) rfl (fun _ h => (t_MO_pushOf (by omega) h0) _ h) (fun r5 => ?_)
      refine gEx.iast rfl rfl (h0 25 _ rfl) (fun m11 => ?_)
      refine gEx.aload rfl rfl rfl ?_
      refine gEx.getR rfl rfl (h0 0 _ rfl) rfl ?_
      refine gEx.iload rfl rfl rfl ?_
      refine gEx.aload rfl rfl rfl ?_
      refine gEx.iload rfl rfl rfl ?_
      refine gEx.callVi rfl rfl rfl rfl (h0 0 _ rfl) rfl (fun _ h => (t_MO_oilOf (by omega) h0) _ h) (fun r6 => ?_)
      refine gEx.iast rfl rfl (h0 26 _ rfl) (fun m12 => ?_)
      refine gEx.aload rfl rfl rfl ?_
      refine gEx.getR rfl rfl (h0 0 _ rfl) rfl ?_
      refine gEx.iload rfl rfl rfl ?_
      refine gEx.aload rfl rfl rfl ?_
      refine gEx.getR rfl rfl (h0 0 _ rfl) rfl ?_
      refine gEx.iload rfl rfl rfl ?_
      refine gEx.iald rfl rfl (h0 3 _ rfl) ?_
      refine gEx.iast rfl rfl (h0 27 _ rfl) (fun m13 => ?_)
      refine gEx.aload rfl rfl rfl ?_
      refine gEx.getR rfl rfl (h0 0 _ rfl) rfl ?_
      refine gEx.iload rfl rfl rfl ?_
      refine gEx.iconst rfl rfl ?_
      refine gEx.iast rfl rfl (h0 29 _ rfl) (fun m14 => ?_)
      refine gEx.iconst rfl rfl ?_
      refine gEx.istore (ls' := [some (.ref 81), some (.int v8), some (.int 0)]) rfl rfl rfl ?_
      have hL_53 : ∀ (n : Nat) (v11 : Int32) (m15 : gM), gEx d gcx_176 sh grv 53 [some (.ref 81), some (.int v8), some (.int v11)] [] m15 (L_MO_flows_53 v8 (fun v11 m15 => J_MO_flows_77 rec_2 v8 v11 m15) n v11 m15) := by
        refine gfix_ind (P := fun (f : Int32 → gM → Option (gM)) => ∀ (v11 : Int32) (m15 : gM), gEx d gcx_176 sh grv 53 [some (.ref 81), some (.int v8), some (.int v11)] [] m15 (f v11 m15)) (fun _ _ => gEx.none) (fun rec_53 hrec_53 => ?_)
        intro v11 m15
        refine gEx.iload rfl rfl rfl ?_
        refine gEx.iconst rfl rfl ?_
        refine gEx.icmp_ge (tn := 77) rfl rfl rfl ?_ ?_
        · refine gEx.aload rfl rfl rfl ?_
          refine gEx.getR rfl rfl (h0 0 _ rfl) rfl ?_
          refine gEx.iconst rfl rfl ?_
          refine gEx.iload rfl rfl rfl ?_
          refine gEx.imul rfl rfl ?_
          refine gEx.iload rfl rfl rfl ?_
          refine gEx.iadd rfl rfl ?_
          refine gEx.iconst rfl rfl ?_
          refine gEx.iast rfl rfl (h0 28 _ rfl) (fun m16 => ?_)
          refine gEx.iinc (ls' := [some (.ref 81), some (.int v8), some (.int (v11 + 1))]) rfl rfl rfl rfl ?_
          refine gEx.goto (tn := 53) rfl rfl rfl ?_
          exact gEx.lab rfl rfl (hrec_53 (v11 + 1) m16)
        · exact gEx.lab rfl rfl (hJ_77 v8 v11 m15)
      exact gEx.lab rfl rfl (hL_53 1000 0 m14)
    · exact gEx.lab rfl rfl (hJ_83 v8 r4.2)
  exact gEx.lab rfl rfl (hL_2 1000 0 m)
abbrev gcx_177 : gC := glook (gco_177_0)
set_option maxRecDepth 100000 in
set_option maxHeartbeats 4000000 in
theorem t_MO_step {d : Nat} (hd : 6 ≤ d) {sh : gH}  (h0 : gHas sh.1 81 gsh_MO) {m : gM} : ∀ x, f_MO_step  m = some x → gR gmi gdf gcd d 177 [.ref 81] (sh, m) ((gri x).1, (sh, (gri x).2)) := by
  obtain ⟨d, rfl⟩ : ∃ e, d = e + 1 := ⟨d - 1, by omega⟩
  refine gR_of (mx := 2) (code := gcx_177) rfl rfl (Nat.le_of_ble_eq_true rfl) ?_
  show gEx d gcx_177 sh gri 0 [some (.ref 81), none] [] m (f_MO_step  m)
  unfold f_MO_step
  refine gEx.aload rfl rfl rfl ?_
  refine gEx.callVi rfl rfl rfl rfl (h0 0 _ rfl) rfl (fun _ h => (t_MO_draws (by omega) h0) _ h) (fun r1 => ?_)
  refine gEx.istore (ls' := [some (.ref 81), some (.int r1.1)]) rfl rfl rfl ?_
  refine gEx.aload rfl rfl rfl ?_
  refine gEx.callVv rfl rfl rfl rfl (h0 0 _ rfl) rfl (fun _ h => (t_MO_flows (by omega) h0) _ h) (fun r2 => ?_)
  refine gEx.aload rfl rfl rfl ?_
  refine gEx.dupR rfl rfl ?_
  refine gEx.getI rfl rfl (h0 0 _ rfl) rfl ?_
  refine gEx.iconst rfl rfl ?_
  refine gEx.iadd rfl rfl ?_
  refine gEx.putI rfl rfl (h0 0 _ rfl) rfl rfl rfl (fun m1 => ?_)
  refine gEx.iload rfl rfl rfl ?_
  exact gEx.reti rfl rfl
abbrev gcx_178 : gC := glook (gco_178_0)
set_option maxRecDepth 100000 in
set_option maxHeartbeats 4000000 in
theorem t_MO_hour {d : Nat} (hd : 7 ≤ d) {sh : gH}  (h0 : gHas sh.1 81 gsh_MO) {m : gM} : ∀ x, f_MO_hour  m = some x → gR gmi gdf gcd d 178 [.ref 81] (sh, m) ((gri x).1, (sh, (gri x).2)) := by
  obtain ⟨d, rfl⟩ : ∃ e, d = e + 1 := ⟨d - 1, by omega⟩
  refine gR_of (mx := 1) (code := gcx_178) rfl rfl (Nat.le_of_ble_eq_true rfl) ?_
  show gEx d gcx_178 sh gri 0 [some (.ref 81)] [] m (f_MO_hour  m)
  unfold f_MO_hour
  refine gEx.aload rfl rfl rfl ?_
  refine gEx.getI rfl rfl (h0 0 _ rfl) rfl ?_
  refine gEx.iconst rfl rfl ?_
  refine gEx.icmp_ne (tn := 15) rfl rfl rfl ?_ ?_
  · refine gEx.iconst rfl rfl ?_
    refine gEx.goto (tn := 19) rfl rfl rfl ?_
    refine gEx.lab (ls' := [some (.ref 81)]) rfl rfl ?_
    exact gEx.reti rfl rfl
  · refine gEx.aload rfl rfl rfl ?_
    refine gEx.callVi rfl rfl rfl rfl (h0 0 _ rfl) rfl (fun _ h => (t_MO_step (by omega) h0) _ h) (fun r1 => ?_)
    refine gEx.lab (ls' := [some (.ref 81)]) rfl rfl ?_
    exact gEx.reti rfl rfl
abbrev gcx_179 : gC := glook (gco_179_0)
set_option maxRecDepth 100000 in
set_option maxHeartbeats 4000000 in
theorem t_MO_person {d : Nat} (hd : 1 ≤ d) {sh : gH}  (h0 : gHas sh.1 81 gsh_MO) {m : gM} : ∀ x, f_MO_person  m = some x → gR gmi gdf gcd d 179 [.ref 81] (sh, m) ((gri x).1, (sh, (gri x).2)) := by
  obtain ⟨d, rfl⟩ : ∃ e, d = e + 1 := ⟨d - 1, by omega⟩
  refine gR_of (mx := 1) (code := gcx_179) rfl rfl (Nat.le_of_ble_eq_true rfl) ?_
  show gEx d gcx_179 sh gri 0 [some (.ref 81)] [] m (f_MO_person  m)
  unfold f_MO_person
  refine gEx.aload rfl rfl rfl ?_
  refine gEx.getI rfl rfl (h0 0 _ rfl) rfl ?_
  refine gEx.iconst rfl rfl ?_
  refine gEx.icmp_ne (tn := 12) rfl rfl rfl ?_ ?_
  · refine gEx.iconst rfl rfl ?_
    exact gEx.reti rfl rfl
  · refine gEx.aload rfl rfl rfl ?_
    refine gEx.dupR rfl rfl ?_
    refine gEx.getI rfl rfl (h0 0 _ rfl) rfl ?_
    refine gEx.iconst rfl rfl ?_
    refine gEx.iadd rfl rfl ?_
    refine gEx.putI rfl rfl (h0 0 _ rfl) rfl rfl rfl (fun m1 => ?_)
    refine gEx.aload rfl rfl rfl ?_
    refine gEx.getI rfl rfl (h0 0 _ rfl) rfl ?_
    refine gEx.iconst rfl rfl ?_
    refine gEx.isub rfl rfl ?_
    exact gEx.reti rfl rfl
abbrev gcx_180 : gC := glook (gco_180_0)
set_option maxRecDepth 100000 in
set_option maxHeartbeats 4000000 in
theorem t_MO_owner {d : Nat} (hd : 3 ≤ d) {sh : gH} {x1 : Int32} {x2 : Int32} (h0 : gHas sh.1 81 gsh_MO) {m : gM} : ∀ x, f_MO_owner x1 x2 m = some x → gR gmi gdf gcd d 180 [.ref 81, .int x1, .int x2] (sh, m) ((gri x).1, (sh, (gri x).2)) := by
  obtain ⟨d, rfl⟩ : ∃ e, d = e + 1 := ⟨d - 1, by omega⟩
  refine gR_of (mx := 4) (code := gcx_180) rfl rfl (Nat.le_of_ble_eq_true rfl) ?_
  have hJ_24 : ∀ (m1 : gM), gEx d gcx_180 sh gri 24 [some (.ref 81), some (.int x1), some (.int x2), none] [] m1 (J_MO_owner_24 x1 x2 m1) := by
    intro m1
    unfold J_MO_owner_24
    refine gEx.aload rfl rfl rfl ?_
    refine gEx.getR rfl rfl (h0 0 _ rfl) rfl ?_
    refine gEx.iload rfl rfl rfl ?_
    refine gEx.iald rfl rfl (h0 6 _ rfl) ?_
    refine gEx.istoreL (ls' := fun v1 => [some (.ref 81), some (.int x1), some (.int x2), some (.int v1)]) rfl rfl (fun _ => rfl) (fun v1 => ?_)
    refine gEx.aload rfl rfl rfl ?_
    refine gEx.getR rfl rfl (h0 0 _ rfl) rfl ?_
    refine gEx.iload rfl rfl rfl ?_
    refine gEx.iload rfl rfl rfl ?_
    refine gEx.iast rfl rfl (h0 6 _ rfl) (fun m2 => ?_)
    refine gEx.iload rfl rfl rfl ?_
    exact gEx.reti rfl rfl
  show gEx d gcx_180 sh gri 0 [some (.ref 81), some (.int x1), some (.int x2), none] [] m (f_MO_owner x1 x2 m)
  unfold f_MO_owner
  refine gEx.iload rfl rfl rfl ?_
  refine gEx.callSi rfl rfl rfl rfl rfl (fun _ h => (t_MO_isLot (by omega) ) _ h) (fun r1 => ?_)
  refine gEx.if_eq (tn := 21) rfl rfl rfl ?_ ?_
  · refine gEx.lab (ls' := [some (.ref 81), none, none, none]) rfl rfl ?_
    refine gEx.iconst rfl rfl ?_
    exact gEx.reti rfl rfl
  · refine gEx.aload rfl rfl rfl ?_
    refine gEx.iload rfl rfl rfl ?_
    refine gEx.callVi rfl rfl rfl rfl (h0 0 _ rfl) rfl (fun _ h => (t_MO_isPerson (by omega) h0) _ h) (fun r2 => ?_)
    refine gEx.if_ne (tn := 24) rfl rfl rfl ?_ ?_
    · refine gEx.iload rfl rfl rfl ?_
      refine gEx.iconst rfl rfl ?_
      refine gEx.icmp_eq (tn := 24) rfl rfl rfl ?_ ?_
      · exact gEx.lab rfl rfl (hJ_24 r2.2)
      · refine gEx.lab (ls' := [some (.ref 81), none, none, none]) rfl rfl ?_
        refine gEx.iconst rfl rfl ?_
        exact gEx.reti rfl rfl
    · exact gEx.lab rfl rfl (hJ_24 r2.2)
abbrev gcx_181 : gC := glook (gco_181_0 ++ (gco_181_1))
set_option maxRecDepth 100000 in
set_option maxHeartbeats 4000000 in
theorem t_MO_lease {d : Nat} (hd : 3 ≤ d) {sh : gH} {x1 : Int32} {x2 : Int32} {x3 : Int32} {x4 : Int32} (h0 : gHas sh.1 81 gsh_MO) {m : gM} : ∀ x, f_MO_lease x1 x2 x3 x4 m = some x → gR gmi gdf gcd d 181 [.ref 81, .int x1, .int x2, .int x3, .int x4] (sh, m) ((gri x).1, (sh, (gri x).2)) := by
  obtain ⟨d, rfl⟩ : ∃ e, d = e + 1 := ⟨d - 1, by omega⟩
  refine gR_of (mx := 5) (code := gcx_181) rfl rfl (Nat.le_of_ble_eq_true rfl) ?_
  show gEx d gcx_181 sh gri 0 [some (.ref 81), some (.int x1), some (.int x2), some (.int x3), some (.int x4)] [] m (f_MO_lease x1 x2 x3 x4 m)
  unfold f_MO_lease
  refine gEx.iload rfl rfl rfl ?_
  refine gEx.callSi rfl rfl rfl rfl rfl (fun _ h => (t_MO_isLot (by omega) ) _ h) (fun r1 => ?_)
  refine gEx.if_eq (tn := 40) rfl rfl rfl ?_ ?_
  · refine gEx.lab (ls' := [some (.ref 81), none, none, none, none]) rfl rfl ?_
    refine gEx.iconst rfl rfl ?_
    exact gEx.reti rfl rfl
  · refine gEx.aload rfl rfl rfl ?_
    refine gEx.iload rfl rfl rfl ?_
    refine gEx.callVi rfl rfl rfl rfl (h0 0 _ rfl) rfl (fun _ h => (t_MO_isPerson (by omega) h0) _ h) (fun r2 => ?_)
    refine gEx.if_eq (tn := 40) rfl rfl rfl ?_ ?_
    · refine gEx.lab (ls' := [some (.ref 81), none, none, none, none]) rfl rfl ?_
      refine gEx.iconst rfl rfl ?_
      exact gEx.reti rfl rfl
    · refine gEx.iload rfl rfl rfl ?_
      refine gEx.i2l rfl rfl ?_
      refine gEx.lconst rfl rfl ?_
      refine gEx.lconst rfl rfl ?_
      refine gEx.callSi rfl rfl rfl rfl rfl (fun _ h => (t_MO_in (by omega) ) _ h) (fun r3 => ?_)
      refine gEx.if_eq (tn := 40) rfl rfl rfl ?_ ?_
      · refine gEx.lab (ls' := [some (.ref 81), none, none, none, none]) rfl rfl ?_
        refine gEx.iconst rfl rfl ?_
        exact gEx.reti rfl rfl
      · refine gEx.iload rfl rfl rfl ?_
        refine gEx.i2l rfl rfl ?_
        refine gEx.lconst rfl rfl ?_
        refine gEx.lconst rfl rfl ?_
        refine gEx.callSi rfl rfl rfl rfl rfl (fun _ h => (t_MO_in (by omega) ) _ h) (fun r4 => ?_)
        refine gEx.if_ne (tn := 42) rfl rfl rfl ?_ ?_
        · refine gEx.lab (ls' := [some (.ref 81), none, none, none, none]) rfl rfl ?_
          refine gEx.iconst rfl rfl ?_
          exact gEx.reti rfl rfl
        · refine gEx.aload rfl rfl rfl ?_
          refine gEx.getI rfl rfl (h0 0 _ rfl) rfl ?_
          refine gEx.iconst rfl rfl ?_
          refine gEx.icmp_ne (tn := 54) rfl rfl rfl ?_ ?_
          · refine gEx.iconst rfl rfl ?_
            exact gEx.reti rfl rfl
          · refine gEx.aload rfl rfl rfl ?_
            refine gEx.getR rfl rfl (h0 0 _ rfl) rfl ?_
            refine gEx.aload rfl rfl rfl ?_
            refine gEx.getI rfl rfl (h0 0 _ rfl) rfl ?_
            refine gEx.iload rfl rfl rfl ?_
            refine gEx.iast rfl rfl (h0 7 _ rfl) (fun m1 => ?_)
            refine gEx.aload rfl rfl rfl ?_
            refine gEx.getR rfl rfl (h0 0 _ rfl) rfl ?_
            refine gEx.aload rfl rfl rfl ?_
            refine gEx.getI rfl rfl (h0 0 _ rfl) rfl ?_
            refine gEx.iload rfl rfl rfl ?_
            refine gEx.iast rfl rfl (h0 8 _ rfl) (fun m2 => ?_)
            refine gEx.aload rfl rfl rfl ?_
            refine gEx.getR rfl rfl (h0 0 _ rfl) rfl ?_
            refine gEx.aload rfl rfl rfl ?_
            refine gEx.getI rfl rfl (h0 0 _ rfl) rfl ?_
            refine gEx.iload rfl rfl rfl ?_
            refine gEx.iast rfl rfl (h0 9 _ rfl) (fun m3 => ?_)
            refine gEx.aload rfl rfl rfl ?_
            refine gEx.getR rfl rfl (h0 0 _ rfl) rfl ?_
            refine gEx.aload rfl rfl rfl ?_
            refine gEx.getI rfl rfl (h0 0 _ rfl) rfl ?_
            refine gEx.iload rfl rfl rfl ?_
            refine gEx.iast rfl rfl (h0 10 _ rfl) (fun m4 => ?_)
            refine gEx.aload rfl rfl rfl ?_
            refine gEx.dupR rfl rfl ?_
            refine gEx.getI rfl rfl (h0 0 _ rfl) rfl ?_
            refine gEx.iconst rfl rfl ?_
            refine gEx.iadd rfl rfl ?_
            refine gEx.putI rfl rfl (h0 0 _ rfl) rfl rfl rfl (fun m5 => ?_)
            refine gEx.aload rfl rfl rfl ?_
            refine gEx.getI rfl rfl (h0 0 _ rfl) rfl ?_
            refine gEx.iconst rfl rfl ?_
            refine gEx.isub rfl rfl ?_
            exact gEx.reti rfl rfl
abbrev gcx_182 : gC := glook (gco_182_0)
set_option maxRecDepth 100000 in
set_option maxHeartbeats 4000000 in
theorem t_MO_hasEnded {d : Nat} (hd : 1 ≤ d) {sh : gH} {x1 : Int32} (h0 : gHas sh.1 81 gsh_MO) {m : gM} : ∀ x, f_MO_hasEnded x1 m = some x → gR gmi gdf gcd d 182 [.ref 81, .int x1] (sh, m) ((gri x).1, (sh, (gri x).2)) := by
  obtain ⟨d, rfl⟩ : ∃ e, d = e + 1 := ⟨d - 1, by omega⟩
  refine gR_of (mx := 4) (code := gcx_182) rfl rfl (Nat.le_of_ble_eq_true rfl) ?_
  have hJ_18 : ∀ (v1 : Int32), gEx d gcx_182 sh gri 18 [some (.ref 81), some (.int x1), none, none] [.int v1] m (J_MO_hasEnded_18 x1 m v1) := by
    intro v1
    unfold J_MO_hasEnded_18
    refine gEx.istore (ls' := [some (.ref 81), some (.int x1), some (.int v1), none]) rfl rfl rfl ?_
    refine gEx.iconst rfl rfl ?_
    refine gEx.istore (ls' := [some (.ref 81), some (.int x1), some (.int v1), some (.int 0)]) rfl rfl rfl ?_
    have hL_21 : ∀ (n : Nat) (v2 : Int32) (v3 : Int32), gEx d gcx_182 sh gri 21 [some (.ref 81), some (.int x1), some (.int v2), some (.int v3)] [] m (L_MO_hasEnded_21 x1 m n v2 v3) := by
      refine gfix_ind (P := fun (f : Int32 → Int32 → Option (Int32 × gM)) => ∀ (v2 : Int32) (v3 : Int32), gEx d gcx_182 sh gri 21 [some (.ref 81), some (.int x1), some (.int v2), some (.int v3)] [] m (f v2 v3)) (fun _ _ => gEx.none) (fun rec_21 hrec_21 => ?_)
      have hJ_73 : ∀ (v4 : Int32) (v5 : Int32) (v6 : Int32), gEx d gcx_182 sh gri 73 [some (.ref 81), some (.int x1), some (.int v4), some (.int v5)] [.int v6] m (J_MO_hasEnded_73 rec_21 v4 v5 v6) := by
        intro v4 v5 v6
        unfold J_MO_hasEnded_73
        refine gEx.istore (ls' := [some (.ref 81), some (.int x1), some (.int v6), some (.int v5)]) rfl rfl rfl ?_
        refine gEx.iinc (ls' := [some (.ref 81), some (.int x1), some (.int v6), some (.int (v5 + 1))]) rfl rfl rfl rfl ?_
        refine gEx.goto (tn := 21) rfl rfl rfl ?_
        exact gEx.lab rfl rfl (hrec_21 v6 (v5 + 1))
      have hJ_72 : ∀ (v7 : Int32) (v8 : Int32), gEx d gcx_182 sh gri 72 [some (.ref 81), some (.int x1), some (.int v7), some (.int v8)] [] m (J_MO_hasEnded_72 rec_21 v7 v8) := by
        intro v7 v8
        unfold J_MO_hasEnded_72
        refine gEx.iconst rfl rfl ?_
        exact gEx.lab rfl rfl (hJ_73 v7 v8 0)
      have hJ_68 : ∀ (v9 : Int32) (v10 : Int32), gEx d gcx_182 sh gri 68 [some (.ref 81), some (.int x1), some (.int v9), some (.int v10)] [] m (J_MO_hasEnded_68 rec_21 v9 v10) := by
        intro v9 v10
        unfold J_MO_hasEnded_68
        refine gEx.iconst rfl rfl ?_
        refine gEx.goto (tn := 73) rfl rfl rfl ?_
        exact gEx.lab rfl rfl (hJ_73 v9 v10 1)
      intro v2 v3
      refine gEx.iload rfl rfl rfl ?_
      refine gEx.aload rfl rfl rfl ?_
      refine gEx.getI rfl rfl (h0 0 _ rfl) rfl ?_
      refine gEx.icmp_ge (tn := 80) rfl rfl rfl ?_ ?_
      · refine gEx.iload rfl rfl rfl ?_
        refine gEx.if_eq (tn := 72) rfl rfl rfl ?_ ?_
        · exact gEx.lab rfl rfl (hJ_72 v2 v3)
        · refine gEx.aload rfl rfl rfl ?_
          refine gEx.getR rfl rfl (h0 0 _ rfl) rfl ?_
          refine gEx.iload rfl rfl rfl ?_
          refine gEx.iald rfl rfl (h0 11 _ rfl) ?_
          refine gEx.aload rfl rfl rfl ?_
          refine gEx.getR rfl rfl (h0 0 _ rfl) rfl ?_
          refine gEx.iload rfl rfl rfl ?_
          refine gEx.iald rfl rfl (h0 8 _ rfl) ?_
          refine gEx.icmp_ne (tn := 68) rfl rfl rfl ?_ ?_
          · refine gEx.aload rfl rfl rfl ?_
            refine gEx.getR rfl rfl (h0 0 _ rfl) rfl ?_
            refine gEx.aload rfl rfl rfl ?_
            refine gEx.getR rfl rfl (h0 0 _ rfl) rfl ?_
            refine gEx.iload rfl rfl rfl ?_
            refine gEx.iald rfl rfl (h0 12 _ rfl) ?_
            refine gEx.iald rfl rfl (h0 4 _ rfl) ?_
            refine gEx.aload rfl rfl rfl ?_
            refine gEx.getR rfl rfl (h0 0 _ rfl) rfl ?_
            refine gEx.iload rfl rfl rfl ?_
            refine gEx.iald rfl rfl (h0 7 _ rfl) ?_
            refine gEx.icmp_eq (tn := 72) rfl rfl rfl ?_ ?_
            · exact gEx.lab rfl rfl (hJ_72 v2 v3)
            · exact gEx.lab rfl rfl (hJ_68 v2 v3)
          · exact gEx.lab rfl rfl (hJ_68 v2 v3)
      · refine gEx.iload rfl rfl rfl ?_
        exact gEx.retz rfl rfl
    exact gEx.lab rfl rfl (hL_21 1000 v1 0)
  show gEx d gcx_182 sh gri 0 [some (.ref 81), some (.int x1), none, none] [] m (f_MO_hasEnded x1 m)
  unfold f_MO_hasEnded
  refine gEx.aload rfl rfl rfl ?_
  refine gEx.getI rfl rfl (h0 0 _ rfl) rfl ?_
  refine gEx.aload rfl rfl rfl ?_
  refine gEx.getR rfl rfl (h0 0 _ rfl) rfl ?_
  refine gEx.iload rfl rfl rfl ?_
  refine gEx.iald rfl rfl (h0 9 _ rfl) ?_
  refine gEx.icmp_lt (tn := 17) rfl rfl rfl ?_ ?_
  · refine gEx.iconst rfl rfl ?_
    exact gEx.lab rfl rfl (hJ_18 0)
  · refine gEx.iconst rfl rfl ?_
    refine gEx.goto (tn := 18) rfl rfl rfl ?_
    exact gEx.lab rfl rfl (hJ_18 1)
abbrev gcx_183 : gC := glook (gco_183_0)
set_option maxRecDepth 100000 in
set_option maxHeartbeats 4000000 in
theorem t_MO_leaseOf {d : Nat} (hd : 2 ≤ d) {sh : gH} {x1 : Int32} {x2 : Int32} (h0 : gHas sh.1 81 gsh_MO) {m : gM} : ∀ x, f_MO_leaseOf x1 x2 m = some x → gR gmi gdf gcd d 183 [.ref 81, .int x1, .int x2] (sh, m) ((gri x).1, (sh, (gri x).2)) := by
  obtain ⟨d, rfl⟩ : ∃ e, d = e + 1 := ⟨d - 1, by omega⟩
  refine gR_of (mx := 3) (code := gcx_183) rfl rfl (Nat.le_of_ble_eq_true rfl) ?_
  show gEx d gcx_183 sh gri 0 [some (.ref 81), some (.int x1), some (.int x2)] [] m (f_MO_leaseOf x1 x2 m)
  unfold f_MO_leaseOf
  refine gEx.iload rfl rfl rfl ?_
  refine gEx.i2l rfl rfl ?_
  refine gEx.lconst rfl rfl ?_
  refine gEx.aload rfl rfl rfl ?_
  refine gEx.getI rfl rfl (h0 0 _ rfl) rfl ?_
  refine gEx.iconst rfl rfl ?_
  refine gEx.isub rfl rfl ?_
  refine gEx.i2l rfl rfl ?_
  refine gEx.callSi rfl rfl rfl rfl rfl (fun _ h => (t_MO_in (by omega) ) _ h) (fun r1 => ?_)
  refine gEx.if_ne (tn := 18) rfl rfl rfl ?_ ?_
  · refine gEx.iconst rfl rfl ?_
    exact gEx.reti rfl rfl
  · refine gEx.iload rfl rfl rfl ?_
    refine gEx.sw (dft := 94) (ps := #[(0, 52), (1, 59), (2, 66), (3, 73), (4, 80)]) rfl rfl [(0, gok (gib x1 12) (some (grd r1.2 88 x1, r1.2))), (1, gok (gib x1 12) (some (grd r1.2 89 x1, r1.2))), (2, gok (gib x1 12) (some (grd r1.2 90 x1, r1.2))), (3, gok (gib x1 12) (some (grd r1.2 91 x1, r1.2))), (4, (f_MO_hasEnded x1 r1.2).bind fun (r2 : Int32 × gM) => if r2.1 = 0 then (some (0, r2.2)) else (some (1, r2.2)))] (some ((-1), r1.2)) ⟨rfl, ?_, ⟨rfl, ?_, ⟨rfl, ?_, ⟨rfl, ?_, ⟨rfl, ?_, trivial⟩⟩⟩⟩⟩ ?_
    · show gEx d gcx_183 sh gri 52 _ _ _ _
      refine gEx.aload rfl rfl rfl ?_
      refine gEx.getR rfl rfl (h0 0 _ rfl) rfl ?_
      refine gEx.iload rfl rfl rfl ?_
      refine gEx.iald rfl rfl (h0 7 _ rfl) ?_
      exact gEx.reti rfl rfl
    · show gEx d gcx_183 sh gri 59 _ _ _ _
      refine gEx.aload rfl rfl rfl ?_
      refine gEx.getR rfl rfl (h0 0 _ rfl) rfl ?_
      refine gEx.iload rfl rfl rfl ?_
      refine gEx.iald rfl rfl (h0 8 _ rfl) ?_
      exact gEx.reti rfl rfl
    · show gEx d gcx_183 sh gri 66 _ _ _ _
      refine gEx.aload rfl rfl rfl ?_
      refine gEx.getR rfl rfl (h0 0 _ rfl) rfl ?_
      refine gEx.iload rfl rfl rfl ?_
      refine gEx.iald rfl rfl (h0 9 _ rfl) ?_
      exact gEx.reti rfl rfl
    · show gEx d gcx_183 sh gri 73 _ _ _ _
      refine gEx.aload rfl rfl rfl ?_
      refine gEx.getR rfl rfl (h0 0 _ rfl) rfl ?_
      refine gEx.iload rfl rfl rfl ?_
      refine gEx.iald rfl rfl (h0 10 _ rfl) ?_
      exact gEx.reti rfl rfl
    · show gEx d gcx_183 sh gri 80 _ _ _ _
      refine gEx.aload rfl rfl rfl ?_
      refine gEx.iload rfl rfl rfl ?_
      refine gEx.callVi rfl rfl rfl rfl (h0 0 _ rfl) rfl (fun _ h => (t_MO_hasEnded (by omega) h0) _ h) (fun r2 => ?_)
      refine gEx.if_eq (tn := 92) rfl rfl rfl ?_ ?_
      · refine gEx.iconst rfl rfl ?_
        refine gEx.lab (ls' := [some (.ref 81), none, none]) rfl rfl ?_
        exact gEx.reti rfl rfl
      · refine gEx.iconst rfl rfl ?_
        refine gEx.goto (tn := 93) rfl rfl rfl ?_
        refine gEx.lab (ls' := [some (.ref 81), none, none]) rfl rfl ?_
        exact gEx.reti rfl rfl
    · show gEx d gcx_183 sh gri 94 _ _ _ _
      refine gEx.iconst rfl rfl ?_
      exact gEx.reti rfl rfl
abbrev gcx_184 : gC := glook (gco_184_0)
set_option maxRecDepth 100000 in
set_option maxHeartbeats 4000000 in
theorem t_MO_holderOf {d : Nat} (hd : 2 ≤ d) {sh : gH} {x1 : Int32} (h0 : gHas sh.1 81 gsh_MO) {m : gM} : ∀ x, f_MO_holderOf x1 m = some x → gR gmi gdf gcd d 184 [.ref 81, .int x1] (sh, m) ((gri x).1, (sh, (gri x).2)) := by
  obtain ⟨d, rfl⟩ : ∃ e, d = e + 1 := ⟨d - 1, by omega⟩
  refine gR_of (mx := 4) (code := gcx_184) rfl rfl (Nat.le_of_ble_eq_true rfl) ?_
  have hJ_60 : ∀ (v1 : Int32) (v2 : Int32) (m1 : gM), gEx d gcx_184 sh gri 60 [some (.ref 81), some (.int x1), some (.int v1), some (.int v2)] [] m1 (J_MO_holderOf_60 x1 v1 v2 m1) := by
    intro v1 v2 m1
    unfold J_MO_holderOf_60
    refine gEx.iload rfl rfl rfl ?_
    refine gEx.iconst rfl rfl ?_
    refine gEx.icmp_ne (tn := 75) rfl rfl rfl ?_ ?_
    · refine gEx.aload rfl rfl rfl ?_
      refine gEx.getR rfl rfl (h0 0 _ rfl) rfl ?_
      refine gEx.iload rfl rfl rfl ?_
      refine gEx.iald rfl rfl (h0 6 _ rfl) ?_
      refine gEx.goto (tn := 81) rfl rfl rfl ?_
      refine gEx.lab (ls' := [some (.ref 81), none, none, none]) rfl rfl ?_
      exact gEx.reti rfl rfl
    · refine gEx.aload rfl rfl rfl ?_
      refine gEx.getR rfl rfl (h0 0 _ rfl) rfl ?_
      refine gEx.iload rfl rfl rfl ?_
      refine gEx.iald rfl rfl (h0 8 _ rfl) ?_
      refine gEx.lab (ls' := [some (.ref 81), none, none, none]) rfl rfl ?_
      exact gEx.reti rfl rfl
  show gEx d gcx_184 sh gri 0 [some (.ref 81), some (.int x1), none, none] [] m (f_MO_holderOf x1 m)
  unfold f_MO_holderOf
  refine gEx.iconst rfl rfl ?_
  refine gEx.istore (ls' := [some (.ref 81), some (.int x1), some (.int (-4)), none]) rfl rfl rfl ?_
  refine gEx.iconst rfl rfl ?_
  refine gEx.istore (ls' := [some (.ref 81), some (.int x1), some (.int (-4)), some (.int 0)]) rfl rfl rfl ?_
  have hL_5 : ∀ (n : Nat) (v3 : Int32) (v4 : Int32) (m2 : gM), gEx d gcx_184 sh gri 5 [some (.ref 81), some (.int x1), some (.int v3), some (.int v4)] [] m2 (L_MO_holderOf_5 x1 (fun v3 v4 m2 => J_MO_holderOf_60 x1 v3 v4 m2) n v3 v4 m2) := by
    refine gfix_ind (P := fun (f : Int32 → Int32 → gM → Option (Int32 × gM)) => ∀ (v3 : Int32) (v4 : Int32) (m2 : gM), gEx d gcx_184 sh gri 5 [some (.ref 81), some (.int x1), some (.int v3), some (.int v4)] [] m2 (f v3 v4 m2)) (fun _ _ _ => gEx.none) (fun rec_5 hrec_5 => ?_)
    have hJ_54 : ∀ (v5 : Int32) (v6 : Int32) (m3 : gM), gEx d gcx_184 sh gri 54 [some (.ref 81), some (.int x1), some (.int v5), some (.int v6)] [] m3 (J_MO_holderOf_54 rec_5 v5 v6 m3) := by
      intro v5 v6 m3
      unfold J_MO_holderOf_54
      refine gEx.iinc (ls' := [some (.ref 81), some (.int x1), some (.int v5), some (.int (v6 + 1))]) rfl rfl rfl rfl ?_
      refine gEx.goto (tn := 5) rfl rfl rfl ?_
      exact gEx.lab rfl rfl (hrec_5 v5 (v6 + 1) m3)
    have hJ_52 : ∀ (v7 : Int32) (v8 : Int32) (m4 : gM), gEx d gcx_184 sh gri 52 [some (.ref 81), some (.int x1), some (.int v7), some (.int v8)] [] m4 (J_MO_holderOf_52 rec_5 v7 v8 m4) := by
      intro v7 v8 m4
      unfold J_MO_holderOf_52
      refine gEx.iload rfl rfl rfl ?_
      refine gEx.istore (ls' := [some (.ref 81), some (.int x1), some (.int v8), some (.int v8)]) rfl rfl rfl ?_
      exact gEx.lab rfl rfl (hJ_54 v8 v8 m4)
    intro v3 v4 m2
    refine gEx.iload rfl rfl rfl ?_
    refine gEx.aload rfl rfl rfl ?_
    refine gEx.getI rfl rfl (h0 0 _ rfl) rfl ?_
    refine gEx.icmp_ge (tn := 60) rfl rfl rfl ?_ ?_
    · refine gEx.aload rfl rfl rfl ?_
      refine gEx.getR rfl rfl (h0 0 _ rfl) rfl ?_
      refine gEx.iload rfl rfl rfl ?_
      refine gEx.iald rfl rfl (h0 7 _ rfl) ?_
      refine gEx.iload rfl rfl rfl ?_
      refine gEx.icmp_ne (tn := 54) rfl rfl rfl ?_ ?_
      · refine gEx.aload rfl rfl rfl ?_
        refine gEx.iload rfl rfl rfl ?_
        refine gEx.callVi rfl rfl rfl rfl (h0 0 _ rfl) rfl (fun _ h => (t_MO_hasEnded (by omega) h0) _ h) (fun r1 => ?_)
        refine gEx.if_ne (tn := 54) rfl rfl rfl ?_ ?_
        · refine gEx.iload rfl rfl rfl ?_
          refine gEx.iconst rfl rfl ?_
          refine gEx.icmp_eq (tn := 52) rfl rfl rfl ?_ ?_
          · exact gEx.lab rfl rfl (hJ_52 v3 v4 r1.2)
          · refine gEx.aload rfl rfl rfl ?_
            refine gEx.getR rfl rfl (h0 0 _ rfl) rfl ?_
            refine gEx.iload rfl rfl rfl ?_
            refine gEx.iald rfl rfl (h0 10 _ rfl) ?_
            refine gEx.aload rfl rfl rfl ?_
            refine gEx.getR rfl rfl (h0 0 _ rfl) rfl ?_
            refine gEx.iload rfl rfl rfl ?_
            refine gEx.iald rfl rfl (h0 10 _ rfl) ?_
            refine gEx.icmp_ge (tn := 54) rfl rfl rfl ?_ ?_
            · exact gEx.lab rfl rfl (hJ_52 v3 v4 r1.2)
            · exact gEx.lab rfl rfl (hJ_54 v3 v4 r1.2)
        · exact gEx.lab rfl rfl (hJ_54 v3 v4 r1.2)
      · exact gEx.lab rfl rfl (hJ_54 v3 v4 m2)
    · exact gEx.lab rfl rfl (hJ_60 v3 v4 m2)
  exact gEx.lab rfl rfl (hL_5 1000 (-4) 0 m)
abbrev gcx_185 : gC := glook (gco_185_0)
set_option maxRecDepth 100000 in
set_option maxHeartbeats 4000000 in
theorem t_MO_holds {d : Nat} (hd : 3 ≤ d) {sh : gH} {x1 : Int32} (h0 : gHas sh.1 81 gsh_MO) {m : gM} : ∀ x, f_MO_holds x1 m = some x → gR gmi gdf gcd d 185 [.ref 81, .int x1] (sh, m) ((gri x).1, (sh, (gri x).2)) := by
  obtain ⟨d, rfl⟩ : ∃ e, d = e + 1 := ⟨d - 1, by omega⟩
  refine gR_of (mx := 2) (code := gcx_185) rfl rfl (Nat.le_of_ble_eq_true rfl) ?_
  show gEx d gcx_185 sh gri 0 [some (.ref 81), some (.int x1)] [] m (f_MO_holds x1 m)
  unfold f_MO_holds
  refine gEx.iload rfl rfl rfl ?_
  refine gEx.callSi rfl rfl rfl rfl rfl (fun _ h => (t_MO_isLot (by omega) ) _ h) (fun r1 => ?_)
  refine gEx.if_eq (tn := 15) rfl rfl rfl ?_ ?_
  · refine gEx.iconst rfl rfl ?_
    refine gEx.lab (ls' := [some (.ref 81), none]) rfl rfl ?_
    exact gEx.reti rfl rfl
  · refine gEx.aload rfl rfl rfl ?_
    refine gEx.iload rfl rfl rfl ?_
    refine gEx.callVi rfl rfl rfl rfl (h0 0 _ rfl) rfl (fun _ h => (t_MO_holderOf (by omega) h0) _ h) (fun r2 => ?_)
    refine gEx.goto (tn := 16) rfl rfl rfl ?_
    refine gEx.lab (ls' := [some (.ref 81), none]) rfl rfl ?_
    exact gEx.reti rfl rfl
abbrev gcx_216 : gC := glook (gco_216_0)
set_option maxRecDepth 100000 in
set_option maxHeartbeats 4000000 in
theorem t_MO_lineAt {d : Nat} (hd : 1 ≤ d) {sh : gH} {x1 : Int32} {x2 : Int32} (h0 : gHas sh.1 81 gsh_MO) {m : gM} : ∀ x, f_MO_lineAt x1 x2 m = some x → gR gmi gdf gcd d 216 [.ref 81, .int x1, .int x2] (sh, m) ((gri x).1, (sh, (gri x).2)) := by
  obtain ⟨d, rfl⟩ : ∃ e, d = e + 1 := ⟨d - 1, by omega⟩
  refine gR_of (mx := 5) (code := gcx_216) rfl rfl (Nat.le_of_ble_eq_true rfl) ?_
  show gEx d gcx_216 sh gri 0 [some (.ref 81), some (.int x1), some (.int x2), none, none] [] m (f_MO_lineAt x1 x2 m)
  unfold f_MO_lineAt
  refine gEx.iconst rfl rfl ?_
  refine gEx.istore (ls' := [some (.ref 81), some (.int x1), some (.int x2), some (.int (-4)), none]) rfl rfl rfl ?_
  refine gEx.iconst rfl rfl ?_
  refine gEx.istore (ls' := [some (.ref 81), some (.int x1), some (.int x2), some (.int (-4)), some (.int 0)]) rfl rfl rfl ?_
  have hL_6 : ∀ (n : Nat) (v1 : Int32) (v2 : Int32), gEx d gcx_216 sh gri 6 [some (.ref 81), some (.int x1), some (.int x2), some (.int v1), some (.int v2)] [] m (L_MO_lineAt_6 x1 x2 m n v1 v2) := by
    refine gfix_ind (P := fun (f : Int32 → Int32 → Option (Int32 × gM)) => ∀ (v1 : Int32) (v2 : Int32), gEx d gcx_216 sh gri 6 [some (.ref 81), some (.int x1), some (.int x2), some (.int v1), some (.int v2)] [] m (f v1 v2)) (fun _ _ => gEx.none) (fun rec_6 hrec_6 => ?_)
    have hJ_72 : ∀ (v3 : Int32) (v4 : Int32), gEx d gcx_216 sh gri 72 [some (.ref 81), some (.int x1), some (.int x2), some (.int v3), some (.int v4)] [] m (J_MO_lineAt_72 rec_6 v3 v4) := by
      intro v3 v4
      unfold J_MO_lineAt_72
      refine gEx.iinc (ls' := [some (.ref 81), some (.int x1), some (.int x2), some (.int v3), some (.int (v4 + 1))]) rfl rfl rfl rfl ?_
      refine gEx.goto (tn := 6) rfl rfl rfl ?_
      exact gEx.lab rfl rfl (hrec_6 v3 (v4 + 1))
    have hJ_69 : ∀ (v5 : Int32) (v6 : Int32), gEx d gcx_216 sh gri 69 [some (.ref 81), some (.int x1), some (.int x2), some (.int v5), some (.int v6)] [] m (J_MO_lineAt_69 rec_6 v5 v6) := by
      intro v5 v6
      unfold J_MO_lineAt_69
      refine gEx.iload rfl rfl rfl ?_
      refine gEx.istore (ls' := [some (.ref 81), some (.int x1), some (.int x2), some (.int v6), some (.int v6)]) rfl rfl rfl ?_
      exact gEx.lab rfl rfl (hJ_72 v6 v6)
    intro v1 v2
    refine gEx.iload rfl rfl rfl ?_
    refine gEx.aload rfl rfl rfl ?_
    refine gEx.getI rfl rfl (h0 0 _ rfl) rfl ?_
    refine gEx.icmp_ge (tn := 78) rfl rfl rfl ?_ ?_
    · refine gEx.aload rfl rfl rfl ?_
      refine gEx.getR rfl rfl (h0 0 _ rfl) rfl ?_
      refine gEx.iload rfl rfl rfl ?_
      refine gEx.iald rfl rfl (h0 35 _ rfl) ?_
      refine gEx.iload rfl rfl rfl ?_
      refine gEx.icmp_ne (tn := 72) rfl rfl rfl ?_ ?_
      · refine gEx.aload rfl rfl rfl ?_
        refine gEx.getR rfl rfl (h0 0 _ rfl) rfl ?_
        refine gEx.iload rfl rfl rfl ?_
        refine gEx.iald rfl rfl (h0 38 _ rfl) ?_
        refine gEx.if_ne (tn := 72) rfl rfl rfl ?_ ?_
        · refine gEx.aload rfl rfl rfl ?_
          refine gEx.getR rfl rfl (h0 0 _ rfl) rfl ?_
          refine gEx.iload rfl rfl rfl ?_
          refine gEx.iald rfl rfl (h0 36 _ rfl) ?_
          refine gEx.iload rfl rfl rfl ?_
          refine gEx.icmp_gt (tn := 72) rfl rfl rfl ?_ ?_
          · exact gEx.lab rfl rfl (hJ_72 v1 v2)
          · refine gEx.iload rfl rfl rfl ?_
            refine gEx.iconst rfl rfl ?_
            refine gEx.icmp_eq (tn := 69) rfl rfl rfl ?_ ?_
            · exact gEx.lab rfl rfl (hJ_69 v1 v2)
            · refine gEx.aload rfl rfl rfl ?_
              refine gEx.getR rfl rfl (h0 0 _ rfl) rfl ?_
              refine gEx.iload rfl rfl rfl ?_
              refine gEx.iald rfl rfl (h0 36 _ rfl) ?_
              refine gEx.aload rfl rfl rfl ?_
              refine gEx.getR rfl rfl (h0 0 _ rfl) rfl ?_
              refine gEx.iload rfl rfl rfl ?_
              refine gEx.iald rfl rfl (h0 36 _ rfl) ?_
              refine gEx.icmp_le (tn := 72) rfl rfl rfl ?_ ?_
              · exact gEx.lab rfl rfl (hJ_69 v1 v2)
              · exact gEx.lab rfl rfl (hJ_72 v1 v2)
        · exact gEx.lab rfl rfl (hJ_72 v1 v2)
      · exact gEx.lab rfl rfl (hJ_72 v1 v2)
    · refine gEx.iload rfl rfl rfl ?_
      exact gEx.reti rfl rfl
  exact gEx.lab rfl rfl (hL_6 1000 (-4) 0)
abbrev gcx_196 : gC := glook (gco_196_0 ++ (gco_196_1))
set_option maxRecDepth 100000 in
set_option maxHeartbeats 4000000 in
theorem t_MO_letOf {d : Nat} (hd : 2 ≤ d) {sh : gH} {x1 : Int32} {x2 : Int32} (h0 : gHas sh.1 81 gsh_MO) {m : gM} : ∀ x, f_MO_letOf x1 x2 m = some x → gR gmi gdf gcd d 196 [.ref 81, .int x1, .int x2] (sh, m) ((gri x).1, (sh, (gri x).2)) := by
  obtain ⟨d, rfl⟩ : ∃ e, d = e + 1 := ⟨d - 1, by omega⟩
  refine gR_of (mx := 10) (code := gcx_196) rfl rfl (Nat.le_of_ble_eq_true rfl) ?_
  have hJ_205 : ∀ (v1 : Int32) (m1 : gM), gEx d gcx_196 sh gri 205 [some (.ref 81), none, none, none, none, none, none, none, none, none] [.int v1] m1 (J_MO_letOf_205 v1 m1) := by
    intro v1 m1
    unfold J_MO_letOf_205
    refine gEx.istore (ls' := [some (.ref 81), none, none, none, none, some (.int v1), none, none, none, none]) rfl rfl rfl ?_
    refine gEx.lab (ls' := [some (.ref 81), none, none, none, none, some (.int v1), none, none, none, none]) rfl rfl ?_
    refine gEx.iload rfl rfl rfl ?_
    exact gEx.reti rfl rfl
  have hJ_198 : ∀ (v2 : Int32) (v3 : Int32) (v4 : Int32) (v5 : Int32) (m2 : gM), gEx d gcx_196 sh gri 198 [some (.ref 81), some (.int x1), some (.int x2), some (.int v2), some (.int v3), some (.int v4), none, none, none, some (.int v5)] [] m2 (J_MO_letOf_198 v2 v3 v4 v5 m2) := by
    intro v2 v3 v4 v5 m2
    unfold J_MO_letOf_198
    refine gEx.iload rfl rfl rfl ?_
    refine gEx.goto (tn := 205) rfl rfl rfl ?_
    exact gEx.lab rfl rfl (hJ_205 v5 m2)
  have hJ_182 : ∀ (v6 : Int32) (v7 : Int32) (v8 : Int32) (v9 : Int32) (m3 : gM), gEx d gcx_196 sh gri 182 [some (.ref 81), some (.int x1), some (.int x2), some (.int v6), some (.int v7), some (.int v8), none, none, none, none] [.int v9] m3 (J_MO_letOf_182 v6 v7 v8 v9 m3) := by
    intro v6 v7 v8 v9 m3
    unfold J_MO_letOf_182
    refine gEx.istore (ls' := [some (.ref 81), some (.int x1), some (.int x2), some (.int v6), some (.int v7), some (.int v8), none, none, none, some (.int v9)]) rfl rfl rfl ?_
    refine gEx.iload rfl rfl rfl ?_
    refine gEx.iconst rfl rfl ?_
    refine gEx.icmp_eq (tn := 198) rfl rfl rfl ?_ ?_
    · exact gEx.lab rfl rfl (hJ_198 v6 v7 v8 v9 m3)
    · refine gEx.iload rfl rfl rfl ?_
      refine gEx.iload rfl rfl rfl ?_
      refine gEx.icmp_ge (tn := 203) rfl rfl rfl ?_ ?_
      · exact gEx.lab rfl rfl (hJ_198 v6 v7 v8 v9 m3)
      · refine gEx.iload rfl rfl rfl ?_
        exact gEx.lab rfl rfl (hJ_205 v8 m3)
  have hJ_158 : ∀ (v10 : Int32) (v11 : Int32) (v12 : Int32) (v13 : Int32) (v14 : Int32) (v15 : Int32) (v16 : Int32) (m4 : gM), gEx d gcx_196 sh gri 158 [some (.ref 81), some (.int x1), some (.int x2), some (.int v10), some (.int v11), some (.int v12), some (.int v13), some (.int v14), some (.int v15), some (.int v16)] [] m4 (J_MO_letOf_158 v10 v11 v12 v13 v14 v15 v16 m4) := by
    intro v10 v11 v12 v13 v14 v15 v16 m4
    unfold J_MO_letOf_158
    refine gEx.iload rfl rfl rfl ?_
    refine gEx.iconst rfl rfl ?_
    refine gEx.icmp_ne (tn := 169) rfl rfl rfl ?_ ?_
    · refine gEx.iconst rfl rfl ?_
      refine gEx.goto (tn := 182) rfl rfl rfl ?_
      exact gEx.lab rfl rfl (hJ_182 v10 v11 v12 0 m4)
    · refine gEx.aload rfl rfl rfl ?_
      refine gEx.getR rfl rfl (h0 0 _ rfl) rfl ?_
      refine gEx.iload rfl rfl rfl ?_
      refine gEx.iald rfl rfl (h0 37 _ rfl) ?_
      refine gEx.iload rfl rfl rfl ?_
      refine gEx.imul rfl rfl ?_
      refine gEx.iload rfl rfl rfl ?_
      refine gEx.idiv rfl rfl ?_
      exact gEx.lab rfl rfl (hJ_182 v10 v11 v12 (((grd m4 118 v11) * v14) / v15) m4)
  have hJ_113 : ∀ (v17 : Int32) (v18 : Int32) (v19 : Int32) (v20 : Int32) (v21 : Int32) (v22 : Int32) (v23 : Int32) (m5 : gM), gEx d gcx_196 sh gri 113 [some (.ref 81), some (.int x1), some (.int x2), some (.int v17), some (.int v18), some (.int v19), some (.int v20), some (.int v21), some (.int v22), some (.int v23)] [] m5 (J_MO_letOf_113 v17 v18 v19 v20 v21 v22 v23 m5) := by
    intro v17 v18 v19 v20 v21 v22 v23 m5
    unfold J_MO_letOf_113
    refine gEx.iconst rfl rfl ?_
    refine gEx.istore (ls' := [some (.ref 81), some (.int x1), some (.int x2), some (.int v17), some (.int v18), some (.int v19), some (.int v20), some (.int v21), some (.int v22), some (.int 0)]) rfl rfl rfl ?_
    have hL_116 : ∀ (n : Nat) (v24 : Int32) (v25 : Int32), gEx d gcx_196 sh gri 116 [some (.ref 81), some (.int x1), some (.int x2), some (.int v17), some (.int v18), some (.int v19), some (.int v20), some (.int v21), some (.int v24), some (.int v25)] [] m5 (L_MO_letOf_116 v20 m5 (fun v24 v25 => J_MO_letOf_158 v17 v18 v19 v20 v21 v24 v25 m5) n v24 v25) := by
      refine gfix_ind (P := fun (f : Int32 → Int32 → Option (Int32 × gM)) => ∀ (v24 : Int32) (v25 : Int32), gEx d gcx_196 sh gri 116 [some (.ref 81), some (.int x1), some (.int x2), some (.int v17), some (.int v18), some (.int v19), some (.int v20), some (.int v21), some (.int v24), some (.int v25)] [] m5 (f v24 v25)) (fun _ _ => gEx.none) (fun rec_116 hrec_116 => ?_)
      have hJ_149 : ∀ (v26 : Int32) (v27 : Int32) (v28 : Int32) (v29 : Int32), gEx d gcx_196 sh gri 149 [some (.ref 81), some (.int x1), some (.int x2), some (.int v17), some (.int v18), some (.int v19), some (.int v20), some (.int v21), some (.int v26), some (.int v27)] [.int v29, .int v28] m5 (J_MO_letOf_149 rec_116 v26 v27 v28 v29) := by
        intro v26 v27 v28 v29
        unfold J_MO_letOf_149
        refine gEx.iadd rfl rfl ?_
        refine gEx.istoreL (ls' := fun v30 => [some (.ref 81), some (.int x1), some (.int x2), some (.int v17), some (.int v18), some (.int v19), some (.int v20), some (.int v21), some (.int v30), some (.int v27)]) rfl rfl (fun _ => rfl) (fun v30 => ?_)
        refine gEx.iinc (ls' := [some (.ref 81), some (.int x1), some (.int x2), some (.int v17), some (.int v18), some (.int v19), some (.int v20), some (.int v21), some (.int v30), some (.int (v27 + 1))]) rfl rfl rfl rfl ?_
        refine gEx.goto (tn := 116) rfl rfl rfl ?_
        exact gEx.lab rfl rfl (hrec_116 v30 (v27 + 1))
      intro v24 v25
      refine gEx.iload rfl rfl rfl ?_
      refine gEx.aload rfl rfl rfl ?_
      refine gEx.getI rfl rfl (h0 0 _ rfl) rfl ?_
      refine gEx.icmp_ge (tn := 158) rfl rfl rfl ?_ ?_
      · refine gEx.iload rfl rfl rfl ?_
        refine gEx.aload rfl rfl rfl ?_
        refine gEx.getR rfl rfl (h0 0 _ rfl) rfl ?_
        refine gEx.aload rfl rfl rfl ?_
        refine gEx.getR rfl rfl (h0 0 _ rfl) rfl ?_
        refine gEx.iload rfl rfl rfl ?_
        refine gEx.iald rfl rfl (h0 12 _ rfl) ?_
        refine gEx.iald rfl rfl (h0 4 _ rfl) ?_
        refine gEx.iload rfl rfl rfl ?_
        refine gEx.icmp_ne (tn := 148) rfl rfl rfl ?_ ?_
        · refine gEx.iconst rfl rfl ?_
          refine gEx.goto (tn := 149) rfl rfl rfl ?_
          exact gEx.lab rfl rfl (hJ_149 v24 v25 v24 1)
        · refine gEx.iconst rfl rfl ?_
          exact gEx.lab rfl rfl (hJ_149 v24 v25 v24 0)
      · exact gEx.lab rfl rfl (hJ_158 v17 v18 v19 v20 v21 v24 v25 m5)
    exact gEx.lab rfl rfl (hL_116 1000 v22 0)
  have hJ_45 : ∀ (v31 : Int32) (v32 : Int32) (v33 : Int32) (m6 : gM), gEx d gcx_196 sh gri 45 [some (.ref 81), some (.int x1), some (.int x2), some (.int v31), some (.int v32), none, none, none, none, none] [.int v33] m6 (J_MO_letOf_45 x1 v31 v32 v33 m6) := by
    intro v31 v32 v33 m6
    unfold J_MO_letOf_45
    refine gEx.istore (ls' := [some (.ref 81), some (.int x1), some (.int x2), some (.int v31), some (.int v32), some (.int v33), none, none, none, none]) rfl rfl rfl ?_
    refine gEx.iload rfl rfl rfl ?_
    refine gEx.iconst rfl rfl ?_
    refine gEx.icmp_eq (tn := 207) rfl rfl rfl ?_ ?_
    · refine gEx.lab (ls' := [some (.ref 81), some (.int x1), some (.int x2), some (.int v31), some (.int v32), some (.int v33), none, none, none, none]) rfl rfl ?_
      refine gEx.iload rfl rfl rfl ?_
      exact gEx.reti rfl rfl
    · refine gEx.aload rfl rfl rfl ?_
      refine gEx.getR rfl rfl (h0 0 _ rfl) rfl ?_
      refine gEx.aload rfl rfl rfl ?_
      refine gEx.getR rfl rfl (h0 0 _ rfl) rfl ?_
      refine gEx.iload rfl rfl rfl ?_
      refine gEx.iald rfl rfl (h0 12 _ rfl) ?_
      refine gEx.iald rfl rfl (h0 4 _ rfl) ?_
      refine gEx.istoreL (ls' := fun v34 => [some (.ref 81), some (.int x1), some (.int x2), some (.int v31), some (.int v32), some (.int v33), some (.int v34), none, none, none]) rfl rfl (fun _ => rfl) (fun v34 => ?_)
      refine gEx.iconst rfl rfl ?_
      refine gEx.istore (ls' := [some (.ref 81), some (.int x1), some (.int x2), some (.int v31), some (.int v32), some (.int v33), some (.int v34), some (.int 0), none, none]) rfl rfl rfl ?_
      refine gEx.iconst rfl rfl ?_
      refine gEx.istore (ls' := [some (.ref 81), some (.int x1), some (.int x2), some (.int v31), some (.int v32), some (.int v33), some (.int v34), some (.int 0), some (.int 0), none]) rfl rfl rfl ?_
      refine gEx.iconst rfl rfl ?_
      refine gEx.istore (ls' := [some (.ref 81), some (.int x1), some (.int x2), some (.int v31), some (.int v32), some (.int v33), some (.int v34), some (.int 0), some (.int 0), some (.int 0)]) rfl rfl rfl ?_
      have hL_76 : ∀ (n : Nat) (v35 : Int32) (v36 : Int32) (m7 : gM), gEx d gcx_196 sh gri 76 [some (.ref 81), some (.int x1), some (.int x2), some (.int v31), some (.int v32), some (.int v33), some (.int v34), some (.int v35), some (.int 0), some (.int v36)] [] m7 (L_MO_letOf_76 v34 (fun v35 v36 m7 => J_MO_letOf_113 v31 v32 v33 v34 v35 0 v36 m7) n v35 v36 m7) := by
        refine gfix_ind (P := fun (f : Int32 → Int32 → gM → Option (Int32 × gM)) => ∀ (v35 : Int32) (v36 : Int32) (m7 : gM), gEx d gcx_196 sh gri 76 [some (.ref 81), some (.int x1), some (.int x2), some (.int v31), some (.int v32), some (.int v33), some (.int v34), some (.int v35), some (.int 0), some (.int v36)] [] m7 (f v35 v36 m7)) (fun _ _ _ => gEx.none) (fun rec_76 hrec_76 => ?_)
        have hJ_104 : ∀ (v37 : Int32) (v38 : Int32) (v39 : Int32) (v40 : Int32) (m8 : gM), gEx d gcx_196 sh gri 104 [some (.ref 81), some (.int x1), some (.int x2), some (.int v31), some (.int v32), some (.int v33), some (.int v34), some (.int v37), some (.int 0), some (.int v38)] [.int v40, .int v39] m8 (J_MO_letOf_104 rec_76 v37 v38 v39 v40 m8) := by
          intro v37 v38 v39 v40 m8
          unfold J_MO_letOf_104
          refine gEx.iadd rfl rfl ?_
          refine gEx.istoreL (ls' := fun v41 => [some (.ref 81), some (.int x1), some (.int x2), some (.int v31), some (.int v32), some (.int v33), some (.int v34), some (.int v41), some (.int 0), some (.int v38)]) rfl rfl (fun _ => rfl) (fun v41 => ?_)
          refine gEx.iinc (ls' := [some (.ref 81), some (.int x1), some (.int x2), some (.int v31), some (.int v32), some (.int v33), some (.int v34), some (.int v41), some (.int 0), some (.int (v38 + 1))]) rfl rfl rfl rfl ?_
          refine gEx.goto (tn := 76) rfl rfl rfl ?_
          exact gEx.lab rfl rfl (hrec_76 v41 (v38 + 1) m8)
        intro v35 v36 m7
        refine gEx.iload rfl rfl rfl ?_
        refine gEx.aload rfl rfl rfl ?_
        refine gEx.callVi rfl rfl rfl rfl (h0 0 _ rfl) rfl (fun _ h => (t_MO_cells (by omega) h0) _ h) (fun r1 => ?_)
        refine gEx.icmp_ge (tn := 113) rfl rfl rfl ?_ ?_
        · refine gEx.iload rfl rfl rfl ?_
          refine gEx.aload rfl rfl rfl ?_
          refine gEx.getR rfl rfl (h0 0 _ rfl) rfl ?_
          refine gEx.iload rfl rfl rfl ?_
          refine gEx.iald rfl rfl (h0 4 _ rfl) ?_
          refine gEx.iload rfl rfl rfl ?_
          refine gEx.icmp_ne (tn := 103) rfl rfl rfl ?_ ?_
          · refine gEx.iconst rfl rfl ?_
            refine gEx.goto (tn := 104) rfl rfl rfl ?_
            exact gEx.lab rfl rfl (hJ_104 v35 v36 v35 1 r1.2)
          · refine gEx.iconst rfl rfl ?_
            exact gEx.lab rfl rfl (hJ_104 v35 v36 v35 0 r1.2)
        · exact gEx.lab rfl rfl (hJ_113 v31 v32 v33 v34 v35 0 v36 r1.2)
      exact gEx.lab rfl rfl (hL_76 1000 0 0 m6)
  show gEx d gcx_196 sh gri 0 [some (.ref 81), some (.int x1), some (.int x2), none, none, none, none, none, none, none] [] m (f_MO_letOf x1 x2 m)
  unfold f_MO_letOf
  refine gEx.aload rfl rfl rfl ?_
  refine gEx.iconst rfl rfl ?_
  refine gEx.iload rfl rfl rfl ?_
  refine gEx.callVi rfl rfl rfl rfl (h0 0 _ rfl) rfl (fun _ h => (t_MO_lineAt (by omega) h0) _ h) (fun r2 => ?_)
  refine gEx.iconst rfl rfl ?_
  refine gEx.icmp_eq (tn := 13) rfl rfl rfl ?_ ?_
  · refine gEx.aload rfl rfl rfl ?_
    refine gEx.iconst rfl rfl ?_
    refine gEx.iload rfl rfl rfl ?_
    refine gEx.callVi rfl rfl rfl rfl (h0 0 _ rfl) rfl (fun _ h => (t_MO_lineAt (by omega) h0) _ h) (fun r3 => ?_)
    refine gEx.istore (ls' := [some (.ref 81), some (.int x1), some (.int x2), some (.int r3.1), none, none, none, none, none, none]) rfl rfl rfl ?_
    refine gEx.aload rfl rfl rfl ?_
    refine gEx.iconst rfl rfl ?_
    refine gEx.iload rfl rfl rfl ?_
    refine gEx.callVi rfl rfl rfl rfl (h0 0 _ rfl) rfl (fun _ h => (t_MO_lineAt (by omega) h0) _ h) (fun r4 => ?_)
    refine gEx.istore (ls' := [some (.ref 81), some (.int x1), some (.int x2), some (.int r3.1), some (.int r4.1), none, none, none, none, none]) rfl rfl rfl ?_
    refine gEx.iload rfl rfl rfl ?_
    refine gEx.iconst rfl rfl ?_
    refine gEx.icmp_ne (tn := 39) rfl rfl rfl ?_ ?_
    · refine gEx.iconst rfl rfl ?_
      refine gEx.goto (tn := 45) rfl rfl rfl ?_
      exact gEx.lab rfl rfl (hJ_45 r3.1 r4.1 (-4) r4.2)
    · refine gEx.aload rfl rfl rfl ?_
      refine gEx.getR rfl rfl (h0 0 _ rfl) rfl ?_
      refine gEx.iload rfl rfl rfl ?_
      refine gEx.iald rfl rfl (h0 37 _ rfl) ?_
      exact gEx.lab rfl rfl (hJ_45 r3.1 r4.1 (grd r4.2 118 r3.1) r4.2)
  · refine gEx.iconst rfl rfl ?_
    exact gEx.reti rfl rfl
abbrev gcx_197 : gC := glook (gco_197_0)
set_option maxRecDepth 100000 in
set_option maxHeartbeats 4000000 in
theorem t_MO_hotIn {d : Nat} (hd : 3 ≤ d) {sh : gH} {x1 : Int32} {x2 : Int32} (h0 : gHas sh.1 81 gsh_MO) {m : gM} : ∀ x, f_MO_hotIn x1 x2 m = some x → gR gmi gdf gcd d 197 [.ref 81, .int x1, .int x2] (sh, m) ((gri x).1, (sh, (gri x).2)) := by
  obtain ⟨d, rfl⟩ : ∃ e, d = e + 1 := ⟨d - 1, by omega⟩
  refine gR_of (mx := 5) (code := gcx_197) rfl rfl (Nat.le_of_ble_eq_true rfl) ?_
  show gEx d gcx_197 sh gri 0 [some (.ref 81), some (.int x1), some (.int x2), none, none] [] m (f_MO_hotIn x1 x2 m)
  unfold f_MO_hotIn
  refine gEx.aload rfl rfl rfl ?_
  refine gEx.iload rfl rfl rfl ?_
  refine gEx.iload rfl rfl rfl ?_
  refine gEx.callVi rfl rfl rfl rfl (h0 0 _ rfl) rfl (fun _ h => (t_MO_letOf (by omega) h0) _ h) (fun r1 => ?_)
  refine gEx.istore (ls' := [some (.ref 81), some (.int x1), some (.int x2), some (.int r1.1), none]) rfl rfl rfl ?_
  refine gEx.aload rfl rfl rfl ?_
  refine gEx.getR rfl rfl (h0 0 _ rfl) rfl ?_
  refine gEx.iconst rfl rfl ?_
  refine gEx.iload rfl rfl rfl ?_
  refine gEx.imul rfl rfl ?_
  refine gEx.iload rfl rfl rfl ?_
  refine gEx.iadd rfl rfl ?_
  refine gEx.iald rfl rfl (h0 18 _ rfl) ?_
  refine gEx.iload rfl rfl rfl ?_
  refine gEx.isub rfl rfl ?_
  refine gEx.istoreL (ls' := fun v1 => [some (.ref 81), some (.int x1), some (.int x2), some (.int r1.1), some (.int v1)]) rfl rfl (fun _ => rfl) (fun v1 => ?_)
  refine gEx.iload rfl rfl rfl ?_
  refine gEx.iconst rfl rfl ?_
  refine gEx.icmp_eq (tn := 33) rfl rfl rfl ?_ ?_
  · refine gEx.lab (ls' := [some (.ref 81), none, none, none, none]) rfl rfl ?_
    refine gEx.iconst rfl rfl ?_
    refine gEx.goto (tn := 39) rfl rfl rfl ?_
    refine gEx.lab (ls' := [some (.ref 81), none, none, none, none]) rfl rfl ?_
    exact gEx.reti rfl rfl
  · refine gEx.iload rfl rfl rfl ?_
    refine gEx.if_ge (tn := 37) rfl rfl rfl ?_ ?_
    · refine gEx.lab (ls' := [some (.ref 81), none, none, none, none]) rfl rfl ?_
      refine gEx.iconst rfl rfl ?_
      refine gEx.goto (tn := 39) rfl rfl rfl ?_
      refine gEx.lab (ls' := [some (.ref 81), none, none, none, none]) rfl rfl ?_
      exact gEx.reti rfl rfl
    · refine gEx.iload rfl rfl rfl ?_
      refine gEx.lab (ls' := [some (.ref 81), none, none, none, none]) rfl rfl ?_
      exact gEx.reti rfl rfl
abbrev gcx_198 : gC := glook (gco_198_0)
set_option maxRecDepth 100000 in
set_option maxHeartbeats 4000000 in
theorem t_MO_hotOf {d : Nat} (hd : 4 ≤ d) {sh : gH} {x1 : Int32} (h0 : gHas sh.1 81 gsh_MO) {m : gM} : ∀ x, f_MO_hotOf x1 m = some x → gR gmi gdf gcd d 198 [.ref 81, .int x1] (sh, m) ((gri x).1, (sh, (gri x).2)) := by
  obtain ⟨d, rfl⟩ : ∃ e, d = e + 1 := ⟨d - 1, by omega⟩
  refine gR_of (mx := 4) (code := gcx_198) rfl rfl (Nat.le_of_ble_eq_true rfl) ?_
  show gEx d gcx_198 sh gri 0 [some (.ref 81), some (.int x1), none, none] [] m (f_MO_hotOf x1 m)
  unfold f_MO_hotOf
  refine gEx.iconst rfl rfl ?_
  refine gEx.istore (ls' := [some (.ref 81), some (.int x1), some (.int 0), none]) rfl rfl rfl ?_
  refine gEx.iconst rfl rfl ?_
  refine gEx.istore (ls' := [some (.ref 81), some (.int x1), some (.int 0), some (.int 0)]) rfl rfl rfl ?_
  have hL_4 : ∀ (n : Nat) (v1 : Int32) (v2 : Int32) (m1 : gM), gEx d gcx_198 sh gri 4 [some (.ref 81), some (.int x1), some (.int v1), some (.int v2)] [] m1 (L_MO_hotOf_4 x1 n v1 v2 m1) := by
    refine gfix_ind (P := fun (f : Int32 → Int32 → gM → Option (Int32 × gM)) => ∀ (v1 : Int32) (v2 : Int32) (m1 : gM), gEx d gcx_198 sh gri 4 [some (.ref 81), some (.int x1), some (.int v1), some (.int v2)] [] m1 (f v1 v2 m1)) (fun _ _ _ => gEx.none) (fun rec_4 hrec_4 => ?_)
    have hJ_35 : ∀ (v3 : Int32) (v4 : Int32) (v5 : Int32) (v6 : Int32) (m2 : gM), gEx d gcx_198 sh gri 35 [some (.ref 81), some (.int x1), some (.int v3), some (.int v4)] [.int v6, .int v5] m2 (J_MO_hotOf_35 rec_4 v3 v4 v5 v6 m2) := by
      intro v3 v4 v5 v6 m2
      unfold J_MO_hotOf_35
      refine gEx.iadd rfl rfl ?_
      refine gEx.istore (ls' := [some (.ref 81), some (.int x1), some (.int (v5 + v6)), some (.int v4)]) rfl rfl rfl ?_
      refine gEx.iinc (ls' := [some (.ref 81), some (.int x1), some (.int (v5 + v6)), some (.int (v4 + 1))]) rfl rfl rfl rfl ?_
      refine gEx.goto (tn := 4) rfl rfl rfl ?_
      exact gEx.lab rfl rfl (hrec_4 (v5 + v6) (v4 + 1) m2)
    intro v1 v2 m1
    refine gEx.iload rfl rfl rfl ?_
    refine gEx.iconst rfl rfl ?_
    refine gEx.icmp_ge (tn := 43) rfl rfl rfl ?_ ?_
    · refine gEx.iload rfl rfl rfl ?_
      refine gEx.aload rfl rfl rfl ?_
      refine gEx.getR rfl rfl (h0 0 _ rfl) rfl ?_
      refine gEx.iconst rfl rfl ?_
      refine gEx.iload rfl rfl rfl ?_
      refine gEx.imul rfl rfl ?_
      refine gEx.iload rfl rfl rfl ?_
      refine gEx.iadd rfl rfl ?_
      refine gEx.iald rfl rfl (h0 18 _ rfl) ?_
      refine gEx.if_le (tn := 34) rfl rfl rfl ?_ ?_
      · refine gEx.aload rfl rfl rfl ?_
        refine gEx.iload rfl rfl rfl ?_
        refine gEx.iload rfl rfl rfl ?_
        refine gEx.callVi rfl rfl rfl rfl (h0 0 _ rfl) rfl (fun _ h => (t_MO_hotIn (by omega) h0) _ h) (fun r1 => ?_)
        refine gEx.goto (tn := 35) rfl rfl rfl ?_
        exact gEx.lab rfl rfl (hJ_35 v1 v2 v1 r1.1 r1.2)
      · refine gEx.iconst rfl rfl ?_
        exact gEx.lab rfl rfl (hJ_35 v1 v2 v1 0 m1)
    · refine gEx.iload rfl rfl rfl ?_
      exact gEx.reti rfl rfl
  exact gEx.lab rfl rfl (hL_4 1000 0 0 m)
abbrev gcx_186 : gC := glook (gco_186_0 ++ (gco_186_1))
set_option maxRecDepth 100000 in
set_option maxHeartbeats 4000000 in
theorem t_MO_told {d : Nat} (hd : 5 ≤ d) {sh : gH} {x1 : Int32} {x2 : Int32} (h0 : gHas sh.1 81 gsh_MO) {m : gM} : ∀ x, f_MO_told x1 x2 m = some x → gR gmi gdf gcd d 186 [.ref 81, .int x1, .int x2] (sh, m) ((gri x).1, (sh, (gri x).2)) := by
  obtain ⟨d, rfl⟩ : ∃ e, d = e + 1 := ⟨d - 1, by omega⟩
  refine gR_of (mx := 8) (code := gcx_186) rfl rfl (Nat.le_of_ble_eq_true rfl) ?_
  have hJ_114 : ∀ (v1 : Int32) (v2 : Int32) (v3 : Int32) (v4 : Int32) (v5 : Int32) (m1 : gM), gEx d gcx_186 sh gri 114 [some (.ref 81), some (.int x1), some (.int x2), some (.int v1), some (.int v2), some (.int v3), some (.int v4), some (.int v5)] [] m1 (J_MO_told_114 x1 x2 v1 v2 v3 v4 v5 m1) := by
    intro v1 v2 v3 v4 v5 m1
    unfold J_MO_told_114
    refine gEx.iload rfl rfl rfl ?_
    refine gEx.i2l rfl rfl ?_
    refine gEx.lconst rfl rfl ?_
    refine gEx.lconst rfl rfl ?_
    refine gEx.callSi rfl rfl rfl rfl rfl (fun _ h => (t_MO_in (by omega) ) _ h) (fun r1 => ?_)
    refine gEx.if_eq (tn := 131) rfl rfl rfl ?_ ?_
    · refine gEx.aload rfl rfl rfl ?_
      refine gEx.getR rfl rfl (h0 0 _ rfl) rfl ?_
      refine gEx.iload rfl rfl rfl ?_
      refine gEx.iald rfl rfl (h0 20 _ rfl) ?_
      refine gEx.iload rfl rfl rfl ?_
      refine gEx.iload rfl rfl rfl ?_
      refine gEx.isub rfl rfl ?_
      refine gEx.isub rfl rfl ?_
      refine gEx.istoreL (ls' := fun v6 => [some (.ref 81), some (.int x1), some (.int x2), some (.int v1), some (.int v2), some (.int v3), some (.int v4), some (.int v6)]) rfl rfl (fun _ => rfl) (fun v6 => ?_)
      refine gEx.iload rfl rfl rfl ?_
      refine gEx.sw (dft := 229) (ps := #[(0, 188), (1, 195), (2, 202), (3, 209), (4, 211), (5, 214), (6, 217)]) rfl rfl [(0, gok (gib x1 6) (some (grd r1.2 100 x1, r1.2))), (1, gok (gib x1 6) (some (grd r1.2 101 x1, r1.2))), (2, gok (gib x1 6) (some (grd r1.2 102 x1, r1.2))), (3, some (v1, r1.2)), (4, some (v2, r1.2)), (5, some (v3, r1.2)), (6, if v6 < 0 then (some (0, r1.2)) else (some (v6, r1.2)))] (some ((-1), r1.2)) ⟨rfl, ?_, ⟨rfl, ?_, ⟨rfl, ?_, ⟨rfl, ?_, ⟨rfl, ?_, ⟨rfl, ?_, ⟨rfl, ?_, trivial⟩⟩⟩⟩⟩⟩⟩ ?_
      · show gEx d gcx_186 sh gri 188 _ _ _ _
        refine gEx.aload rfl rfl rfl ?_
        refine gEx.getR rfl rfl (h0 0 _ rfl) rfl ?_
        refine gEx.iload rfl rfl rfl ?_
        refine gEx.iald rfl rfl (h0 19 _ rfl) ?_
        exact gEx.reti rfl rfl
      · show gEx d gcx_186 sh gri 195 _ _ _ _
        refine gEx.aload rfl rfl rfl ?_
        refine gEx.getR rfl rfl (h0 0 _ rfl) rfl ?_
        refine gEx.iload rfl rfl rfl ?_
        refine gEx.iald rfl rfl (h0 20 _ rfl) ?_
        exact gEx.reti rfl rfl
      · show gEx d gcx_186 sh gri 202 _ _ _ _
        refine gEx.aload rfl rfl rfl ?_
        refine gEx.getR rfl rfl (h0 0 _ rfl) rfl ?_
        refine gEx.iload rfl rfl rfl ?_
        refine gEx.iald rfl rfl (h0 21 _ rfl) ?_
        exact gEx.reti rfl rfl
      · show gEx d gcx_186 sh gri 209 _ _ _ _
        refine gEx.iload rfl rfl rfl ?_
        exact gEx.reti rfl rfl
      · show gEx d gcx_186 sh gri 211 _ _ _ _
        refine gEx.iload rfl rfl rfl ?_
        exact gEx.reti rfl rfl
      · show gEx d gcx_186 sh gri 214 _ _ _ _
        refine gEx.iload rfl rfl rfl ?_
        exact gEx.reti rfl rfl
      · show gEx d gcx_186 sh gri 217 _ _ _ _
        refine gEx.iload rfl rfl rfl ?_
        refine gEx.if_ge (tn := 226) rfl rfl rfl ?_ ?_
        · refine gEx.iconst rfl rfl ?_
          refine gEx.goto (tn := 228) rfl rfl rfl ?_
          refine gEx.lab (ls' := [some (.ref 81), none, none, none, none, none, none, none]) rfl rfl ?_
          exact gEx.reti rfl rfl
        · refine gEx.iload rfl rfl rfl ?_
          refine gEx.lab (ls' := [some (.ref 81), none, none, none, none, none, none, none]) rfl rfl ?_
          exact gEx.reti rfl rfl
      · show gEx d gcx_186 sh gri 229 _ _ _ _
        refine gEx.iconst rfl rfl ?_
        exact gEx.reti rfl rfl
    · refine gEx.iload rfl rfl rfl ?_
      exact gEx.reti rfl rfl
  show gEx d gcx_186 sh gri 0 [some (.ref 81), some (.int x1), some (.int x2), none, none, none, none, none] [] m (f_MO_told x1 x2 m)
  unfold f_MO_told
  refine gEx.aload rfl rfl rfl ?_
  refine gEx.iload rfl rfl rfl ?_
  refine gEx.callVi rfl rfl rfl rfl (h0 0 _ rfl) rfl (fun _ h => (t_MO_isPerson (by omega) h0) _ h) (fun r2 => ?_)
  refine gEx.if_ne (tn := 10) rfl rfl rfl ?_ ?_
  · refine gEx.iconst rfl rfl ?_
    exact gEx.reti rfl rfl
  · refine gEx.iconst rfl rfl ?_
    refine gEx.istore (ls' := [some (.ref 81), some (.int x1), some (.int x2), some (.int 0), none, none, none, none]) rfl rfl rfl ?_
    refine gEx.iconst rfl rfl ?_
    refine gEx.istore (ls' := [some (.ref 81), some (.int x1), some (.int x2), some (.int 0), some (.int 0), none, none, none]) rfl rfl rfl ?_
    refine gEx.iconst rfl rfl ?_
    refine gEx.istore (ls' := [some (.ref 81), some (.int x1), some (.int x2), some (.int 0), some (.int 0), some (.int 0), none, none]) rfl rfl rfl ?_
    refine gEx.iconst rfl rfl ?_
    refine gEx.istore (ls' := [some (.ref 81), some (.int x1), some (.int x2), some (.int 0), some (.int 0), some (.int 0), some (.int 0), none]) rfl rfl rfl ?_
    refine gEx.iconst rfl rfl ?_
    refine gEx.istore (ls' := [some (.ref 81), some (.int x1), some (.int x2), some (.int 0), some (.int 0), some (.int 0), some (.int 0), some (.int 0)]) rfl rfl rfl ?_
    have hL_24 : ∀ (n : Nat) (v7 : Int32) (v8 : Int32) (v9 : Int32) (v10 : Int32) (v11 : Int32) (m2 : gM), gEx d gcx_186 sh gri 24 [some (.ref 81), some (.int x1), some (.int x2), some (.int v7), some (.int v8), some (.int v9), some (.int v10), some (.int v11)] [] m2 (L_MO_told_24 x1 x2 (fun v7 v8 v9 v10 v11 m2 => J_MO_told_114 x1 x2 v7 v8 v9 v10 v11 m2) n v7 v8 v9 v10 v11 m2) := by
      refine gfix_ind (P := fun (f : Int32 → Int32 → Int32 → Int32 → Int32 → gM → Option (Int32 × gM)) => ∀ (v7 : Int32) (v8 : Int32) (v9 : Int32) (v10 : Int32) (v11 : Int32) (m2 : gM), gEx d gcx_186 sh gri 24 [some (.ref 81), some (.int x1), some (.int x2), some (.int v7), some (.int v8), some (.int v9), some (.int v10), some (.int v11)] [] m2 (f v7 v8 v9 v10 v11 m2)) (fun _ _ _ _ _ _ => gEx.none) (fun rec_24 hrec_24 => ?_)
      have hJ_108 : ∀ (v12 : Int32) (v13 : Int32) (v14 : Int32) (v15 : Int32) (v16 : Int32) (m3 : gM), gEx d gcx_186 sh gri 108 [some (.ref 81), some (.int x1), some (.int x2), some (.int v12), some (.int v13), some (.int v14), some (.int v15), some (.int v16)] [] m3 (J_MO_told_108 rec_24 v12 v13 v14 v15 v16 m3) := by
        intro v12 v13 v14 v15 v16 m3
        unfold J_MO_told_108
        refine gEx.iinc (ls' := [some (.ref 81), some (.int x1), some (.int x2), some (.int v12), some (.int v13), some (.int v14), some (.int v15), some (.int (v16 + 1))]) rfl rfl rfl rfl ?_
        refine gEx.goto (tn := 24) rfl rfl rfl ?_
        exact gEx.lab rfl rfl (hrec_24 v12 v13 v14 v15 (v16 + 1) m3)
      have hJ_105 : ∀ (v17 : Int32) (v18 : Int32) (v19 : Int32) (v20 : Int32) (v21 : Int32) (v22 : Int32) (v23 : Int32) (m4 : gM), gEx d gcx_186 sh gri 105 [some (.ref 81), some (.int x1), some (.int x2), some (.int v17), some (.int v18), some (.int v19), some (.int v20), some (.int v21)] [.int v23, .int v22] m4 (J_MO_told_105 rec_24 v17 v18 v19 v20 v21 v22 v23 m4) := by
        intro v17 v18 v19 v20 v21 v22 v23 m4
        unfold J_MO_told_105
        refine gEx.iadd rfl rfl ?_
        refine gEx.istoreL (ls' := fun v24 => [some (.ref 81), some (.int x1), some (.int x2), some (.int v17), some (.int v18), some (.int v19), some (.int v24), some (.int v21)]) rfl rfl (fun _ => rfl) (fun v24 => ?_)
        exact gEx.lab rfl rfl (hJ_108 v17 v18 v19 v24 v21 m4)
      intro v7 v8 v9 v10 v11 m2
      refine gEx.iload rfl rfl rfl ?_
      refine gEx.aload rfl rfl rfl ?_
      refine gEx.getI rfl rfl (h0 0 _ rfl) rfl ?_
      refine gEx.icmp_ge (tn := 114) rfl rfl rfl ?_ ?_
      · refine gEx.aload rfl rfl rfl ?_
        refine gEx.getR rfl rfl (h0 0 _ rfl) rfl ?_
        refine gEx.iload rfl rfl rfl ?_
        refine gEx.iald rfl rfl (h0 11 _ rfl) ?_
        refine gEx.iload rfl rfl rfl ?_
        refine gEx.icmp_ne (tn := 108) rfl rfl rfl ?_ ?_
        · refine gEx.iinc (ls' := [some (.ref 81), some (.int x1), some (.int x2), some (.int (v7 + 1)), some (.int v8), some (.int v9), some (.int v10), some (.int v11)]) rfl rfl rfl rfl ?_
          refine gEx.iload rfl rfl rfl ?_
          refine gEx.aload rfl rfl rfl ?_
          refine gEx.getR rfl rfl (h0 0 _ rfl) rfl ?_
          refine gEx.iload rfl rfl rfl ?_
          refine gEx.iald rfl rfl (h0 15 _ rfl) ?_
          refine gEx.iadd rfl rfl ?_
          refine gEx.istoreL (ls' := fun v25 => [some (.ref 81), some (.int x1), some (.int x2), some (.int (v7 + 1)), some (.int v25), some (.int v9), some (.int v10), some (.int v11)]) rfl rfl (fun _ => rfl) (fun v25 => ?_)
          refine gEx.iload rfl rfl rfl ?_
          refine gEx.aload rfl rfl rfl ?_
          refine gEx.iload rfl rfl rfl ?_
          refine gEx.callVi rfl rfl rfl rfl (h0 0 _ rfl) rfl (fun _ h => (t_MO_hotOf (by omega) h0) _ h) (fun r3 => ?_)
          refine gEx.iadd rfl rfl ?_
          refine gEx.istoreL (ls' := fun v26 => [some (.ref 81), some (.int x1), some (.int x2), some (.int (v7 + 1)), some (.int v25), some (.int v26), some (.int v10), some (.int v11)]) rfl rfl (fun _ => rfl) (fun v26 => ?_)
          refine gEx.iload rfl rfl rfl ?_
          refine gEx.iload rfl rfl rfl ?_
          refine gEx.i2l rfl rfl ?_
          refine gEx.lconst rfl rfl ?_
          refine gEx.lconst rfl rfl ?_
          refine gEx.callSi rfl rfl rfl rfl rfl (fun _ h => (t_MO_in (by omega) ) _ h) (fun r4 => ?_)
          refine gEx.if_eq (tn := 104) rfl rfl rfl ?_ ?_
          · refine gEx.iconst rfl rfl ?_
            exact gEx.lab rfl rfl (hJ_105 (v7 + 1) v25 v26 v10 v11 v10 0 r4.2)
          · refine gEx.aload rfl rfl rfl ?_
            refine gEx.getR rfl rfl (h0 0 _ rfl) rfl ?_
            refine gEx.iconst rfl rfl ?_
            refine gEx.iload rfl rfl rfl ?_
            refine gEx.imul rfl rfl ?_
            refine gEx.iload rfl rfl rfl ?_
            refine gEx.iadd rfl rfl ?_
            refine gEx.iconst rfl rfl ?_
            refine gEx.isub rfl rfl ?_
            refine gEx.iald rfl rfl (h0 17 _ rfl) ?_
            refine gEx.goto (tn := 105) rfl rfl rfl ?_
            exact gEx.lab rfl rfl (hJ_105 (v7 + 1) v25 v26 v10 v11 v10 (grd r4.2 98 (((9 * v11) + x2) - 10)) r4.2)
        · exact gEx.lab rfl rfl (hJ_108 v7 v8 v9 v10 v11 m2)
      · exact gEx.lab rfl rfl (hJ_114 v7 v8 v9 v10 v11 m2)
    exact gEx.lab rfl rfl (hL_24 1000 0 0 0 0 0 r2.2)
