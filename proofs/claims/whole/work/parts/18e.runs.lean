/-! ===== the methods' runs follow the pure functions (by program) ===== -/
abbrev gcx_187 : gC := glook (gco_187_0)
set_option maxRecDepth 100000 in
set_option maxHeartbeats 4000000 in
theorem t_MO_howFar {d : Nat} (hd : 1 ≤ d) {sh : gH} {x1 : Int32} {x2 : Int32} (h0 : gHas sh.1 81 gsh_MO) {m : gM} : ∀ x, f_MO_howFar x1 x2 m = some x → gR gmi gdf gcd d 187 [.ref 81, .int x1, .int x2] (sh, m) ((gri x).1, (sh, (gri x).2)) := by
  obtain ⟨d, rfl⟩ : ∃ e, d = e + 1 := ⟨d - 1, by omega⟩
  refine gR_of (mx := 5) (code := gcx_187) rfl rfl (Nat.le_of_ble_eq_true rfl) ?_
  have hJ_52 : ∀ (v1 : Int32) (v2 : Int32), gEx d gcx_187 sh gri 52 [some (.ref 81), none, none, none, none] [.int v2, .int v1] m (J_MO_howFar_52 m v1 v2) := by
    intro v1 v2
    unfold J_MO_howFar_52
    refine gEx.iadd rfl rfl ?_
    exact gEx.reti rfl rfl
  have hJ_39 : ∀ (v3 : Int32) (v4 : Int32) (v5 : Int32), gEx d gcx_187 sh gri 39 [some (.ref 81), some (.int x1), some (.int x2), some (.int v3), some (.int v4)] [.int v5] m (J_MO_howFar_39 m v3 v4 v5) := by
    intro v3 v4 v5
    unfold J_MO_howFar_39
    refine gEx.iload rfl rfl rfl ?_
    refine gEx.if_ge (tn := 50) rfl rfl rfl ?_ ?_
    · refine gEx.iload rfl rfl rfl ?_
      refine gEx.ineg rfl rfl ?_
      refine gEx.goto (tn := 52) rfl rfl rfl ?_
      exact gEx.lab rfl rfl (hJ_52 v5 (-v4))
    · refine gEx.iload rfl rfl rfl ?_
      exact gEx.lab rfl rfl (hJ_52 v5 v4)
  show gEx d gcx_187 sh gri 0 [some (.ref 81), some (.int x1), some (.int x2), none, none] [] m (f_MO_howFar x1 x2 m)
  unfold f_MO_howFar
  refine gEx.iload rfl rfl rfl ?_
  refine gEx.aload rfl rfl rfl ?_
  refine gEx.getI rfl rfl (h0 0 _ rfl) rfl ?_
  refine gEx.irem rfl rfl ?_
  refine gEx.iload rfl rfl rfl ?_
  refine gEx.aload rfl rfl rfl ?_
  refine gEx.getI rfl rfl (h0 0 _ rfl) rfl ?_
  refine gEx.irem rfl rfl ?_
  refine gEx.isub rfl rfl ?_
  refine gEx.istoreL (ls' := fun v6 => [some (.ref 81), some (.int x1), some (.int x2), some (.int v6), none]) rfl rfl (fun _ => rfl) (fun v6 => ?_)
  refine gEx.iload rfl rfl rfl ?_
  refine gEx.aload rfl rfl rfl ?_
  refine gEx.getI rfl rfl (h0 0 _ rfl) rfl ?_
  refine gEx.idiv rfl rfl ?_
  refine gEx.iload rfl rfl rfl ?_
  refine gEx.aload rfl rfl rfl ?_
  refine gEx.getI rfl rfl (h0 0 _ rfl) rfl ?_
  refine gEx.idiv rfl rfl ?_
  refine gEx.isub rfl rfl ?_
  refine gEx.istoreL (ls' := fun v7 => [some (.ref 81), some (.int x1), some (.int x2), some (.int v6), some (.int v7)]) rfl rfl (fun _ => rfl) (fun v7 => ?_)
  refine gEx.iload rfl rfl rfl ?_
  refine gEx.if_ge (tn := 38) rfl rfl rfl ?_ ?_
  · refine gEx.iload rfl rfl rfl ?_
    refine gEx.ineg rfl rfl ?_
    refine gEx.goto (tn := 39) rfl rfl rfl ?_
    exact gEx.lab rfl rfl (hJ_39 v6 v7 (-v6))
  · refine gEx.iload rfl rfl rfl ?_
    exact gEx.lab rfl rfl (hJ_39 v6 v7 v6)
abbrev gcx_188 : gC := glook (gco_188_0)
set_option maxRecDepth 100000 in
set_option maxHeartbeats 4000000 in
theorem t_MO_isExcepted {d : Nat} (hd : 2 ≤ d) {sh : gH} {x1 : Int32} (h0 : gHas sh.1 81 gsh_MO) {m : gM} : ∀ x, f_MO_isExcepted x1 m = some x → gR gmi gdf gcd d 188 [.ref 81, .int x1] (sh, m) ((gri x).1, (sh, (gri x).2)) := by
  obtain ⟨d, rfl⟩ : ∃ e, d = e + 1 := ⟨d - 1, by omega⟩
  refine gR_of (mx := 4) (code := gcx_188) rfl rfl (Nat.le_of_ble_eq_true rfl) ?_
  show gEx d gcx_188 sh gri 0 [some (.ref 81), some (.int x1), none, none] [] m (f_MO_isExcepted x1 m)
  unfold f_MO_isExcepted
  refine gEx.iconst rfl rfl ?_
  refine gEx.istore (ls' := [some (.ref 81), some (.int x1), some (.int 0), none]) rfl rfl rfl ?_
  refine gEx.iconst rfl rfl ?_
  refine gEx.istore (ls' := [some (.ref 81), some (.int x1), some (.int 0), some (.int 0)]) rfl rfl rfl ?_
  have hL_4 : ∀ (n : Nat) (v1 : Int32) (v2 : Int32) (m1 : gM), gEx d gcx_188 sh gri 4 [some (.ref 81), some (.int x1), some (.int v1), some (.int v2)] [] m1 (L_MO_isExcepted_4 x1 n v1 v2 m1) := by
    refine gfix_ind (P := fun (f : Int32 → Int32 → gM → Option (Int32 × gM)) => ∀ (v1 : Int32) (v2 : Int32) (m1 : gM), gEx d gcx_188 sh gri 4 [some (.ref 81), some (.int x1), some (.int v1), some (.int v2)] [] m1 (f v1 v2 m1)) (fun _ _ _ => gEx.none) (fun rec_4 hrec_4 => ?_)
    have hJ_63 : ∀ (v3 : Int32) (v4 : Int32) (v5 : Int32) (m2 : gM), gEx d gcx_188 sh gri 63 [some (.ref 81), some (.int x1), some (.int v3), some (.int v4)] [.int v5] m2 (J_MO_isExcepted_63 rec_4 v3 v4 v5 m2) := by
      intro v3 v4 v5 m2
      unfold J_MO_isExcepted_63
      refine gEx.istore (ls' := [some (.ref 81), some (.int x1), some (.int v5), some (.int v4)]) rfl rfl rfl ?_
      refine gEx.iinc (ls' := [some (.ref 81), some (.int x1), some (.int v5), some (.int (v4 + 1))]) rfl rfl rfl rfl ?_
      refine gEx.goto (tn := 4) rfl rfl rfl ?_
      exact gEx.lab rfl rfl (hrec_4 v5 (v4 + 1) m2)
    have hJ_62 : ∀ (v6 : Int32) (v7 : Int32) (m3 : gM), gEx d gcx_188 sh gri 62 [some (.ref 81), some (.int x1), some (.int v6), some (.int v7)] [] m3 (J_MO_isExcepted_62 rec_4 v6 v7 m3) := by
      intro v6 v7 m3
      unfold J_MO_isExcepted_62
      refine gEx.iconst rfl rfl ?_
      exact gEx.lab rfl rfl (hJ_63 v6 v7 0 m3)
    have hJ_58 : ∀ (v8 : Int32) (v9 : Int32) (m4 : gM), gEx d gcx_188 sh gri 58 [some (.ref 81), some (.int x1), some (.int v8), some (.int v9)] [] m4 (J_MO_isExcepted_58 rec_4 v8 v9 m4) := by
      intro v8 v9 m4
      unfold J_MO_isExcepted_58
      refine gEx.iconst rfl rfl ?_
      refine gEx.goto (tn := 63) rfl rfl rfl ?_
      exact gEx.lab rfl rfl (hJ_63 v8 v9 1 m4)
    intro v1 v2 m1
    refine gEx.iload rfl rfl rfl ?_
    refine gEx.aload rfl rfl rfl ?_
    refine gEx.getI rfl rfl (h0 0 _ rfl) rfl ?_
    refine gEx.icmp_ge (tn := 70) rfl rfl rfl ?_ ?_
    · refine gEx.iload rfl rfl rfl ?_
      refine gEx.if_ne (tn := 58) rfl rfl rfl ?_ ?_
      · refine gEx.aload rfl rfl rfl ?_
        refine gEx.getR rfl rfl (h0 0 _ rfl) rfl ?_
        refine gEx.iload rfl rfl rfl ?_
        refine gEx.iald rfl rfl (h0 35 _ rfl) ?_
        refine gEx.iconst rfl rfl ?_
        refine gEx.icmp_ne (tn := 62) rfl rfl rfl ?_ ?_
        · refine gEx.aload rfl rfl rfl ?_
          refine gEx.getR rfl rfl (h0 0 _ rfl) rfl ?_
          refine gEx.iload rfl rfl rfl ?_
          refine gEx.iald rfl rfl (h0 38 _ rfl) ?_
          refine gEx.if_ne (tn := 62) rfl rfl rfl ?_ ?_
          · refine gEx.aload rfl rfl rfl ?_
            refine gEx.getR rfl rfl (h0 0 _ rfl) rfl ?_
            refine gEx.iload rfl rfl rfl ?_
            refine gEx.iald rfl rfl (h0 37 _ rfl) ?_
            refine gEx.iload rfl rfl rfl ?_
            refine gEx.icmp_ne (tn := 62) rfl rfl rfl ?_ ?_
            · refine gEx.aload rfl rfl rfl ?_
              refine gEx.getR rfl rfl (h0 0 _ rfl) rfl ?_
              refine gEx.iload rfl rfl rfl ?_
              refine gEx.iald rfl rfl (h0 36 _ rfl) ?_
              refine gEx.aload rfl rfl rfl ?_
              refine gEx.callVi rfl rfl rfl rfl (h0 0 _ rfl) rfl (fun _ h => (t_MO_shift (by omega) h0) _ h) (fun r1 => ?_)
              refine gEx.icmp_gt (tn := 62) rfl rfl rfl ?_ ?_
              · exact gEx.lab rfl rfl (hJ_62 v1 v2 r1.2)
              · exact gEx.lab rfl rfl (hJ_58 v1 v2 r1.2)
            · exact gEx.lab rfl rfl (hJ_62 v1 v2 m1)
          · exact gEx.lab rfl rfl (hJ_62 v1 v2 m1)
        · exact gEx.lab rfl rfl (hJ_62 v1 v2 m1)
      · exact gEx.lab rfl rfl (hJ_58 v1 v2 m1)
    · refine gEx.iload rfl rfl rfl ?_
      exact gEx.retz rfl rfl
  exact gEx.lab rfl rfl (hL_4 1000 0 0 m)
abbrev gcx_189 : gC := glook (gco_189_0 ++ (gco_189_1))
set_option maxRecDepth 100000 in
set_option maxHeartbeats 4000000 in
theorem t_MO_whyNot {d : Nat} (hd : 3 ≤ d) {sh : gH} {x1 : Int32} {x2 : Int32} {x3 : Int32} {x4 : Int32} (h0 : gHas sh.1 81 gsh_MO) {m : gM} : ∀ x, f_MO_whyNot x1 x2 x3 x4 m = some x → gR gmi gdf gcd d 189 [.ref 81, .int x1, .int x2, .int x3, .int x4] (sh, m) ((gri x).1, (sh, (gri x).2)) := by
  obtain ⟨d, rfl⟩ : ∃ e, d = e + 1 := ⟨d - 1, by omega⟩
  refine gR_of (mx := 6) (code := gcx_189) rfl rfl (Nat.le_of_ble_eq_true rfl) ?_
  have hJ_84 : ∀ (v1 : Int32) (m1 : gM), gEx d gcx_189 sh gri 84 [some (.ref 81), some (.int x1), some (.int x2), some (.int x3), some (.int x4), some (.int v1)] [] m1 (J_MO_whyNot_84 x2 x4 v1 m1) := by
    intro v1 m1
    unfold J_MO_whyNot_84
    refine gEx.iconst rfl rfl ?_
    refine gEx.istore (ls' := [some (.ref 81), some (.int x1), some (.int x2), some (.int x3), some (.int x4), some (.int 0)]) rfl rfl rfl ?_
    have hL_87 : ∀ (n : Nat) (v2 : Int32) (m2 : gM), gEx d gcx_189 sh gri 87 [some (.ref 81), some (.int x1), some (.int x2), some (.int x3), some (.int x4), some (.int v2)] [] m2 (L_MO_whyNot_87 x2 x4 n v2 m2) := by
      refine gfix_ind (P := fun (f : Int32 → gM → Option (Int32 × gM)) => ∀ (v2 : Int32) (m2 : gM), gEx d gcx_189 sh gri 87 [some (.ref 81), some (.int x1), some (.int x2), some (.int x3), some (.int x4), some (.int v2)] [] m2 (f v2 m2)) (fun _ _ => gEx.none) (fun rec_87 hrec_87 => ?_)
      intro v2 m2
      refine gEx.iload rfl rfl rfl ?_
      refine gEx.aload rfl rfl rfl ?_
      refine gEx.getI rfl rfl (h0 0 _ rfl) rfl ?_
      refine gEx.icmp_ge (tn := 121) rfl rfl rfl ?_ ?_
      · refine gEx.aload rfl rfl rfl ?_
        refine gEx.iload rfl rfl rfl ?_
        refine gEx.aload rfl rfl rfl ?_
        refine gEx.getR rfl rfl (h0 0 _ rfl) rfl ?_
        refine gEx.iload rfl rfl rfl ?_
        refine gEx.iald rfl rfl (h0 12 _ rfl) ?_
        refine gEx.callVi rfl rfl rfl rfl (h0 0 _ rfl) rfl (fun _ h => (t_MO_howFar (by omega) h0) _ h) (fun r1 => ?_)
        refine gEx.iload rfl rfl rfl ?_
        refine gEx.icmp_ge (tn := 115) rfl rfl rfl ?_ ?_
        · refine gEx.iconst rfl rfl ?_
          exact gEx.reti rfl rfl
        · refine gEx.iinc (ls' := [some (.ref 81), some (.int x1), some (.int x2), some (.int x3), some (.int x4), some (.int (v2 + 1))]) rfl rfl rfl rfl ?_
          refine gEx.goto (tn := 87) rfl rfl rfl ?_
          exact gEx.lab rfl rfl (hrec_87 (v2 + 1) r1.2)
      · refine gEx.iconst rfl rfl ?_
        exact gEx.reti rfl rfl
    exact gEx.lab rfl rfl (hL_87 1000 0 m1)
  show gEx d gcx_189 sh gri 0 [some (.ref 81), some (.int x1), some (.int x2), some (.int x3), some (.int x4), none] [] m (f_MO_whyNot x1 x2 x3 x4 m)
  unfold f_MO_whyNot
  refine gEx.aload rfl rfl rfl ?_
  refine gEx.getR rfl rfl (h0 0 _ rfl) rfl ?_
  refine gEx.iload rfl rfl rfl ?_
  refine gEx.iald rfl rfl (h0 4 _ rfl) ?_
  refine gEx.iconst rfl rfl ?_
  refine gEx.icmp_eq (tn := 25) rfl rfl rfl ?_ ?_
  · refine gEx.lab (ls' := [some (.ref 81), none, none, none, none, none]) rfl rfl ?_
    refine gEx.iconst rfl rfl ?_
    exact gEx.reti rfl rfl
  · refine gEx.aload rfl rfl rfl ?_
    refine gEx.aload rfl rfl rfl ?_
    refine gEx.getR rfl rfl (h0 0 _ rfl) rfl ?_
    refine gEx.iload rfl rfl rfl ?_
    refine gEx.iald rfl rfl (h0 4 _ rfl) ?_
    refine gEx.callVi rfl rfl rfl rfl (h0 0 _ rfl) rfl (fun _ h => (t_MO_holderOf (by omega) h0) _ h) (fun r2 => ?_)
    refine gEx.iload rfl rfl rfl ?_
    refine gEx.icmp_eq (tn := 27) rfl rfl rfl ?_ ?_
    · refine gEx.aload rfl rfl rfl ?_
      refine gEx.iload rfl rfl rfl ?_
      refine gEx.callVi rfl rfl rfl rfl (h0 0 _ rfl) rfl (fun _ h => (t_MO_isExcepted (by omega) h0) _ h) (fun r3 => ?_)
      refine gEx.if_eq (tn := 37) rfl rfl rfl ?_ ?_
      · refine gEx.iconst rfl rfl ?_
        refine gEx.istore (ls' := [some (.ref 81), some (.int x1), some (.int x2), some (.int x3), some (.int x4), some (.int 0)]) rfl rfl rfl ?_
        have hL_40 : ∀ (n : Nat) (v3 : Int32) (m3 : gM), gEx d gcx_189 sh gri 40 [some (.ref 81), some (.int x1), some (.int x2), some (.int x3), some (.int x4), some (.int v3)] [] m3 (L_MO_whyNot_40 x2 x3 (fun v3 m3 => J_MO_whyNot_84 x2 x4 v3 m3) n v3 m3) := by
          refine gfix_ind (P := fun (f : Int32 → gM → Option (Int32 × gM)) => ∀ (v3 : Int32) (m3 : gM), gEx d gcx_189 sh gri 40 [some (.ref 81), some (.int x1), some (.int x2), some (.int x3), some (.int x4), some (.int v3)] [] m3 (f v3 m3)) (fun _ _ => gEx.none) (fun rec_40 hrec_40 => ?_)
          have hJ_78 : ∀ (v4 : Int32) (m4 : gM), gEx d gcx_189 sh gri 78 [some (.ref 81), some (.int x1), some (.int x2), some (.int x3), some (.int x4), some (.int v4)] [] m4 (J_MO_whyNot_78 rec_40 v4 m4) := by
            intro v4 m4
            unfold J_MO_whyNot_78
            refine gEx.iinc (ls' := [some (.ref 81), some (.int x1), some (.int x2), some (.int x3), some (.int x4), some (.int (v4 + 1))]) rfl rfl rfl rfl ?_
            refine gEx.goto (tn := 40) rfl rfl rfl ?_
            exact gEx.lab rfl rfl (hrec_40 (v4 + 1) m4)
          intro v3 m3
          refine gEx.iload rfl rfl rfl ?_
          refine gEx.aload rfl rfl rfl ?_
          refine gEx.callVi rfl rfl rfl rfl (h0 0 _ rfl) rfl (fun _ h => (t_MO_cells (by omega) h0) _ h) (fun r4 => ?_)
          refine gEx.icmp_ge (tn := 84) rfl rfl rfl ?_ ?_
          · refine gEx.aload rfl rfl rfl ?_
            refine gEx.getR rfl rfl (h0 0 _ rfl) rfl ?_
            refine gEx.iload rfl rfl rfl ?_
            refine gEx.iald rfl rfl (h0 4 _ rfl) ?_
            refine gEx.aload rfl rfl rfl ?_
            refine gEx.getR rfl rfl (h0 0 _ rfl) rfl ?_
            refine gEx.iload rfl rfl rfl ?_
            refine gEx.iald rfl rfl (h0 4 _ rfl) ?_
            refine gEx.icmp_eq (tn := 78) rfl rfl rfl ?_ ?_
            · exact gEx.lab rfl rfl (hJ_78 v3 r4.2)
            · refine gEx.aload rfl rfl rfl ?_
              refine gEx.iload rfl rfl rfl ?_
              refine gEx.iload rfl rfl rfl ?_
              refine gEx.callVi rfl rfl rfl rfl (h0 0 _ rfl) rfl (fun _ h => (t_MO_howFar (by omega) h0) _ h) (fun r5 => ?_)
              refine gEx.iload rfl rfl rfl ?_
              refine gEx.icmp_ge (tn := 78) rfl rfl rfl ?_ ?_
              · refine gEx.iconst rfl rfl ?_
                exact gEx.reti rfl rfl
              · exact gEx.lab rfl rfl (hJ_78 v3 r5.2)
          · exact gEx.lab rfl rfl (hJ_84 v3 r4.2)
        exact gEx.lab rfl rfl (hL_40 1000 0 r3.2)
      · refine gEx.iconst rfl rfl ?_
        exact gEx.reti rfl rfl
    · refine gEx.lab (ls' := [some (.ref 81), none, none, none, none, none]) rfl rfl ?_
      refine gEx.iconst rfl rfl ?_
      exact gEx.reti rfl rfl
abbrev gcx_190 : gC := glook (gco_190_0)
set_option maxRecDepth 100000 in
set_option maxHeartbeats 4000000 in
theorem t_MO_whyNow {d : Nat} (hd : 4 ≤ d) {sh : gH} {x1 : Int32} {x2 : Int32} (h0 : gHas sh.1 81 gsh_MO) {m : gM} : ∀ x, f_MO_whyNow x1 x2 m = some x → gR gmi gdf gcd d 190 [.ref 81, .int x1, .int x2] (sh, m) ((gri x).1, (sh, (gri x).2)) := by
  obtain ⟨d, rfl⟩ : ∃ e, d = e + 1 := ⟨d - 1, by omega⟩
  refine gR_of (mx := 5) (code := gcx_190) rfl rfl (Nat.le_of_ble_eq_true rfl) ?_
  have hJ_58 : ∀ (v1 : Int32) (v2 : Int32) (v3 : Int32) (v4 : Int32) (m1 : gM), gEx d gcx_190 sh gri 58 [some (.ref 81), none, none, none, none] [.int v4, .int v3, .int v2, .int v1, .ref 81] m1 (J_MO_whyNow_58 v1 v2 v3 v4 m1) := by
    intro v1 v2 v3 v4 m1
    unfold J_MO_whyNow_58
    refine gEx.callVi rfl rfl rfl rfl (h0 0 _ rfl) rfl (fun _ h => (t_MO_whyNot (by omega) h0) _ h) (fun r1 => ?_)
    exact gEx.reti rfl rfl
  have hJ_40 : ∀ (v5 : Int32) (v6 : Int32) (v7 : Int32) (v8 : Int32) (v9 : Int32) (m2 : gM), gEx d gcx_190 sh gri 40 [some (.ref 81), some (.int x1), some (.int x2), some (.int v5), some (.int v6)] [.int v9, .int v8, .int v7, .ref 81] m2 (J_MO_whyNow_40 v5 v6 v7 v8 v9 m2) := by
    intro v5 v6 v7 v8 v9 m2
    unfold J_MO_whyNow_40
    refine gEx.iload rfl rfl rfl ?_
    refine gEx.iconst rfl rfl ?_
    refine gEx.icmp_ne (tn := 51) rfl rfl rfl ?_ ?_
    · refine gEx.iconst rfl rfl ?_
      refine gEx.goto (tn := 58) rfl rfl rfl ?_
      exact gEx.lab rfl rfl (hJ_58 v7 v8 v9 0 m2)
    · refine gEx.aload rfl rfl rfl ?_
      refine gEx.getR rfl rfl (h0 0 _ rfl) rfl ?_
      refine gEx.iload rfl rfl rfl ?_
      refine gEx.iald rfl rfl (h0 37 _ rfl) ?_
      exact gEx.lab rfl rfl (hJ_58 v7 v8 v9 (grd m2 118 v6) m2)
  show gEx d gcx_190 sh gri 0 [some (.ref 81), some (.int x1), some (.int x2), none, none] [] m (f_MO_whyNow x1 x2 m)
  unfold f_MO_whyNow
  refine gEx.aload rfl rfl rfl ?_
  refine gEx.iconst rfl rfl ?_
  refine gEx.aload rfl rfl rfl ?_
  refine gEx.callVi rfl rfl rfl rfl (h0 0 _ rfl) rfl (fun _ h => (t_MO_shift (by omega) h0) _ h) (fun r2 => ?_)
  refine gEx.callVi rfl rfl rfl rfl (h0 0 _ rfl) rfl (fun _ h => (t_MO_lineAt (by omega) h0) _ h) (fun r3 => ?_)
  refine gEx.istore (ls' := [some (.ref 81), some (.int x1), some (.int x2), some (.int r3.1), none]) rfl rfl rfl ?_
  refine gEx.aload rfl rfl rfl ?_
  refine gEx.iconst rfl rfl ?_
  refine gEx.aload rfl rfl rfl ?_
  refine gEx.callVi rfl rfl rfl rfl (h0 0 _ rfl) rfl (fun _ h => (t_MO_shift (by omega) h0) _ h) (fun r4 => ?_)
  refine gEx.callVi rfl rfl rfl rfl (h0 0 _ rfl) rfl (fun _ h => (t_MO_lineAt (by omega) h0) _ h) (fun r5 => ?_)
  refine gEx.istore (ls' := [some (.ref 81), some (.int x1), some (.int x2), some (.int r3.1), some (.int r5.1)]) rfl rfl rfl ?_
  refine gEx.aload rfl rfl rfl ?_
  refine gEx.iload rfl rfl rfl ?_
  refine gEx.iload rfl rfl rfl ?_
  refine gEx.iload rfl rfl rfl ?_
  refine gEx.iconst rfl rfl ?_
  refine gEx.icmp_ne (tn := 34) rfl rfl rfl ?_ ?_
  · refine gEx.iconst rfl rfl ?_
    refine gEx.goto (tn := 40) rfl rfl rfl ?_
    exact gEx.lab rfl rfl (hJ_40 r3.1 r5.1 x1 x2 0 r5.2)
  · refine gEx.aload rfl rfl rfl ?_
    refine gEx.getR rfl rfl (h0 0 _ rfl) rfl ?_
    refine gEx.iload rfl rfl rfl ?_
    refine gEx.iald rfl rfl (h0 37 _ rfl) ?_
    exact gEx.lab rfl rfl (hJ_40 r3.1 r5.1 x1 x2 (grd r5.2 118 r3.1) r5.2)
abbrev gcx_191 : gC := glook (gco_191_0 ++ (gco_191_1))
set_option maxRecDepth 100000 in
set_option maxHeartbeats 4000000 in
theorem t_MO_addWell {d : Nat} (hd : 1 ≤ d) {sh : gH} {x1 : Int32} {x2 : Int32} {x3 : Int32} (h0 : gHas sh.1 81 gsh_MO) {m : gM} : ∀ x, f_MO_addWell x1 x2 x3 m = some x → gR gmi gdf gcd d 191 [.ref 81, .int x1, .int x2, .int x3] (sh, m) ((grv x).1, (sh, (grv x).2)) := by
  obtain ⟨d, rfl⟩ : ∃ e, d = e + 1 := ⟨d - 1, by omega⟩
  refine gR_of (mx := 6) (code := gcx_191) rfl rfl (Nat.le_of_ble_eq_true rfl) ?_
  have hJ_114 : ∀ (v1 : Int32) (v2 : Int32) (m1 : gM), gEx d gcx_191 sh grv 114 [some (.ref 81), some (.int x1), some (.int x2), some (.int x3), some (.int v1), some (.int v2)] [] m1 (J_MO_addWell_114 v1 v2 m1) := by
    intro v1 v2 m1
    unfold J_MO_addWell_114
    refine gEx.aload rfl rfl rfl ?_
    refine gEx.dupR rfl rfl ?_
    refine gEx.getI rfl rfl (h0 0 _ rfl) rfl ?_
    refine gEx.iconst rfl rfl ?_
    refine gEx.iadd rfl rfl ?_
    refine gEx.putI rfl rfl (h0 0 _ rfl) rfl rfl rfl (fun m2 => ?_)
    exact gEx.retv rfl rfl
  have hJ_84 : ∀ (v3 : Int32) (v4 : Int32) (m3 : gM), gEx d gcx_191 sh grv 84 [some (.ref 81), some (.int x1), some (.int x2), some (.int x3), some (.int v3), some (.int v4)] [] m3 (J_MO_addWell_84 v3 v4 m3) := by
    intro v3 v4 m3
    unfold J_MO_addWell_84
    refine gEx.iconst rfl rfl ?_
    refine gEx.istore (ls' := [some (.ref 81), some (.int x1), some (.int x2), some (.int x3), some (.int v3), some (.int 0)]) rfl rfl rfl ?_
    have hL_87 : ∀ (n : Nat) (v5 : Int32) (m4 : gM), gEx d gcx_191 sh grv 87 [some (.ref 81), some (.int x1), some (.int x2), some (.int x3), some (.int v3), some (.int v5)] [] m4 (L_MO_addWell_87 v3 (fun v5 m4 => J_MO_addWell_114 v3 v5 m4) n v5 m4) := by
      refine gfix_ind (P := fun (f : Int32 → gM → Option (gM)) => ∀ (v5 : Int32) (m4 : gM), gEx d gcx_191 sh grv 87 [some (.ref 81), some (.int x1), some (.int x2), some (.int x3), some (.int v3), some (.int v5)] [] m4 (f v5 m4)) (fun _ _ => gEx.none) (fun rec_87 hrec_87 => ?_)
      intro v5 m4
      refine gEx.iload rfl rfl rfl ?_
      refine gEx.iconst rfl rfl ?_
      refine gEx.icmp_ge (tn := 114) rfl rfl rfl ?_ ?_
      · refine gEx.aload rfl rfl rfl ?_
        refine gEx.getR rfl rfl (h0 0 _ rfl) rfl ?_
        refine gEx.iconst rfl rfl ?_
        refine gEx.iload rfl rfl rfl ?_
        refine gEx.imul rfl rfl ?_
        refine gEx.iload rfl rfl rfl ?_
        refine gEx.iadd rfl rfl ?_
        refine gEx.iconst rfl rfl ?_
        refine gEx.iast rfl rfl (h0 18 _ rfl) (fun m5 => ?_)
        refine gEx.iinc (ls' := [some (.ref 81), some (.int x1), some (.int x2), some (.int x3), some (.int v3), some (.int (v5 + 1))]) rfl rfl rfl rfl ?_
        refine gEx.goto (tn := 87) rfl rfl rfl ?_
        exact gEx.lab rfl rfl (hrec_87 (v5 + 1) m5)
      · exact gEx.lab rfl rfl (hJ_114 v3 v5 m4)
    exact gEx.lab rfl rfl (hL_87 1000 0 m3)
  show gEx d gcx_191 sh grv 0 [some (.ref 81), some (.int x1), some (.int x2), some (.int x3), none, none] [] m (f_MO_addWell x1 x2 x3 m)
  unfold f_MO_addWell
  refine gEx.aload rfl rfl rfl ?_
  refine gEx.getI rfl rfl (h0 0 _ rfl) rfl ?_
  refine gEx.istoreL (ls' := fun v6 => [some (.ref 81), some (.int x1), some (.int x2), some (.int x3), some (.int v6), none]) rfl rfl (fun _ => rfl) (fun v6 => ?_)
  refine gEx.aload rfl rfl rfl ?_
  refine gEx.getR rfl rfl (h0 0 _ rfl) rfl ?_
  refine gEx.iload rfl rfl rfl ?_
  refine gEx.iload rfl rfl rfl ?_
  refine gEx.iast rfl rfl (h0 11 _ rfl) (fun m6 => ?_)
  refine gEx.aload rfl rfl rfl ?_
  refine gEx.getR rfl rfl (h0 0 _ rfl) rfl ?_
  refine gEx.iload rfl rfl rfl ?_
  refine gEx.iload rfl rfl rfl ?_
  refine gEx.iast rfl rfl (h0 12 _ rfl) (fun m7 => ?_)
  refine gEx.aload rfl rfl rfl ?_
  refine gEx.getR rfl rfl (h0 0 _ rfl) rfl ?_
  refine gEx.iload rfl rfl rfl ?_
  refine gEx.iload rfl rfl rfl ?_
  refine gEx.iast rfl rfl (h0 13 _ rfl) (fun m8 => ?_)
  refine gEx.aload rfl rfl rfl ?_
  refine gEx.getR rfl rfl (h0 0 _ rfl) rfl ?_
  refine gEx.iload rfl rfl rfl ?_
  refine gEx.iconst rfl rfl ?_
  refine gEx.iast rfl rfl (h0 14 _ rfl) (fun m9 => ?_)
  refine gEx.aload rfl rfl rfl ?_
  refine gEx.getR rfl rfl (h0 0 _ rfl) rfl ?_
  refine gEx.iload rfl rfl rfl ?_
  refine gEx.iconst rfl rfl ?_
  refine gEx.iast rfl rfl (h0 15 _ rfl) (fun m10 => ?_)
  refine gEx.aload rfl rfl rfl ?_
  refine gEx.getR rfl rfl (h0 0 _ rfl) rfl ?_
  refine gEx.iload rfl rfl rfl ?_
  refine gEx.iconst rfl rfl ?_
  refine gEx.iast rfl rfl (h0 16 _ rfl) (fun m11 => ?_)
  refine gEx.iconst rfl rfl ?_
  refine gEx.istore (ls' := [some (.ref 81), some (.int x1), some (.int x2), some (.int x3), some (.int v6), some (.int 0)]) rfl rfl rfl ?_
  have hL_57 : ∀ (n : Nat) (v7 : Int32) (m12 : gM), gEx d gcx_191 sh grv 57 [some (.ref 81), some (.int x1), some (.int x2), some (.int x3), some (.int v6), some (.int v7)] [] m12 (L_MO_addWell_57 v6 (fun v7 m12 => J_MO_addWell_84 v6 v7 m12) n v7 m12) := by
    refine gfix_ind (P := fun (f : Int32 → gM → Option (gM)) => ∀ (v7 : Int32) (m12 : gM), gEx d gcx_191 sh grv 57 [some (.ref 81), some (.int x1), some (.int x2), some (.int x3), some (.int v6), some (.int v7)] [] m12 (f v7 m12)) (fun _ _ => gEx.none) (fun rec_57 hrec_57 => ?_)
    intro v7 m12
    refine gEx.iload rfl rfl rfl ?_
    refine gEx.iconst rfl rfl ?_
    refine gEx.icmp_ge (tn := 84) rfl rfl rfl ?_ ?_
    · refine gEx.aload rfl rfl rfl ?_
      refine gEx.getR rfl rfl (h0 0 _ rfl) rfl ?_
      refine gEx.iconst rfl rfl ?_
      refine gEx.iload rfl rfl rfl ?_
      refine gEx.imul rfl rfl ?_
      refine gEx.iload rfl rfl rfl ?_
      refine gEx.iadd rfl rfl ?_
      refine gEx.iconst rfl rfl ?_
      refine gEx.iast rfl rfl (h0 17 _ rfl) (fun m13 => ?_)
      refine gEx.iinc (ls' := [some (.ref 81), some (.int x1), some (.int x2), some (.int x3), some (.int v6), some (.int (v7 + 1))]) rfl rfl rfl rfl ?_
      refine gEx.goto (tn := 57) rfl rfl rfl ?_
      exact gEx.lab rfl rfl (hrec_57 (v7 + 1) m13)
    · exact gEx.lab rfl rfl (hJ_84 v6 v7 m12)
  exact gEx.lab rfl rfl (hL_57 1000 0 m11)
abbrev gcx_192 : gC := glook (gco_192_0)
set_option maxRecDepth 100000 in
set_option maxHeartbeats 4000000 in
theorem t_MO_drill {d : Nat} (hd : 5 ≤ d) {sh : gH} {x1 : Int32} {x2 : Int32} {x3 : Int32} (h0 : gHas sh.1 81 gsh_MO) {m : gM} : ∀ x, f_MO_drill x1 x2 x3 m = some x → gR gmi gdf gcd d 192 [.ref 81, .int x1, .int x2, .int x3] (sh, m) ((gri x).1, (sh, (gri x).2)) := by
  obtain ⟨d, rfl⟩ : ∃ e, d = e + 1 := ⟨d - 1, by omega⟩
  refine gR_of (mx := 4) (code := gcx_192) rfl rfl (Nat.le_of_ble_eq_true rfl) ?_
  show gEx d gcx_192 sh gri 0 [some (.ref 81), some (.int x1), some (.int x2), some (.int x3)] [] m (f_MO_drill x1 x2 x3 m)
  unfold f_MO_drill
  refine gEx.aload rfl rfl rfl ?_
  refine gEx.iload rfl rfl rfl ?_
  refine gEx.callVi rfl rfl rfl rfl (h0 0 _ rfl) rfl (fun _ h => (t_MO_isPerson (by omega) h0) _ h) (fun r1 => ?_)
  refine gEx.if_eq (tn := 28) rfl rfl rfl ?_ ?_
  · refine gEx.lab (ls' := [some (.ref 81), none, none, none]) rfl rfl ?_
    refine gEx.iconst rfl rfl ?_
    exact gEx.reti rfl rfl
  · refine gEx.aload rfl rfl rfl ?_
    refine gEx.iload rfl rfl rfl ?_
    refine gEx.callVi rfl rfl rfl rfl (h0 0 _ rfl) rfl (fun _ h => (t_MO_isCell (by omega) h0) _ h) (fun r2 => ?_)
    refine gEx.if_eq (tn := 28) rfl rfl rfl ?_ ?_
    · refine gEx.lab (ls' := [some (.ref 81), none, none, none]) rfl rfl ?_
      refine gEx.iconst rfl rfl ?_
      exact gEx.reti rfl rfl
    · refine gEx.iload rfl rfl rfl ?_
      refine gEx.i2l rfl rfl ?_
      refine gEx.lconst rfl rfl ?_
      refine gEx.lconst rfl rfl ?_
      refine gEx.callSi rfl rfl rfl rfl rfl (fun _ h => (t_MO_in (by omega) ) _ h) (fun r3 => ?_)
      refine gEx.if_ne (tn := 30) rfl rfl rfl ?_ ?_
      · refine gEx.lab (ls' := [some (.ref 81), none, none, none]) rfl rfl ?_
        refine gEx.iconst rfl rfl ?_
        exact gEx.reti rfl rfl
      · refine gEx.aload rfl rfl rfl ?_
        refine gEx.iload rfl rfl rfl ?_
        refine gEx.iload rfl rfl rfl ?_
        refine gEx.callVi rfl rfl rfl rfl (h0 0 _ rfl) rfl (fun _ h => (t_MO_whyNow (by omega) h0) _ h) (fun r4 => ?_)
        refine gEx.if_le (tn := 42) rfl rfl rfl ?_ ?_
        · refine gEx.iconst rfl rfl ?_
          exact gEx.reti rfl rfl
        · refine gEx.aload rfl rfl rfl ?_
          refine gEx.getI rfl rfl (h0 0 _ rfl) rfl ?_
          refine gEx.iconst rfl rfl ?_
          refine gEx.icmp_ne (tn := 54) rfl rfl rfl ?_ ?_
          · refine gEx.iconst rfl rfl ?_
            exact gEx.reti rfl rfl
          · refine gEx.aload rfl rfl rfl ?_
            refine gEx.iload rfl rfl rfl ?_
            refine gEx.iload rfl rfl rfl ?_
            refine gEx.iload rfl rfl rfl ?_
            refine gEx.callVv rfl rfl rfl rfl (h0 0 _ rfl) rfl (fun _ h => (t_MO_addWell (by omega) h0) _ h) (fun r5 => ?_)
            refine gEx.aload rfl rfl rfl ?_
            refine gEx.getI rfl rfl (h0 0 _ rfl) rfl ?_
            refine gEx.iconst rfl rfl ?_
            refine gEx.isub rfl rfl ?_
            exact gEx.reti rfl rfl
abbrev gcx_193 : gC := glook (gco_193_0)
set_option maxRecDepth 100000 in
set_option maxHeartbeats 4000000 in
theorem t_MO_why {d : Nat} (hd : 5 ≤ d) {sh : gH} {x1 : Int32} {x2 : Int32} (h0 : gHas sh.1 81 gsh_MO) {m : gM} : ∀ x, f_MO_why x1 x2 m = some x → gR gmi gdf gcd d 193 [.ref 81, .int x1, .int x2] (sh, m) ((gri x).1, (sh, (gri x).2)) := by
  obtain ⟨d, rfl⟩ : ∃ e, d = e + 1 := ⟨d - 1, by omega⟩
  refine gR_of (mx := 3) (code := gcx_193) rfl rfl (Nat.le_of_ble_eq_true rfl) ?_
  show gEx d gcx_193 sh gri 0 [some (.ref 81), some (.int x1), some (.int x2)] [] m (f_MO_why x1 x2 m)
  unfold f_MO_why
  refine gEx.aload rfl rfl rfl ?_
  refine gEx.iload rfl rfl rfl ?_
  refine gEx.callVi rfl rfl rfl rfl (h0 0 _ rfl) rfl (fun _ h => (t_MO_isPerson (by omega) h0) _ h) (fun r1 => ?_)
  refine gEx.if_eq (tn := 25) rfl rfl rfl ?_ ?_
  · refine gEx.lab (ls' := [some (.ref 81), none, none]) rfl rfl ?_
    refine gEx.iconst rfl rfl ?_
    refine gEx.lab (ls' := [some (.ref 81), none, none]) rfl rfl ?_
    exact gEx.reti rfl rfl
  · refine gEx.aload rfl rfl rfl ?_
    refine gEx.iload rfl rfl rfl ?_
    refine gEx.callVi rfl rfl rfl rfl (h0 0 _ rfl) rfl (fun _ h => (t_MO_isCell (by omega) h0) _ h) (fun r2 => ?_)
    refine gEx.if_eq (tn := 25) rfl rfl rfl ?_ ?_
    · refine gEx.lab (ls' := [some (.ref 81), none, none]) rfl rfl ?_
      refine gEx.iconst rfl rfl ?_
      refine gEx.lab (ls' := [some (.ref 81), none, none]) rfl rfl ?_
      exact gEx.reti rfl rfl
    · refine gEx.aload rfl rfl rfl ?_
      refine gEx.iload rfl rfl rfl ?_
      refine gEx.iload rfl rfl rfl ?_
      refine gEx.callVi rfl rfl rfl rfl (h0 0 _ rfl) rfl (fun _ h => (t_MO_whyNow (by omega) h0) _ h) (fun r3 => ?_)
      refine gEx.goto (tn := 26) rfl rfl rfl ?_
      refine gEx.lab (ls' := [some (.ref 81), none, none]) rfl rfl ?_
      exact gEx.reti rfl rfl
abbrev gcx_194 : gC := glook (gco_194_0)
set_option maxRecDepth 100000 in
set_option maxHeartbeats 4000000 in
theorem t_MO_will {d : Nat} (hd : 3 ≤ d) {sh : gH} {x1 : Int32} {x2 : Int32} (h0 : gHas sh.1 81 gsh_MO) {m : gM} : ∀ x, f_MO_will x1 x2 m = some x → gR gmi gdf gcd d 194 [.ref 81, .int x1, .int x2] (sh, m) ((gri x).1, (sh, (gri x).2)) := by
  obtain ⟨d, rfl⟩ : ∃ e, d = e + 1 := ⟨d - 1, by omega⟩
  refine gR_of (mx := 4) (code := gcx_194) rfl rfl (Nat.le_of_ble_eq_true rfl) ?_
  show gEx d gcx_194 sh gri 0 [some (.ref 81), some (.int x1), some (.int x2), none] [] m (f_MO_will x1 x2 m)
  unfold f_MO_will
  refine gEx.aload rfl rfl rfl ?_
  refine gEx.iload rfl rfl rfl ?_
  refine gEx.callVi rfl rfl rfl rfl (h0 0 _ rfl) rfl (fun _ h => (t_MO_isWell (by omega) h0) _ h) (fun r1 => ?_)
  refine gEx.if_eq (tn := 20) rfl rfl rfl ?_ ?_
  · refine gEx.lab (ls' := [some (.ref 81), none, none, none]) rfl rfl ?_
    refine gEx.iconst rfl rfl ?_
    exact gEx.reti rfl rfl
  · refine gEx.iload rfl rfl rfl ?_
    refine gEx.i2l rfl rfl ?_
    refine gEx.lconst rfl rfl ?_
    refine gEx.lconst rfl rfl ?_
    refine gEx.callSi rfl rfl rfl rfl rfl (fun _ h => (t_MO_in (by omega) ) _ h) (fun r2 => ?_)
    refine gEx.if_ne (tn := 22) rfl rfl rfl ?_ ?_
    · refine gEx.lab (ls' := [some (.ref 81), none, none, none]) rfl rfl ?_
      refine gEx.iconst rfl rfl ?_
      exact gEx.reti rfl rfl
    · refine gEx.aload rfl rfl rfl ?_
      refine gEx.getR rfl rfl (h0 0 _ rfl) rfl ?_
      refine gEx.iload rfl rfl rfl ?_
      refine gEx.iald rfl rfl (h0 13 _ rfl) ?_
      refine gEx.istoreL (ls' := fun v1 => [some (.ref 81), some (.int x1), some (.int x2), some (.int v1)]) rfl rfl (fun _ => rfl) (fun v1 => ?_)
      refine gEx.aload rfl rfl rfl ?_
      refine gEx.getR rfl rfl (h0 0 _ rfl) rfl ?_
      refine gEx.iload rfl rfl rfl ?_
      refine gEx.iload rfl rfl rfl ?_
      refine gEx.iast rfl rfl (h0 13 _ rfl) (fun m1 => ?_)
      refine gEx.iload rfl rfl rfl ?_
      exact gEx.reti rfl rfl
abbrev gcx_195 : gC := glook (gco_195_0)
set_option maxRecDepth 100000 in
set_option maxHeartbeats 4000000 in
theorem t_MO_open {d : Nat} (hd : 3 ≤ d) {sh : gH} {x1 : Int32} {x2 : Int32} (h0 : gHas sh.1 81 gsh_MO) {m : gM} : ∀ x, f_MO_open x1 x2 m = some x → gR gmi gdf gcd d 195 [.ref 81, .int x1, .int x2] (sh, m) ((gri x).1, (sh, (gri x).2)) := by
  obtain ⟨d, rfl⟩ : ∃ e, d = e + 1 := ⟨d - 1, by omega⟩
  refine gR_of (mx := 4) (code := gcx_195) rfl rfl (Nat.le_of_ble_eq_true rfl) ?_
  have hJ_31 : ∀ (v1 : Int32) (v2 : Int32) (v3 : Int32) (m1 : gM), gEx d gcx_195 sh gri 31 [some (.ref 81), some (.int x1), some (.int x2), some (.int v1)] [.int v3, .int v2, .ref 95] m1 (J_MO_open_31 v1 v2 v3 m1) := by
    intro v1 v2 v3 m1
    unfold J_MO_open_31
    refine gEx.iast rfl rfl (h0 14 _ rfl) (fun m2 => ?_)
    refine gEx.iload rfl rfl rfl ?_
    exact gEx.reti rfl rfl
  show gEx d gcx_195 sh gri 0 [some (.ref 81), some (.int x1), some (.int x2), none] [] m (f_MO_open x1 x2 m)
  unfold f_MO_open
  refine gEx.aload rfl rfl rfl ?_
  refine gEx.iload rfl rfl rfl ?_
  refine gEx.callVi rfl rfl rfl rfl (h0 0 _ rfl) rfl (fun _ h => (t_MO_isWell (by omega) h0) _ h) (fun r1 => ?_)
  refine gEx.if_ne (tn := 10) rfl rfl rfl ?_ ?_
  · refine gEx.iconst rfl rfl ?_
    exact gEx.reti rfl rfl
  · refine gEx.aload rfl rfl rfl ?_
    refine gEx.getR rfl rfl (h0 0 _ rfl) rfl ?_
    refine gEx.iload rfl rfl rfl ?_
    refine gEx.iald rfl rfl (h0 14 _ rfl) ?_
    refine gEx.istoreL (ls' := fun v4 => [some (.ref 81), some (.int x1), some (.int x2), some (.int v4)]) rfl rfl (fun _ => rfl) (fun v4 => ?_)
    refine gEx.aload rfl rfl rfl ?_
    refine gEx.getR rfl rfl (h0 0 _ rfl) rfl ?_
    refine gEx.iload rfl rfl rfl ?_
    refine gEx.iload rfl rfl rfl ?_
    refine gEx.if_eq (tn := 30) rfl rfl rfl ?_ ?_
    · refine gEx.iconst rfl rfl ?_
      exact gEx.lab rfl rfl (hJ_31 v4 x1 0 r1.2)
    · refine gEx.iconst rfl rfl ?_
      refine gEx.goto (tn := 31) rfl rfl rfl ?_
      exact gEx.lab rfl rfl (hJ_31 v4 x1 1 r1.2)
abbrev gcx_199 : gC := glook (gco_199_0)
set_option maxRecDepth 100000 in
set_option maxHeartbeats 4000000 in
theorem t_MO_hotAll {d : Nat} (hd : 5 ≤ d) {sh : gH}  (h0 : gHas sh.1 81 gsh_MO) {m : gM} : ∀ x, f_MO_hotAll  m = some x → gR gmi gdf gcd d 199 [.ref 81] (sh, m) ((gri x).1, (sh, (gri x).2)) := by
  obtain ⟨d, rfl⟩ : ∃ e, d = e + 1 := ⟨d - 1, by omega⟩
  refine gR_of (mx := 3) (code := gcx_199) rfl rfl (Nat.le_of_ble_eq_true rfl) ?_
  show gEx d gcx_199 sh gri 0 [some (.ref 81), none, none] [] m (f_MO_hotAll  m)
  unfold f_MO_hotAll
  refine gEx.iconst rfl rfl ?_
  refine gEx.istore (ls' := [some (.ref 81), some (.int 0), none]) rfl rfl rfl ?_
  refine gEx.iconst rfl rfl ?_
  refine gEx.istore (ls' := [some (.ref 81), some (.int 0), some (.int 0)]) rfl rfl rfl ?_
  have hL_4 : ∀ (n : Nat) (v1 : Int32) (v2 : Int32) (m1 : gM), gEx d gcx_199 sh gri 4 [some (.ref 81), some (.int v1), some (.int v2)] [] m1 (L_MO_hotAll_4 n v1 v2 m1) := by
    refine gfix_ind (P := fun (f : Int32 → Int32 → gM → Option (Int32 × gM)) => ∀ (v1 : Int32) (v2 : Int32) (m1 : gM), gEx d gcx_199 sh gri 4 [some (.ref 81), some (.int v1), some (.int v2)] [] m1 (f v1 v2 m1)) (fun _ _ _ => gEx.none) (fun rec_4 hrec_4 => ?_)
    intro v1 v2 m1
    refine gEx.iload rfl rfl rfl ?_
    refine gEx.aload rfl rfl rfl ?_
    refine gEx.getI rfl rfl (h0 0 _ rfl) rfl ?_
    refine gEx.icmp_ge (tn := 26) rfl rfl rfl ?_ ?_
    · refine gEx.iload rfl rfl rfl ?_
      refine gEx.aload rfl rfl rfl ?_
      refine gEx.iload rfl rfl rfl ?_
      refine gEx.callVi rfl rfl rfl rfl (h0 0 _ rfl) rfl (fun _ h => (t_MO_hotOf (by omega) h0) _ h) (fun r1 => ?_)
      refine gEx.iadd rfl rfl ?_
      refine gEx.istoreL (ls' := fun v3 => [some (.ref 81), some (.int v3), some (.int v2)]) rfl rfl (fun _ => rfl) (fun v3 => ?_)
      refine gEx.iinc (ls' := [some (.ref 81), some (.int v3), some (.int (v2 + 1))]) rfl rfl rfl rfl ?_
      refine gEx.goto (tn := 4) rfl rfl rfl ?_
      exact gEx.lab rfl rfl (hrec_4 v3 (v2 + 1) r1.2)
    · refine gEx.iload rfl rfl rfl ?_
      exact gEx.reti rfl rfl
  exact gEx.lab rfl rfl (hL_4 1000 0 0 m)
abbrev gcx_200 : gC := glook (gco_200_0 ++ (gco_200_1))
set_option maxRecDepth 100000 in
set_option maxHeartbeats 4000000 in
theorem t_MO_wellOf {d : Nat} (hd : 5 ≤ d) {sh : gH} {x1 : Int32} {x2 : Int32} (h0 : gHas sh.1 81 gsh_MO) {m : gM} : ∀ x, f_MO_wellOf x1 x2 m = some x → gR gmi gdf gcd d 200 [.ref 81, .int x1, .int x2] (sh, m) ((gri x).1, (sh, (gri x).2)) := by
  obtain ⟨d, rfl⟩ : ∃ e, d = e + 1 := ⟨d - 1, by omega⟩
  refine gR_of (mx := 3) (code := gcx_200) rfl rfl (Nat.le_of_ble_eq_true rfl) ?_
  show gEx d gcx_200 sh gri 0 [some (.ref 81), some (.int x1), some (.int x2)] [] m (f_MO_wellOf x1 x2 m)
  unfold f_MO_wellOf
  refine gEx.aload rfl rfl rfl ?_
  refine gEx.iload rfl rfl rfl ?_
  refine gEx.callVi rfl rfl rfl rfl (h0 0 _ rfl) rfl (fun _ h => (t_MO_isWell (by omega) h0) _ h) (fun r1 => ?_)
  refine gEx.if_ne (tn := 10) rfl rfl rfl ?_ ?_
  · refine gEx.iconst rfl rfl ?_
    exact gEx.reti rfl rfl
  · refine gEx.iload rfl rfl rfl ?_
    refine gEx.i2l rfl rfl ?_
    refine gEx.lconst rfl rfl ?_
    refine gEx.lconst rfl rfl ?_
    refine gEx.callSi rfl rfl rfl rfl rfl (fun _ h => (t_MO_in (by omega) ) _ h) (fun r2 => ?_)
    refine gEx.if_eq (tn := 39) rfl rfl rfl ?_ ?_
    · refine gEx.iload rfl rfl rfl ?_
      refine gEx.sw (dft := 132) (ps := #[(0, 84), (1, 91), (2, 98), (3, 105), (4, 112), (5, 119), (6, 126)]) rfl rfl [(0, gok (gib x1 14) (some (grd r2.2 92 x1, r2.2))), (1, gok (gib x1 14) (some (grd r2.2 93 x1, r2.2))), (2, gok (gib x1 14) (some (grd r2.2 94 x1, r2.2))), (3, gok (gib x1 14) (some (grd r2.2 95 x1, r2.2))), (4, gok (gib x1 14) (some (grd r2.2 96 x1, r2.2))), (5, gok (gib x1 14) (some (grd r2.2 97 x1, r2.2))), (6, (f_MO_hotOf x1 r2.2).bind fun (r3 : Int32 × gM) => some (r3.1, r3.2))] (some ((-1), r2.2)) ⟨rfl, ?_, ⟨rfl, ?_, ⟨rfl, ?_, ⟨rfl, ?_, ⟨rfl, ?_, ⟨rfl, ?_, ⟨rfl, ?_, trivial⟩⟩⟩⟩⟩⟩⟩ ?_
      · show gEx d gcx_200 sh gri 84 _ _ _ _
        refine gEx.aload rfl rfl rfl ?_
        refine gEx.getR rfl rfl (h0 0 _ rfl) rfl ?_
        refine gEx.iload rfl rfl rfl ?_
        refine gEx.iald rfl rfl (h0 11 _ rfl) ?_
        exact gEx.reti rfl rfl
      · show gEx d gcx_200 sh gri 91 _ _ _ _
        refine gEx.aload rfl rfl rfl ?_
        refine gEx.getR rfl rfl (h0 0 _ rfl) rfl ?_
        refine gEx.iload rfl rfl rfl ?_
        refine gEx.iald rfl rfl (h0 12 _ rfl) ?_
        exact gEx.reti rfl rfl
      · show gEx d gcx_200 sh gri 98 _ _ _ _
        refine gEx.aload rfl rfl rfl ?_
        refine gEx.getR rfl rfl (h0 0 _ rfl) rfl ?_
        refine gEx.iload rfl rfl rfl ?_
        refine gEx.iald rfl rfl (h0 13 _ rfl) ?_
        exact gEx.reti rfl rfl
      · show gEx d gcx_200 sh gri 105 _ _ _ _
        refine gEx.aload rfl rfl rfl ?_
        refine gEx.getR rfl rfl (h0 0 _ rfl) rfl ?_
        refine gEx.iload rfl rfl rfl ?_
        refine gEx.iald rfl rfl (h0 14 _ rfl) ?_
        exact gEx.reti rfl rfl
      · show gEx d gcx_200 sh gri 112 _ _ _ _
        refine gEx.aload rfl rfl rfl ?_
        refine gEx.getR rfl rfl (h0 0 _ rfl) rfl ?_
        refine gEx.iload rfl rfl rfl ?_
        refine gEx.iald rfl rfl (h0 15 _ rfl) ?_
        exact gEx.reti rfl rfl
      · show gEx d gcx_200 sh gri 119 _ _ _ _
        refine gEx.aload rfl rfl rfl ?_
        refine gEx.getR rfl rfl (h0 0 _ rfl) rfl ?_
        refine gEx.iload rfl rfl rfl ?_
        refine gEx.iald rfl rfl (h0 16 _ rfl) ?_
        exact gEx.reti rfl rfl
      · show gEx d gcx_200 sh gri 126 _ _ _ _
        refine gEx.aload rfl rfl rfl ?_
        refine gEx.iload rfl rfl rfl ?_
        refine gEx.callVi rfl rfl rfl rfl (h0 0 _ rfl) rfl (fun _ h => (t_MO_hotOf (by omega) h0) _ h) (fun r3 => ?_)
        exact gEx.reti rfl rfl
      · show gEx d gcx_200 sh gri 132 _ _ _ _
        refine gEx.iconst rfl rfl ?_
        exact gEx.reti rfl rfl
    · refine gEx.aload rfl rfl rfl ?_
      refine gEx.getR rfl rfl (h0 0 _ rfl) rfl ?_
      refine gEx.iconst rfl rfl ?_
      refine gEx.iload rfl rfl rfl ?_
      refine gEx.imul rfl rfl ?_
      refine gEx.iload rfl rfl rfl ?_
      refine gEx.iadd rfl rfl ?_
      refine gEx.iconst rfl rfl ?_
      refine gEx.isub rfl rfl ?_
      refine gEx.iald rfl rfl (h0 17 _ rfl) ?_
      exact gEx.reti rfl rfl
abbrev gcx_201 : gC := glook (gco_201_0)
set_option maxRecDepth 100000 in
set_option maxHeartbeats 4000000 in
theorem t_MO_drew {d : Nat} (hd : 4 ≤ d) {sh : gH} {x1 : Int32} {x2 : Int32} {x3 : Int32} (h0 : gHas sh.1 81 gsh_MO) {m : gM} : ∀ x, f_MO_drew x1 x2 x3 m = some x → gR gmi gdf gcd d 201 [.ref 81, .int x1, .int x2, .int x3] (sh, m) ((gri x).1, (sh, (gri x).2)) := by
  obtain ⟨d, rfl⟩ : ∃ e, d = e + 1 := ⟨d - 1, by omega⟩
  refine gR_of (mx := 4) (code := gcx_201) rfl rfl (Nat.le_of_ble_eq_true rfl) ?_
  show gEx d gcx_201 sh gri 0 [some (.ref 81), some (.int x1), some (.int x2), some (.int x3)] [] m (f_MO_drew x1 x2 x3 m)
  unfold f_MO_drew
  refine gEx.aload rfl rfl rfl ?_
  refine gEx.iload rfl rfl rfl ?_
  refine gEx.callVi rfl rfl rfl rfl (h0 0 _ rfl) rfl (fun _ h => (t_MO_isWell (by omega) h0) _ h) (fun r1 => ?_)
  refine gEx.if_eq (tn := 32) rfl rfl rfl ?_ ?_
  · refine gEx.lab (ls' := [some (.ref 81), none, none, none]) rfl rfl ?_
    refine gEx.iconst rfl rfl ?_
    exact gEx.reti rfl rfl
  · refine gEx.iload rfl rfl rfl ?_
    refine gEx.i2l rfl rfl ?_
    refine gEx.lconst rfl rfl ?_
    refine gEx.lconst rfl rfl ?_
    refine gEx.callSi rfl rfl rfl rfl rfl (fun _ h => (t_MO_in (by omega) ) _ h) (fun r2 => ?_)
    refine gEx.if_eq (tn := 32) rfl rfl rfl ?_ ?_
    · refine gEx.lab (ls' := [some (.ref 81), none, none, none]) rfl rfl ?_
      refine gEx.iconst rfl rfl ?_
      exact gEx.reti rfl rfl
    · refine gEx.iload rfl rfl rfl ?_
      refine gEx.i2l rfl rfl ?_
      refine gEx.lconst rfl rfl ?_
      refine gEx.lconst rfl rfl ?_
      refine gEx.callSi rfl rfl rfl rfl rfl (fun _ h => (t_MO_in (by omega) ) _ h) (fun r3 => ?_)
      refine gEx.if_ne (tn := 34) rfl rfl rfl ?_ ?_
      · refine gEx.lab (ls' := [some (.ref 81), none, none, none]) rfl rfl ?_
        refine gEx.iconst rfl rfl ?_
        exact gEx.reti rfl rfl
      · refine gEx.iload rfl rfl rfl ?_
        refine gEx.if_ne (tn := 52) rfl rfl rfl ?_ ?_
        · refine gEx.aload rfl rfl rfl ?_
          refine gEx.getR rfl rfl (h0 0 _ rfl) rfl ?_
          refine gEx.iconst rfl rfl ?_
          refine gEx.iload rfl rfl rfl ?_
          refine gEx.imul rfl rfl ?_
          refine gEx.iload rfl rfl rfl ?_
          refine gEx.iadd rfl rfl ?_
          refine gEx.iald rfl rfl (h0 18 _ rfl) ?_
          refine gEx.goto (tn := 72) rfl rfl rfl ?_
          refine gEx.lab (ls' := [some (.ref 81), none, none, none]) rfl rfl ?_
          exact gEx.reti rfl rfl
        · refine gEx.iload rfl rfl rfl ?_
          refine gEx.iconst rfl rfl ?_
          refine gEx.icmp_ne (tn := 66) rfl rfl rfl ?_ ?_
          · refine gEx.aload rfl rfl rfl ?_
            refine gEx.iload rfl rfl rfl ?_
            refine gEx.iload rfl rfl rfl ?_
            refine gEx.callVi rfl rfl rfl rfl (h0 0 _ rfl) rfl (fun _ h => (t_MO_letOf (by omega) h0) _ h) (fun r5 => ?_)
            refine gEx.goto (tn := 72) rfl rfl rfl ?_
            refine gEx.lab (ls' := [some (.ref 81), none, none, none]) rfl rfl ?_
            exact gEx.reti rfl rfl
          · refine gEx.aload rfl rfl rfl ?_
            refine gEx.iload rfl rfl rfl ?_
            refine gEx.iload rfl rfl rfl ?_
            refine gEx.callVi rfl rfl rfl rfl (h0 0 _ rfl) rfl (fun _ h => (t_MO_hotIn (by omega) h0) _ h) (fun r4 => ?_)
            refine gEx.lab (ls' := [some (.ref 81), none, none, none]) rfl rfl ?_
            exact gEx.reti rfl rfl
abbrev gcx_202 : gC := glook (gco_202_0)
set_option maxRecDepth 100000 in
set_option maxHeartbeats 4000000 in
theorem t_MO_priceOf {d : Nat} (hd : 1 ≤ d) {sh : gH} {x1 : Int32} (h0 : gHas sh.1 81 gsh_MO) {m : gM} : ∀ x, f_MO_priceOf x1 m = some x → gR gmi gdf gcd d 202 [.ref 81, .int x1] (sh, m) ((gri x).1, (sh, (gri x).2)) := by
  obtain ⟨d, rfl⟩ : ∃ e, d = e + 1 := ⟨d - 1, by omega⟩
  refine gR_of (mx := 3) (code := gcx_202) rfl rfl (Nat.le_of_ble_eq_true rfl) ?_
  have hJ_22 : ∀ (v1 : Int32), gEx d gcx_202 sh gri 22 [some (.ref 81), none, none] [.int v1] m (J_MO_priceOf_22 m v1) := by
    intro v1
    unfold J_MO_priceOf_22
    refine gEx.istore (ls' := [some (.ref 81), none, some (.int v1)]) rfl rfl rfl ?_
    refine gEx.iload rfl rfl rfl ?_
    refine gEx.iconst rfl rfl ?_
    refine gEx.icmp_ge (tn := 32) rfl rfl rfl ?_ ?_
    · refine gEx.iconst rfl rfl ?_
      refine gEx.goto (tn := 33) rfl rfl rfl ?_
      refine gEx.lab (ls' := [some (.ref 81), none, none]) rfl rfl ?_
      exact gEx.reti rfl rfl
    · refine gEx.iload rfl rfl rfl ?_
      refine gEx.lab (ls' := [some (.ref 81), none, none]) rfl rfl ?_
      exact gEx.reti rfl rfl
  show gEx d gcx_202 sh gri 0 [some (.ref 81), some (.int x1), none] [] m (f_MO_priceOf x1 m)
  unfold f_MO_priceOf
  refine gEx.iload rfl rfl rfl ?_
  refine gEx.if_ne (tn := 9) rfl rfl rfl ?_ ?_
  · refine gEx.iconst rfl rfl ?_
    refine gEx.goto (tn := 22) rfl rfl rfl ?_
    exact gEx.lab rfl rfl (hJ_22 100)
  · refine gEx.iconst rfl rfl ?_
    refine gEx.aload rfl rfl rfl ?_
    refine gEx.getR rfl rfl (h0 0 _ rfl) rfl ?_
    refine gEx.iload rfl rfl rfl ?_
    refine gEx.iconst rfl rfl ?_
    refine gEx.isub rfl rfl ?_
    refine gEx.iald rfl rfl (h0 22 _ rfl) ?_
    refine gEx.iconst rfl rfl ?_
    refine gEx.idiv rfl rfl ?_
    refine gEx.isub rfl rfl ?_
    exact gEx.lab rfl rfl (hJ_22 (100 - ((grd m 103 (x1 - 1)) / 5)))
abbrev gcx_203 : gC := glook (gco_203_0 ++ (gco_203_1))
set_option maxRecDepth 100000 in
set_option maxHeartbeats 4000000 in
theorem t_MO_sell {d : Nat} (hd : 3 ≤ d) {sh : gH} {x1 : Int32} {x2 : Int32} (h0 : gHas sh.1 81 gsh_MO) {m : gM} : ∀ x, f_MO_sell x1 x2 m = some x → gR gmi gdf gcd d 203 [.ref 81, .int x1, .int x2] (sh, m) ((gri x).1, (sh, (gri x).2)) := by
  obtain ⟨d, rfl⟩ : ∃ e, d = e + 1 := ⟨d - 1, by omega⟩
  refine gR_of (mx := 4) (code := gcx_203) rfl rfl (Nat.le_of_ble_eq_true rfl) ?_
  show gEx d gcx_203 sh gri 0 [some (.ref 81), some (.int x1), some (.int x2), none] [] m (f_MO_sell x1 x2 m)
  unfold f_MO_sell
  refine gEx.aload rfl rfl rfl ?_
  refine gEx.iload rfl rfl rfl ?_
  refine gEx.callVi rfl rfl rfl rfl (h0 0 _ rfl) rfl (fun _ h => (t_MO_isPerson (by omega) h0) _ h) (fun r1 => ?_)
  refine gEx.if_eq (tn := 20) rfl rfl rfl ?_ ?_
  · refine gEx.lab (ls' := [some (.ref 81), none, none, none]) rfl rfl ?_
    refine gEx.iconst rfl rfl ?_
    exact gEx.reti rfl rfl
  · refine gEx.iload rfl rfl rfl ?_
    refine gEx.i2l rfl rfl ?_
    refine gEx.lconst rfl rfl ?_
    refine gEx.lconst rfl rfl ?_
    refine gEx.callSi rfl rfl rfl rfl rfl (fun _ h => (t_MO_in (by omega) ) _ h) (fun r2 => ?_)
    refine gEx.if_ne (tn := 22) rfl rfl rfl ?_ ?_
    · refine gEx.lab (ls' := [some (.ref 81), none, none, none]) rfl rfl ?_
      refine gEx.iconst rfl rfl ?_
      exact gEx.reti rfl rfl
    · refine gEx.aload rfl rfl rfl ?_
      refine gEx.getR rfl rfl (h0 0 _ rfl) rfl ?_
      refine gEx.iload rfl rfl rfl ?_
      refine gEx.iald rfl rfl (h0 19 _ rfl) ?_
      refine gEx.iload rfl rfl rfl ?_
      refine gEx.icmp_ge (tn := 35) rfl rfl rfl ?_ ?_
      · refine gEx.iconst rfl rfl ?_
        exact gEx.reti rfl rfl
      · refine gEx.iload rfl rfl rfl ?_
        refine gEx.aload rfl rfl rfl ?_
        refine gEx.aload rfl rfl rfl ?_
        refine gEx.callVi rfl rfl rfl rfl (h0 0 _ rfl) rfl (fun _ h => (t_MO_shift (by omega) h0) _ h) (fun r3 => ?_)
        refine gEx.callVi rfl rfl rfl rfl (h0 0 _ rfl) rfl (fun _ h => (t_MO_priceOf (by omega) h0) _ h) (fun r4 => ?_)
        refine gEx.imul rfl rfl ?_
        refine gEx.istoreL (ls' := fun v1 => [some (.ref 81), some (.int x1), some (.int x2), some (.int v1)]) rfl rfl (fun _ => rfl) (fun v1 => ?_)
        refine gEx.aload rfl rfl rfl ?_
        refine gEx.getR rfl rfl (h0 0 _ rfl) rfl ?_
        refine gEx.iload rfl rfl rfl ?_
        refine gEx.dup2 rfl rfl ?_
        refine gEx.iald rfl rfl (h0 19 _ rfl) ?_
        refine gEx.iload rfl rfl rfl ?_
        refine gEx.isub rfl rfl ?_
        refine gEx.iast rfl rfl (h0 19 _ rfl) (fun m1 => ?_)
        refine gEx.aload rfl rfl rfl ?_
        refine gEx.getR rfl rfl (h0 0 _ rfl) rfl ?_
        refine gEx.iload rfl rfl rfl ?_
        refine gEx.dup2 rfl rfl ?_
        refine gEx.iald rfl rfl (h0 20 _ rfl) ?_
        refine gEx.iload rfl rfl rfl ?_
        refine gEx.iadd rfl rfl ?_
        refine gEx.iast rfl rfl (h0 20 _ rfl) (fun m2 => ?_)
        refine gEx.aload rfl rfl rfl ?_
        refine gEx.getR rfl rfl (h0 0 _ rfl) rfl ?_
        refine gEx.iload rfl rfl rfl ?_
        refine gEx.dup2 rfl rfl ?_
        refine gEx.iald rfl rfl (h0 21 _ rfl) ?_
        refine gEx.iload rfl rfl rfl ?_
        refine gEx.iadd rfl rfl ?_
        refine gEx.iast rfl rfl (h0 21 _ rfl) (fun m3 => ?_)
        refine gEx.aload rfl rfl rfl ?_
        refine gEx.getR rfl rfl (h0 0 _ rfl) rfl ?_
        refine gEx.aload rfl rfl rfl ?_
        refine gEx.callVi rfl rfl rfl rfl (h0 0 _ rfl) rfl (fun _ h => (t_MO_shift (by omega) h0) _ h) (fun r5 => ?_)
        refine gEx.dup2 rfl rfl ?_
        refine gEx.iald rfl rfl (h0 22 _ rfl) ?_
        refine gEx.iload rfl rfl rfl ?_
        refine gEx.iadd rfl rfl ?_
        refine gEx.iast rfl rfl (h0 22 _ rfl) (fun m4 => ?_)
        refine gEx.iload rfl rfl rfl ?_
        exact gEx.reti rfl rfl
abbrev gcx_204 : gC := glook (gco_204_0)
set_option maxRecDepth 100000 in
set_option maxHeartbeats 4000000 in
theorem t_MO_price {d : Nat} (hd : 2 ≤ d) {sh : gH} {x1 : Int32} (h0 : gHas sh.1 81 gsh_MO) {m : gM} : ∀ x, f_MO_price x1 m = some x → gR gmi gdf gcd d 204 [.ref 81, .int x1] (sh, m) ((gri x).1, (sh, (gri x).2)) := by
  obtain ⟨d, rfl⟩ : ∃ e, d = e + 1 := ⟨d - 1, by omega⟩
  refine gR_of (mx := 2) (code := gcx_204) rfl rfl (Nat.le_of_ble_eq_true rfl) ?_
  show gEx d gcx_204 sh gri 0 [some (.ref 81), some (.int x1)] [] m (f_MO_price x1 m)
  unfold f_MO_price
  refine gEx.iload rfl rfl rfl ?_
  refine gEx.i2l rfl rfl ?_
  refine gEx.lconst rfl rfl ?_
  refine gEx.aload rfl rfl rfl ?_
  refine gEx.callVi rfl rfl rfl rfl (h0 0 _ rfl) rfl (fun _ h => (t_MO_shift (by omega) h0) _ h) (fun r1 => ?_)
  refine gEx.i2l rfl rfl ?_
  refine gEx.callSi rfl rfl rfl rfl rfl (fun _ h => (t_MO_in (by omega) ) _ h) (fun r2 => ?_)
  refine gEx.if_eq (tn := 22) rfl rfl rfl ?_ ?_
  · refine gEx.iconst rfl rfl ?_
    refine gEx.lab (ls' := [some (.ref 81), none]) rfl rfl ?_
    exact gEx.reti rfl rfl
  · refine gEx.aload rfl rfl rfl ?_
    refine gEx.iload rfl rfl rfl ?_
    refine gEx.callVi rfl rfl rfl rfl (h0 0 _ rfl) rfl (fun _ h => (t_MO_priceOf (by omega) h0) _ h) (fun r3 => ?_)
    refine gEx.goto (tn := 23) rfl rfl rfl ?_
    refine gEx.lab (ls' := [some (.ref 81), none]) rfl rfl ?_
    exact gEx.reti rfl rfl
abbrev gcx_205 : gC := glook (gco_205_0)
set_option maxRecDepth 100000 in
set_option maxHeartbeats 4000000 in
theorem t_MO_feed {d : Nat} (hd : 1 ≤ d) {sh : gH} {y1 : Int64} (h0 : gHas sh.1 81 gsh_MO) {m : gM} : ∀ x, f_MO_feed y1 m = some x → gR gmi gdf gcd d 205 [.ref 81, .long y1] (sh, m) ((gri x).1, (sh, (gri x).2)) := by
  obtain ⟨d, rfl⟩ : ∃ e, d = e + 1 := ⟨d - 1, by omega⟩
  refine gR_of (mx := 4) (code := gcx_205) rfl rfl (Nat.le_of_ble_eq_true rfl) ?_
  have hJ_56 : ∀ (v1 : Int32) (m1 : gM), gEx d gcx_205 sh gri 56 [some (.ref 81), some (.long y1), none, some (.int v1)] [] m1 (J_MO_feed_56 v1 m1) := by
    intro v1 m1
    unfold J_MO_feed_56
    refine gEx.aload rfl rfl rfl ?_
    refine gEx.getI rfl rfl (h0 0 _ rfl) rfl ?_
    exact gEx.reti rfl rfl
  show gEx d gcx_205 sh gri 0 [some (.ref 81), some (.long y1), none, none] [] m (f_MO_feed y1 m)
  unfold f_MO_feed
  refine gEx.aload rfl rfl rfl ?_
  refine gEx.getI rfl rfl (h0 0 _ rfl) rfl ?_
  refine gEx.iconst rfl rfl ?_
  refine gEx.iadd rfl rfl ?_
  refine gEx.iconst rfl rfl ?_
  refine gEx.icmp_le (tn := 16) rfl rfl rfl ?_ ?_
  · refine gEx.iconst rfl rfl ?_
    exact gEx.reti rfl rfl
  · refine gEx.iconst rfl rfl ?_
    refine gEx.istore (ls' := [some (.ref 81), some (.long y1), none, some (.int 56)]) rfl rfl rfl ?_
    have hL_19 : ∀ (n : Nat) (v2 : Int32) (m2 : gM), gEx d gcx_205 sh gri 19 [some (.ref 81), some (.long y1), none, some (.int v2)] [] m2 (L_MO_feed_19 y1 (fun v2 m2 => J_MO_feed_56 v2 m2) n v2 m2) := by
      refine gfix_ind (P := fun (f : Int32 → gM → Option (Int32 × gM)) => ∀ (v2 : Int32) (m2 : gM), gEx d gcx_205 sh gri 19 [some (.ref 81), some (.long y1), none, some (.int v2)] [] m2 (f v2 m2)) (fun _ _ => gEx.none) (fun rec_19 hrec_19 => ?_)
      intro v2 m2
      refine gEx.iload rfl rfl rfl ?_
      refine gEx.if_lt (tn := 56) rfl rfl rfl ?_ ?_
      · exact gEx.lab rfl rfl (hJ_56 v2 m2)
      · refine gEx.aload rfl rfl rfl ?_
        refine gEx.getR rfl rfl (h0 0 _ rfl) rfl ?_
        refine gEx.aload rfl rfl rfl ?_
        refine gEx.getI rfl rfl (h0 0 _ rfl) rfl ?_
        refine gEx.lload rfl rfl rfl ?_
        refine gEx.iload rfl rfl rfl ?_
        refine gEx.lshr rfl rfl ?_
        refine gEx.l2i rfl rfl ?_
        refine gEx.iconst rfl rfl ?_
        refine gEx.iand rfl rfl ?_
        refine gEx.iast rfl rfl (h0 31 _ rfl) (fun m3 => ?_)
        refine gEx.aload rfl rfl rfl ?_
        refine gEx.dupR rfl rfl ?_
        refine gEx.getI rfl rfl (h0 0 _ rfl) rfl ?_
        refine gEx.iconst rfl rfl ?_
        refine gEx.iadd rfl rfl ?_
        refine gEx.putI rfl rfl (h0 0 _ rfl) rfl rfl rfl (fun m4 => ?_)
        refine gEx.iinc (ls' := [some (.ref 81), some (.long y1), none, some (.int (v2 + (-8)))]) rfl rfl rfl rfl ?_
        refine gEx.goto (tn := 19) rfl rfl rfl ?_
        exact gEx.lab rfl rfl (hrec_19 (v2 + (-8)) m4)
    exact gEx.lab rfl rfl (hL_19 1000 56 m)
abbrev gcx_206 : gC := glook (gco_206_0)
set_option maxRecDepth 100000 in
set_option maxHeartbeats 4000000 in
theorem t_MO_end {d : Nat} (hd : 2 ≤ d) {sh : gH} {x1 : Int32} (h0 : gHas sh.1 81 gsh_MO) {m : gM} : ∀ x, f_MO_end x1 m = some x → gR gmi gdf gcd d 206 [.ref 81, .int x1] (sh, m) ((gri x).1, (sh, (gri x).2)) := by
  obtain ⟨d, rfl⟩ : ∃ e, d = e + 1 := ⟨d - 1, by omega⟩
  refine gR_of (mx := 3) (code := gcx_206) rfl rfl (Nat.le_of_ble_eq_true rfl) ?_
  show gEx d gcx_206 sh gri 0 [some (.ref 81), some (.int x1), none] [] m (f_MO_end x1 m)
  unfold f_MO_end
  refine gEx.iload rfl rfl rfl ?_
  refine gEx.i2l rfl rfl ?_
  refine gEx.lconst rfl rfl ?_
  refine gEx.aload rfl rfl rfl ?_
  refine gEx.getI rfl rfl (h0 0 _ rfl) rfl ?_
  refine gEx.i2l rfl rfl ?_
  refine gEx.callSi rfl rfl rfl rfl rfl (fun _ h => (t_MO_in (by omega) ) _ h) (fun r1 => ?_)
  refine gEx.if_ne (tn := 16) rfl rfl rfl ?_ ?_
  · refine gEx.iconst rfl rfl ?_
    exact gEx.reti rfl rfl
  · refine gEx.aload rfl rfl rfl ?_
    refine gEx.getI rfl rfl (h0 0 _ rfl) rfl ?_
    refine gEx.istoreL (ls' := fun v1 => [some (.ref 81), some (.int x1), some (.int v1)]) rfl rfl (fun _ => rfl) (fun v1 => ?_)
    refine gEx.aload rfl rfl rfl ?_
    refine gEx.iload rfl rfl rfl ?_
    refine gEx.putI rfl rfl (h0 0 _ rfl) rfl rfl rfl (fun m1 => ?_)
    refine gEx.iload rfl rfl rfl ?_
    exact gEx.reti rfl rfl
abbrev gcx_207 : gC := glook (gco_207_0)
set_option maxRecDepth 100000 in
set_option maxHeartbeats 4000000 in
theorem t_MO_byteAt {d : Nat} (hd : 1 ≤ d) {sh : gH} {x1 : Int32} (h0 : gHas sh.1 81 gsh_MO) {m : gM} : ∀ x, f_MO_byteAt x1 m = some x → gR gmi gdf gcd d 207 [.ref 81, .int x1] (sh, m) ((gri x).1, (sh, (gri x).2)) := by
  obtain ⟨d, rfl⟩ : ∃ e, d = e + 1 := ⟨d - 1, by omega⟩
  refine gR_of (mx := 2) (code := gcx_207) rfl rfl (Nat.le_of_ble_eq_true rfl) ?_
  show gEx d gcx_207 sh gri 0 [some (.ref 81), some (.int x1)] [] m (f_MO_byteAt x1 m)
  unfold f_MO_byteAt
  refine gEx.iload rfl rfl rfl ?_
  refine gEx.aload rfl rfl rfl ?_
  refine gEx.getI rfl rfl (h0 0 _ rfl) rfl ?_
  refine gEx.icmp_ge (tn := 17) rfl rfl rfl ?_ ?_
  · refine gEx.aload rfl rfl rfl ?_
    refine gEx.getR rfl rfl (h0 0 _ rfl) rfl ?_
    refine gEx.iload rfl rfl rfl ?_
    refine gEx.iald rfl rfl (h0 31 _ rfl) ?_
    refine gEx.goto (tn := 19) rfl rfl rfl ?_
    refine gEx.lab (ls' := [some (.ref 81), none]) rfl rfl ?_
    exact gEx.reti rfl rfl
  · refine gEx.iconst rfl rfl ?_
    refine gEx.lab (ls' := [some (.ref 81), none]) rfl rfl ?_
    exact gEx.reti rfl rfl
abbrev gcx_208 : gC := glook (gco_208_0)
set_option maxRecDepth 100000 in
set_option maxHeartbeats 4000000 in
theorem t_MO_fails {d : Nat} (hd : 1 ≤ d) {sh : gH} {x1 : Int32} (h0 : gHas sh.1 81 gsh_MO) {m : gM} : ∀ x, f_MO_fails x1 m = some x → gR gmi gdf gcd d 208 [.ref 81, .int x1] (sh, m) ((grv x).1, (sh, (grv x).2)) := by
  obtain ⟨d, rfl⟩ : ∃ e, d = e + 1 := ⟨d - 1, by omega⟩
  refine gR_of (mx := 2) (code := gcx_208) rfl rfl (Nat.le_of_ble_eq_true rfl) ?_
  show gEx d gcx_208 sh grv 0 [some (.ref 81), some (.int x1)] [] m (f_MO_fails x1 m)
  unfold f_MO_fails
  refine gEx.aload rfl rfl rfl ?_
  refine gEx.getI rfl rfl (h0 0 _ rfl) rfl ?_
  refine gEx.if_ne (tn := 20) rfl rfl rfl ?_ ?_
  · refine gEx.aload rfl rfl rfl ?_
    refine gEx.iload rfl rfl rfl ?_
    refine gEx.putI rfl rfl (h0 0 _ rfl) rfl rfl rfl (fun m1 => ?_)
    refine gEx.aload rfl rfl rfl ?_
    refine gEx.aload rfl rfl rfl ?_
    refine gEx.getI rfl rfl (h0 0 _ rfl) rfl ?_
    refine gEx.putI rfl rfl (h0 0 _ rfl) rfl rfl rfl (fun m2 => ?_)
    refine gEx.lab (ls' := [some (.ref 81), none]) rfl rfl ?_
    exact gEx.retv rfl rfl
  · refine gEx.lab (ls' := [some (.ref 81), none]) rfl rfl ?_
    exact gEx.retv rfl rfl
abbrev gcx_209 : gC := glook (gco_209_0 ++ (gco_209_1))
set_option maxRecDepth 100000 in
set_option maxHeartbeats 4000000 in
theorem t_MO_nameAt {d : Nat} (hd : 2 ≤ d) {sh : gH} {x1 : Int32} {x2 : Int32} (h0 : gHas sh.1 81 gsh_MO) {m : gM} : ∀ x, f_MO_nameAt x1 x2 m = some x → gR gmi gdf gcd d 209 [.ref 81, .int x1, .int x2] (sh, m) ((gri x).1, (sh, (gri x).2)) := by
  obtain ⟨d, rfl⟩ : ∃ e, d = e + 1 := ⟨d - 1, by omega⟩
  refine gR_of (mx := 6) (code := gcx_209) rfl rfl (Nat.le_of_ble_eq_true rfl) ?_
  show gEx d gcx_209 sh gri 0 [some (.ref 81), some (.int x1), some (.int x2), none, none, none] [] m (f_MO_nameAt x1 x2 m)
  unfold f_MO_nameAt
  refine gEx.iconst rfl rfl ?_
  refine gEx.istore (ls' := [some (.ref 81), some (.int x1), some (.int x2), some (.int 0), none, none]) rfl rfl rfl ?_
  have hL_2 : ∀ (n : Nat) (v1 : Int32) (m1 : gM), gEx d gcx_209 sh gri 2 [some (.ref 81), some (.int x1), some (.int x2), some (.int v1), none, none] [] m1 (L_MO_nameAt_2 x1 x2 n v1 m1) := by
    refine gfix_ind (P := fun (f : Int32 → gM → Option (Int32 × gM)) => ∀ (v1 : Int32) (m1 : gM), gEx d gcx_209 sh gri 2 [some (.ref 81), some (.int x1), some (.int x2), some (.int v1), none, none] [] m1 (f v1 m1)) (fun _ _ => gEx.none) (fun rec_2 hrec_2 => ?_)
    have hJ_90 : ∀ (v2 : Int32) (v3 : Int32) (m2 : gM), gEx d gcx_209 sh gri 90 [some (.ref 81), some (.int x1), some (.int x2), some (.int v2), some (.int v3), none] [] m2 (J_MO_nameAt_90 rec_2 v2 v3 m2) := by
      intro v2 v3 m2
      unfold J_MO_nameAt_90
      refine gEx.iload rfl rfl rfl ?_
      refine gEx.if_eq (tn := 97) rfl rfl rfl ?_ ?_
      · refine gEx.iinc (ls' := [some (.ref 81), some (.int x1), some (.int x2), some (.int (v2 + 1)), some (.int v3), none]) rfl rfl rfl rfl ?_
        refine gEx.goto (tn := 2) rfl rfl rfl ?_
        exact gEx.lab rfl rfl (hrec_2 (v2 + 1) m2)
      · refine gEx.iload rfl rfl rfl ?_
        exact gEx.reti rfl rfl
    have hJ_34 : ∀ (v4 : Int32) (v5 : Int32) (m3 : gM), gEx d gcx_209 sh gri 34 [some (.ref 81), some (.int x1), some (.int x2), some (.int v4), none, none] [.int v5] m3 (J_MO_nameAt_34 x1 x2 rec_2 v4 v5 m3) := by
      intro v4 v5 m3
      unfold J_MO_nameAt_34
      refine gEx.istore (ls' := [some (.ref 81), some (.int x1), some (.int x2), some (.int v4), some (.int v5), none]) rfl rfl rfl ?_
      refine gEx.iconst rfl rfl ?_
      refine gEx.istore (ls' := [some (.ref 81), some (.int x1), some (.int x2), some (.int v4), some (.int v5), some (.int 0)]) rfl rfl rfl ?_
      have hL_39 : ∀ (n : Nat) (v6 : Int32) (v7 : Int32) (m4 : gM), gEx d gcx_209 sh gri 39 [some (.ref 81), some (.int x1), some (.int x2), some (.int v4), some (.int v6), some (.int v7)] [] m4 (L_MO_nameAt_39 x1 x2 v4 (fun v6 v7 m4 => J_MO_nameAt_90 rec_2 v4 v6 m4) n v6 v7 m4) := by
        refine gfix_ind (P := fun (f : Int32 → Int32 → gM → Option (Int32 × gM)) => ∀ (v6 : Int32) (v7 : Int32) (m4 : gM), gEx d gcx_209 sh gri 39 [some (.ref 81), some (.int x1), some (.int x2), some (.int v4), some (.int v6), some (.int v7)] [] m4 (f v6 v7 m4)) (fun _ _ _ => gEx.none) (fun rec_39 hrec_39 => ?_)
        have hJ_82 : ∀ (v8 : Int32) (v9 : Int32) (v10 : Int32) (m5 : gM), gEx d gcx_209 sh gri 82 [some (.ref 81), some (.int x1), some (.int x2), some (.int v4), some (.int v8), some (.int v9)] [.int v10] m5 (J_MO_nameAt_82 rec_39 v8 v9 v10 m5) := by
          intro v8 v9 v10 m5
          unfold J_MO_nameAt_82
          refine gEx.istore (ls' := [some (.ref 81), some (.int x1), some (.int x2), some (.int v4), some (.int v10), some (.int v9)]) rfl rfl rfl ?_
          refine gEx.iinc (ls' := [some (.ref 81), some (.int x1), some (.int x2), some (.int v4), some (.int v10), some (.int (v9 + 1))]) rfl rfl rfl rfl ?_
          refine gEx.goto (tn := 39) rfl rfl rfl ?_
          exact gEx.lab rfl rfl (hrec_39 v10 (v9 + 1) m5)
        intro v6 v7 m4
        refine gEx.iload rfl rfl rfl ?_
        refine gEx.iload rfl rfl rfl ?_
        refine gEx.iload rfl rfl rfl ?_
        refine gEx.isub rfl rfl ?_
        refine gEx.icmp_ge (tn := 90) rfl rfl rfl ?_ ?_
        · refine gEx.iload rfl rfl rfl ?_
          refine gEx.if_eq (tn := 90) rfl rfl rfl ?_ ?_
          · exact gEx.lab rfl rfl (hJ_90 v4 v6 m4)
          · refine gEx.aload rfl rfl rfl ?_
            refine gEx.iload rfl rfl rfl ?_
            refine gEx.iload rfl rfl rfl ?_
            refine gEx.iadd rfl rfl ?_
            refine gEx.callVi rfl rfl rfl rfl (h0 0 _ rfl) rfl (fun _ h => (t_MO_byteAt (by omega) h0) _ h) (fun r1 => ?_)
            refine gEx.aload rfl rfl rfl ?_
            refine gEx.getR rfl rfl (h0 0 _ rfl) rfl ?_
            refine gEx.aload rfl rfl rfl ?_
            refine gEx.getR rfl rfl (h0 0 _ rfl) rfl ?_
            refine gEx.iload rfl rfl rfl ?_
            refine gEx.iald rfl rfl (h0 32 _ rfl) ?_
            refine gEx.iload rfl rfl rfl ?_
            refine gEx.iadd rfl rfl ?_
            refine gEx.iald rfl rfl (h0 33 _ rfl) ?_
            refine gEx.icmp_ne (tn := 81) rfl rfl rfl ?_ ?_
            · refine gEx.iconst rfl rfl ?_
              refine gEx.goto (tn := 82) rfl rfl rfl ?_
              exact gEx.lab rfl rfl (hJ_82 v6 v7 1 r1.2)
            · refine gEx.iconst rfl rfl ?_
              exact gEx.lab rfl rfl (hJ_82 v6 v7 0 r1.2)
        · exact gEx.lab rfl rfl (hJ_90 v4 v6 m4)
      exact gEx.lab rfl rfl (hL_39 1000 v5 0 m3)
    intro v1 m1
    refine gEx.iload rfl rfl rfl ?_
    refine gEx.iconst rfl rfl ?_
    refine gEx.icmp_ge (tn := 103) rfl rfl rfl ?_ ?_
    · refine gEx.iload rfl rfl rfl ?_
      refine gEx.iload rfl rfl rfl ?_
      refine gEx.isub rfl rfl ?_
      refine gEx.aload rfl rfl rfl ?_
      refine gEx.getR rfl rfl (h0 0 _ rfl) rfl ?_
      refine gEx.iload rfl rfl rfl ?_
      refine gEx.iconst rfl rfl ?_
      refine gEx.iadd rfl rfl ?_
      refine gEx.iald rfl rfl (h0 32 _ rfl) ?_
      refine gEx.aload rfl rfl rfl ?_
      refine gEx.getR rfl rfl (h0 0 _ rfl) rfl ?_
      refine gEx.iload rfl rfl rfl ?_
      refine gEx.iald rfl rfl (h0 32 _ rfl) ?_
      refine gEx.isub rfl rfl ?_
      refine gEx.icmp_ne (tn := 33) rfl rfl rfl ?_ ?_
      · refine gEx.iconst rfl rfl ?_
        refine gEx.goto (tn := 34) rfl rfl rfl ?_
        exact gEx.lab rfl rfl (hJ_34 v1 1 m1)
      · refine gEx.iconst rfl rfl ?_
        exact gEx.lab rfl rfl (hJ_34 v1 0 m1)
    · refine gEx.iconst rfl rfl ?_
      exact gEx.reti rfl rfl
  exact gEx.lab rfl rfl (hL_2 1000 0 m)
abbrev gcx_210 : gC := glook (gco_210_0 ++ (gco_210_1 ++ (gco_210_2)))
set_option maxRecDepth 100000 in
set_option maxHeartbeats 4000000 in
theorem t_MO_next {d : Nat} (hd : 3 ≤ d) {sh : gH}  (h0 : gHas sh.1 81 gsh_MO) {m : gM} : ∀ x, f_MO_next  m = some x → gR gmi gdf gcd d 210 [.ref 81] (sh, m) ((grv x).1, (sh, (grv x).2)) := by
  obtain ⟨d, rfl⟩ : ∃ e, d = e + 1 := ⟨d - 1, by omega⟩
  refine gR_of (mx := 2) (code := gcx_210) rfl rfl (Nat.le_of_ble_eq_true rfl) ?_
  have hJ_247 : ∀ (m1 : gM), gEx d gcx_210 sh grv 247 [some (.ref 81), none] [] m1 (J_MO_next_247 m1) := by
    intro m1
    unfold J_MO_next_247
    refine gEx.aload rfl rfl rfl ?_
    refine gEx.iconst rfl rfl ?_
    refine gEx.putI rfl rfl (h0 0 _ rfl) rfl rfl rfl (fun m2 => ?_)
    refine gEx.aload rfl rfl rfl ?_
    refine gEx.getI rfl rfl (h0 0 _ rfl) rfl ?_
    refine gEx.aload rfl rfl rfl ?_
    refine gEx.getI rfl rfl (h0 0 _ rfl) rfl ?_
    refine gEx.isub rfl rfl ?_
    refine gEx.iconst rfl rfl ?_
    refine gEx.icmp_le (tn := 299) rfl rfl rfl ?_ ?_
    · refine gEx.aload rfl rfl rfl ?_
      refine gEx.iconst rfl rfl ?_
      refine gEx.callVv rfl rfl rfl rfl (h0 0 _ rfl) rfl (fun _ h => (t_MO_fails (by omega) h0) _ h) (fun r1 => ?_)
      refine gEx.goto (tn := 299) rfl rfl rfl ?_
      refine gEx.lab (ls' := [some (.ref 81), none]) rfl rfl ?_
      exact gEx.retv rfl rfl
    · refine gEx.lab (ls' := [some (.ref 81), none]) rfl rfl ?_
      exact gEx.retv rfl rfl
  have hJ_118 : ∀ (m3 : gM), gEx d gcx_210 sh grv 118 [some (.ref 81), none] [] m3 (J_MO_next_118 m3) := by
    intro m3
    unfold J_MO_next_118
    refine gEx.aload rfl rfl rfl ?_
    refine gEx.iconst rfl rfl ?_
    refine gEx.putI rfl rfl (h0 0 _ rfl) rfl rfl rfl (fun m4 => ?_)
    refine gEx.aload rfl rfl rfl ?_
    refine gEx.aload rfl rfl rfl ?_
    refine gEx.aload rfl rfl rfl ?_
    refine gEx.getI rfl rfl (h0 0 _ rfl) rfl ?_
    refine gEx.aload rfl rfl rfl ?_
    refine gEx.getI rfl rfl (h0 0 _ rfl) rfl ?_
    refine gEx.callVi rfl rfl rfl rfl (h0 0 _ rfl) rfl (fun _ h => (t_MO_nameAt (by omega) h0) _ h) (fun r2 => ?_)
    refine gEx.putI rfl rfl (h0 0 _ rfl) rfl rfl rfl (fun m5 => ?_)
    refine gEx.aload rfl rfl rfl ?_
    refine gEx.getI rfl rfl (h0 0 _ rfl) rfl ?_
    refine gEx.iconst rfl rfl ?_
    refine gEx.icmp_ne (tn := 299) rfl rfl rfl ?_ ?_
    · refine gEx.aload rfl rfl rfl ?_
      refine gEx.iconst rfl rfl ?_
      refine gEx.callVv rfl rfl rfl rfl (h0 0 _ rfl) rfl (fun _ h => (t_MO_fails (by omega) h0) _ h) (fun r3 => ?_)
      refine gEx.goto (tn := 299) rfl rfl rfl ?_
      refine gEx.lab (ls' := [some (.ref 81), none]) rfl rfl ?_
      exact gEx.retv rfl rfl
    · refine gEx.lab (ls' := [some (.ref 81), none]) rfl rfl ?_
      exact gEx.retv rfl rfl
  have hJ_34 : ∀ (m6 : gM), gEx d gcx_210 sh grv 34 [some (.ref 81), none] [] m6 (J_MO_next_34 m6) := by
    intro m6
    unfold J_MO_next_34
    refine gEx.aload rfl rfl rfl ?_
    refine gEx.aload rfl rfl rfl ?_
    refine gEx.getI rfl rfl (h0 0 _ rfl) rfl ?_
    refine gEx.putI rfl rfl (h0 0 _ rfl) rfl rfl rfl (fun m7 => ?_)
    refine gEx.aload rfl rfl rfl ?_
    refine gEx.aload rfl rfl rfl ?_
    refine gEx.getI rfl rfl (h0 0 _ rfl) rfl ?_
    refine gEx.callVi rfl rfl rfl rfl (h0 0 _ rfl) rfl (fun _ h => (t_MO_byteAt (by omega) h0) _ h) (fun r4 => ?_)
    refine gEx.istore (ls' := [some (.ref 81), some (.int r4.1)]) rfl rfl rfl ?_
    refine gEx.aload rfl rfl rfl ?_
    refine gEx.iconst rfl rfl ?_
    refine gEx.putI rfl rfl (h0 0 _ rfl) rfl rfl rfl (fun m8 => ?_)
    refine gEx.iload rfl rfl rfl ?_
    refine gEx.iconst rfl rfl ?_
    refine gEx.icmp_ne (tn := 70) rfl rfl rfl ?_ ?_
    · refine gEx.aload rfl rfl rfl ?_
      refine gEx.iconst rfl rfl ?_
      refine gEx.putI rfl rfl (h0 0 _ rfl) rfl rfl rfl (fun m17 => ?_)
      refine gEx.goto (tn := 299) rfl rfl rfl ?_
      refine gEx.lab (ls' := [some (.ref 81), none]) rfl rfl ?_
      exact gEx.retv rfl rfl
    · refine gEx.iload rfl rfl rfl ?_
      refine gEx.i2l rfl rfl ?_
      refine gEx.lconst rfl rfl ?_
      refine gEx.lconst rfl rfl ?_
      refine gEx.callSi rfl rfl rfl rfl rfl (fun _ h => (t_MO_in (by omega) ) _ h) (fun r5 => ?_)
      refine gEx.if_eq (tn := 156) rfl rfl rfl ?_ ?_
      · refine gEx.iload rfl rfl rfl ?_
        refine gEx.i2l rfl rfl ?_
        refine gEx.lconst rfl rfl ?_
        refine gEx.lconst rfl rfl ?_
        refine gEx.callSi rfl rfl rfl rfl rfl (fun _ h => (t_MO_in (by omega) ) _ h) (fun r6 => ?_)
        refine gEx.if_eq (tn := 273) rfl rfl rfl ?_ ?_
        · refine gEx.aload rfl rfl rfl ?_
          refine gEx.iconst rfl rfl ?_
          refine gEx.putI rfl rfl (h0 0 _ rfl) rfl rfl rfl (fun m9 => ?_)
          refine gEx.aload rfl rfl rfl ?_
          refine gEx.dupR rfl rfl ?_
          refine gEx.getI rfl rfl (h0 0 _ rfl) rfl ?_
          refine gEx.iconst rfl rfl ?_
          refine gEx.iadd rfl rfl ?_
          refine gEx.putI rfl rfl (h0 0 _ rfl) rfl rfl rfl (fun m10 => ?_)
          refine gEx.iload rfl rfl rfl ?_
          refine gEx.iconst rfl rfl ?_
          refine gEx.icmp_eq (tn := 299) rfl rfl rfl ?_ ?_
          · refine gEx.lab (ls' := [some (.ref 81), none]) rfl rfl ?_
            exact gEx.retv rfl rfl
          · refine gEx.aload rfl rfl rfl ?_
            refine gEx.iconst rfl rfl ?_
            refine gEx.callVv rfl rfl rfl rfl (h0 0 _ rfl) rfl (fun _ h => (t_MO_fails (by omega) h0) _ h) (fun r7 => ?_)
            refine gEx.lab (ls' := [some (.ref 81), none]) rfl rfl ?_
            exact gEx.retv rfl rfl
        · have hL_170 : ∀ (n : Nat) (m11 : gM), gEx d gcx_210 sh grv 170 [some (.ref 81), none] [] m11 (L_MO_next_170 (fun m11 => J_MO_next_247 m11) n m11) := by
            refine gfix_ind (P := fun (f : gM → Option (gM)) => ∀ (m11 : gM), gEx d gcx_210 sh grv 170 [some (.ref 81), none] [] m11 (f m11)) (fun _ => gEx.none) (fun rec_170 hrec_170 => ?_)
            have hJ_231 : ∀ (v1 : Int32) (m12 : gM), gEx d gcx_210 sh grv 231 [some (.ref 81), none] [.int v1, .ref 81] m12 (J_MO_next_231 rec_170 v1 m12) := by
              intro v1 m12
              unfold J_MO_next_231
              refine gEx.putI rfl rfl (h0 0 _ rfl) rfl rfl rfl (fun m13 => ?_)
              refine gEx.aload rfl rfl rfl ?_
              refine gEx.dupR rfl rfl ?_
              refine gEx.getI rfl rfl (h0 0 _ rfl) rfl ?_
              refine gEx.iconst rfl rfl ?_
              refine gEx.iadd rfl rfl ?_
              refine gEx.putI rfl rfl (h0 0 _ rfl) rfl rfl rfl (fun m14 => ?_)
              refine gEx.goto (tn := 170) rfl rfl rfl ?_
              exact gEx.lab rfl rfl (hrec_170 m14)
            intro m11
            refine gEx.aload rfl rfl rfl ?_
            refine gEx.aload rfl rfl rfl ?_
            refine gEx.getI rfl rfl (h0 0 _ rfl) rfl ?_
            refine gEx.callVi rfl rfl rfl rfl (h0 0 _ rfl) rfl (fun _ h => (t_MO_byteAt (by omega) h0) _ h) (fun r8 => ?_)
            refine gEx.i2l rfl rfl ?_
            refine gEx.lconst rfl rfl ?_
            refine gEx.lconst rfl rfl ?_
            refine gEx.callSi rfl rfl rfl rfl rfl (fun _ h => (t_MO_in (by omega) ) _ h) (fun r9 => ?_)
            refine gEx.if_eq (tn := 247) rfl rfl rfl ?_ ?_
            · exact gEx.lab rfl rfl (hJ_247 r9.2)
            · refine gEx.aload rfl rfl rfl ?_
              refine gEx.aload rfl rfl rfl ?_
              refine gEx.getI rfl rfl (h0 0 _ rfl) rfl ?_
              refine gEx.aload rfl rfl rfl ?_
              refine gEx.getI rfl rfl (h0 0 _ rfl) rfl ?_
              refine gEx.isub rfl rfl ?_
              refine gEx.iconst rfl rfl ?_
              refine gEx.icmp_ge (tn := 227) rfl rfl rfl ?_ ?_
              · refine gEx.iconst rfl rfl ?_
                refine gEx.aload rfl rfl rfl ?_
                refine gEx.getI rfl rfl (h0 0 _ rfl) rfl ?_
                refine gEx.imul rfl rfl ?_
                refine gEx.aload rfl rfl rfl ?_
                refine gEx.aload rfl rfl rfl ?_
                refine gEx.getI rfl rfl (h0 0 _ rfl) rfl ?_
                refine gEx.callVi rfl rfl rfl rfl (h0 0 _ rfl) rfl (fun _ h => (t_MO_byteAt (by omega) h0) _ h) (fun r10 => ?_)
                refine gEx.iadd rfl rfl ?_
                refine gEx.iconst rfl rfl ?_
                refine gEx.isub rfl rfl ?_
                refine gEx.goto (tn := 231) rfl rfl rfl ?_
                exact gEx.lab rfl rfl (hJ_231 (((10 * (gfd r9.2 81 44)) + r10.1) - 48) r10.2)
              · refine gEx.aload rfl rfl rfl ?_
                refine gEx.getI rfl rfl (h0 0 _ rfl) rfl ?_
                exact gEx.lab rfl rfl (hJ_231 (gfd r9.2 81 44) r9.2)
          exact gEx.lab rfl rfl (hL_170 1000 r6.2)
      · have hL_84 : ∀ (n : Nat) (m15 : gM), gEx d gcx_210 sh grv 84 [some (.ref 81), none] [] m15 (L_MO_next_84 (fun m15 => J_MO_next_118 m15) n m15) := by
          refine gfix_ind (P := fun (f : gM → Option (gM)) => ∀ (m15 : gM), gEx d gcx_210 sh grv 84 [some (.ref 81), none] [] m15 (f m15)) (fun _ => gEx.none) (fun rec_84 hrec_84 => ?_)
          intro m15
          refine gEx.aload rfl rfl rfl ?_
          refine gEx.aload rfl rfl rfl ?_
          refine gEx.getI rfl rfl (h0 0 _ rfl) rfl ?_
          refine gEx.callVi rfl rfl rfl rfl (h0 0 _ rfl) rfl (fun _ h => (t_MO_byteAt (by omega) h0) _ h) (fun r11 => ?_)
          refine gEx.i2l rfl rfl ?_
          refine gEx.lconst rfl rfl ?_
          refine gEx.lconst rfl rfl ?_
          refine gEx.callSi rfl rfl rfl rfl rfl (fun _ h => (t_MO_in (by omega) ) _ h) (fun r12 => ?_)
          refine gEx.if_eq (tn := 118) rfl rfl rfl ?_ ?_
          · exact gEx.lab rfl rfl (hJ_118 r12.2)
          · refine gEx.aload rfl rfl rfl ?_
            refine gEx.dupR rfl rfl ?_
            refine gEx.getI rfl rfl (h0 0 _ rfl) rfl ?_
            refine gEx.iconst rfl rfl ?_
            refine gEx.iadd rfl rfl ?_
            refine gEx.putI rfl rfl (h0 0 _ rfl) rfl rfl rfl (fun m16 => ?_)
            refine gEx.goto (tn := 84) rfl rfl rfl ?_
            exact gEx.lab rfl rfl (hrec_84 m16)
        exact gEx.lab rfl rfl (hL_84 1000 r5.2)
  show gEx d gcx_210 sh grv 0 [some (.ref 81), none] [] m (f_MO_next  m)
  unfold f_MO_next
  refine gEx.aload rfl rfl rfl ?_
  refine gEx.getI rfl rfl (h0 0 _ rfl) rfl ?_
  refine gEx.if_le (tn := 8) rfl rfl rfl ?_ ?_
  · exact gEx.retv rfl rfl
  · have hL_8 : ∀ (n : Nat) (m18 : gM), gEx d gcx_210 sh grv 8 [some (.ref 81), none] [] m18 (L_MO_next_8 (fun m18 => J_MO_next_34 m18) n m18) := by
      refine gfix_ind (P := fun (f : gM → Option (gM)) => ∀ (m18 : gM), gEx d gcx_210 sh grv 8 [some (.ref 81), none] [] m18 (f m18)) (fun _ => gEx.none) (fun rec_8 hrec_8 => ?_)
      intro m18
      refine gEx.aload rfl rfl rfl ?_
      refine gEx.aload rfl rfl rfl ?_
      refine gEx.getI rfl rfl (h0 0 _ rfl) rfl ?_
      refine gEx.callVi rfl rfl rfl rfl (h0 0 _ rfl) rfl (fun _ h => (t_MO_byteAt (by omega) h0) _ h) (fun r13 => ?_)
      refine gEx.iconst rfl rfl ?_
      refine gEx.icmp_ne (tn := 34) rfl rfl rfl ?_ ?_
      · refine gEx.aload rfl rfl rfl ?_
        refine gEx.dupR rfl rfl ?_
        refine gEx.getI rfl rfl (h0 0 _ rfl) rfl ?_
        refine gEx.iconst rfl rfl ?_
        refine gEx.iadd rfl rfl ?_
        refine gEx.putI rfl rfl (h0 0 _ rfl) rfl rfl rfl (fun m19 => ?_)
        refine gEx.goto (tn := 8) rfl rfl rfl ?_
        exact gEx.lab rfl rfl (hrec_8 m19)
      · exact gEx.lab rfl rfl (hJ_34 r13.2)
    exact gEx.lab rfl rfl (hL_8 1000 m)
abbrev gcx_211 : gC := glook (gco_211_0)
set_option maxRecDepth 100000 in
set_option maxHeartbeats 4000000 in
theorem t_MO_number {d : Nat} (hd : 2 ≤ d) {sh : gH} {x1 : Int32} (h0 : gHas sh.1 81 gsh_MO) {m : gM} : ∀ x, f_MO_number x1 m = some x → gR gmi gdf gcd d 211 [.ref 81, .int x1] (sh, m) ((gri x).1, (sh, (gri x).2)) := by
  obtain ⟨d, rfl⟩ : ∃ e, d = e + 1 := ⟨d - 1, by omega⟩
  refine gR_of (mx := 2) (code := gcx_211) rfl rfl (Nat.le_of_ble_eq_true rfl) ?_
  have hJ_43 : ∀ (m1 : gM), gEx d gcx_211 sh gri 43 [some (.ref 81), none] [] m1 (J_MO_number_43 m1) := by
    intro m1
    unfold J_MO_number_43
    refine gEx.aload rfl rfl rfl ?_
    refine gEx.getI rfl rfl (h0 0 _ rfl) rfl ?_
    exact gEx.reti rfl rfl
  have hJ_23 : ∀ (m2 : gM), gEx d gcx_211 sh gri 23 [some (.ref 81), some (.int x1)] [] m2 (J_MO_number_23 x1 m2) := by
    intro m2
    unfold J_MO_number_23
    refine gEx.aload rfl rfl rfl ?_
    refine gEx.getI rfl rfl (h0 0 _ rfl) rfl ?_
    refine gEx.if_ne (tn := 43) rfl rfl rfl ?_ ?_
    · refine gEx.aload rfl rfl rfl ?_
      refine gEx.getI rfl rfl (h0 0 _ rfl) rfl ?_
      refine gEx.iload rfl rfl rfl ?_
      refine gEx.icmp_le (tn := 43) rfl rfl rfl ?_ ?_
      · refine gEx.aload rfl rfl rfl ?_
        refine gEx.iconst rfl rfl ?_
        refine gEx.callVv rfl rfl rfl rfl (h0 0 _ rfl) rfl (fun _ h => (t_MO_fails (by omega) h0) _ h) (fun r1 => ?_)
        exact gEx.lab rfl rfl (hJ_43 r1)
      · exact gEx.lab rfl rfl (hJ_43 m2)
    · exact gEx.lab rfl rfl (hJ_43 m2)
  show gEx d gcx_211 sh gri 0 [some (.ref 81), some (.int x1)] [] m (f_MO_number x1 m)
  unfold f_MO_number
  refine gEx.aload rfl rfl rfl ?_
  refine gEx.getI rfl rfl (h0 0 _ rfl) rfl ?_
  refine gEx.if_ne (tn := 23) rfl rfl rfl ?_ ?_
  · refine gEx.aload rfl rfl rfl ?_
    refine gEx.getI rfl rfl (h0 0 _ rfl) rfl ?_
    refine gEx.iconst rfl rfl ?_
    refine gEx.icmp_eq (tn := 23) rfl rfl rfl ?_ ?_
    · exact gEx.lab rfl rfl (hJ_23 m)
    · refine gEx.aload rfl rfl rfl ?_
      refine gEx.iconst rfl rfl ?_
      refine gEx.callVv rfl rfl rfl rfl (h0 0 _ rfl) rfl (fun _ h => (t_MO_fails (by omega) h0) _ h) (fun r2 => ?_)
      refine gEx.goto (tn := 43) rfl rfl rfl ?_
      exact gEx.lab rfl rfl (hJ_43 r2)
  · exact gEx.lab rfl rfl (hJ_23 m)
abbrev gcx_212 : gC := glook (gco_212_0)
set_option maxRecDepth 100000 in
set_option maxHeartbeats 4000000 in
theorem t_MO_once {d : Nat} (hd : 2 ≤ d) {sh : gH} {x1 : Int32} {x2 : Int32} {x3 : Int32} (h0 : gHas sh.1 81 gsh_MO) {m : gM} : ∀ x, f_MO_once x1 x2 x3 m = some x → gR gmi gdf gcd d 212 [.ref 81, .int x1, .int x2, .int x3] (sh, m) ((grv x).1, (sh, (grv x).2)) := by
  obtain ⟨d, rfl⟩ : ∃ e, d = e + 1 := ⟨d - 1, by omega⟩
  refine gR_of (mx := 5) (code := gcx_212) rfl rfl (Nat.le_of_ble_eq_true rfl) ?_
  show gEx d gcx_212 sh grv 0 [some (.ref 81), some (.int x1), some (.int x2), some (.int x3), none] [] m (f_MO_once x1 x2 x3 m)
  unfold f_MO_once
  refine gEx.iconst rfl rfl ?_
  refine gEx.istore (ls' := [some (.ref 81), some (.int x1), some (.int x2), some (.int x3), some (.int 0)]) rfl rfl rfl ?_
  have hL_3 : ∀ (n : Nat) (v1 : Int32) (m1 : gM), gEx d gcx_212 sh grv 3 [some (.ref 81), some (.int x1), some (.int x2), some (.int x3), some (.int v1)] [] m1 (L_MO_once_3 x1 x2 x3 n v1 m1) := by
    refine gfix_ind (P := fun (f : Int32 → gM → Option (gM)) => ∀ (v1 : Int32) (m1 : gM), gEx d gcx_212 sh grv 3 [some (.ref 81), some (.int x1), some (.int x2), some (.int x3), some (.int v1)] [] m1 (f v1 m1)) (fun _ _ => gEx.none) (fun rec_3 hrec_3 => ?_)
    have hJ_62 : ∀ (v2 : Int32) (m2 : gM), gEx d gcx_212 sh grv 62 [some (.ref 81), some (.int x1), some (.int x2), some (.int x3), some (.int v2)] [] m2 (J_MO_once_62 rec_3 v2 m2) := by
      intro v2 m2
      unfold J_MO_once_62
      refine gEx.iinc (ls' := [some (.ref 81), some (.int x1), some (.int x2), some (.int x3), some (.int (v2 + 1))]) rfl rfl rfl rfl ?_
      refine gEx.goto (tn := 3) rfl rfl rfl ?_
      exact gEx.lab rfl rfl (hrec_3 (v2 + 1) m2)
    have hJ_57 : ∀ (v3 : Int32) (m3 : gM), gEx d gcx_212 sh grv 57 [some (.ref 81), some (.int x1), some (.int x2), some (.int x3), some (.int v3)] [] m3 (J_MO_once_57 rec_3 v3 m3) := by
      intro v3 m3
      unfold J_MO_once_57
      refine gEx.aload rfl rfl rfl ?_
      refine gEx.iconst rfl rfl ?_
      refine gEx.callVv rfl rfl rfl rfl (h0 0 _ rfl) rfl (fun _ h => (t_MO_fails (by omega) h0) _ h) (fun r1 => ?_)
      exact gEx.lab rfl rfl (hJ_62 v3 r1)
    intro v1 m1
    refine gEx.iload rfl rfl rfl ?_
    refine gEx.aload rfl rfl rfl ?_
    refine gEx.getI rfl rfl (h0 0 _ rfl) rfl ?_
    refine gEx.icmp_ge (tn := 68) rfl rfl rfl ?_ ?_
    · refine gEx.aload rfl rfl rfl ?_
      refine gEx.getI rfl rfl (h0 0 _ rfl) rfl ?_
      refine gEx.if_ne (tn := 68) rfl rfl rfl ?_ ?_
      · refine gEx.aload rfl rfl rfl ?_
        refine gEx.getR rfl rfl (h0 0 _ rfl) rfl ?_
        refine gEx.iload rfl rfl rfl ?_
        refine gEx.iald rfl rfl (h0 39 _ rfl) ?_
        refine gEx.iload rfl rfl rfl ?_
        refine gEx.icmp_ne (tn := 62) rfl rfl rfl ?_ ?_
        · refine gEx.aload rfl rfl rfl ?_
          refine gEx.getR rfl rfl (h0 0 _ rfl) rfl ?_
          refine gEx.iload rfl rfl rfl ?_
          refine gEx.iald rfl rfl (h0 40 _ rfl) ?_
          refine gEx.iload rfl rfl rfl ?_
          refine gEx.icmp_ne (tn := 62) rfl rfl rfl ?_ ?_
          · refine gEx.iload rfl rfl rfl ?_
            refine gEx.iconst rfl rfl ?_
            refine gEx.icmp_ne (tn := 57) rfl rfl rfl ?_ ?_
            · refine gEx.aload rfl rfl rfl ?_
              refine gEx.getR rfl rfl (h0 0 _ rfl) rfl ?_
              refine gEx.iload rfl rfl rfl ?_
              refine gEx.iald rfl rfl (h0 41 _ rfl) ?_
              refine gEx.iload rfl rfl rfl ?_
              refine gEx.icmp_ne (tn := 62) rfl rfl rfl ?_ ?_
              · exact gEx.lab rfl rfl (hJ_57 v1 m1)
              · exact gEx.lab rfl rfl (hJ_62 v1 m1)
            · exact gEx.lab rfl rfl (hJ_57 v1 m1)
          · exact gEx.lab rfl rfl (hJ_62 v1 m1)
        · exact gEx.lab rfl rfl (hJ_62 v1 m1)
      · refine gEx.lab (ls' := [some (.ref 81), none, none, none, none]) rfl rfl ?_
        exact gEx.retv rfl rfl
    · refine gEx.lab (ls' := [some (.ref 81), none, none, none, none]) rfl rfl ?_
      exact gEx.retv rfl rfl
  exact gEx.lab rfl rfl (hL_3 1000 0 m)
abbrev gcx_213 : gC := glook (gco_213_0 ++ (gco_213_1 ++ (gco_213_2)))
set_option maxRecDepth 100000 in
set_option maxHeartbeats 4000000 in
theorem t_MO_oneLine {d : Nat} (hd : 4 ≤ d) {sh : gH}  (h0 : gHas sh.1 81 gsh_MO) {m : gM} : ∀ x, f_MO_oneLine  m = some x → gR gmi gdf gcd d 213 [.ref 81] (sh, m) ((grv x).1, (sh, (grv x).2)) := by
  obtain ⟨d, rfl⟩ : ∃ e, d = e + 1 := ⟨d - 1, by omega⟩
  refine gR_of (mx := 4) (code := gcx_213) rfl rfl (Nat.le_of_ble_eq_true rfl) ?_
  have hJ_175 : ∀ (v1 : Int32) (v2 : Int32) (v3 : Int32) (m1 : gM), gEx d gcx_213 sh grv 175 [some (.ref 81), some (.int v1), some (.int v2), some (.int v3)] [] m1 (J_MO_oneLine_175 v1 v2 v3 m1) := by
    intro v1 v2 v3 m1
    unfold J_MO_oneLine_175
    refine gEx.aload rfl rfl rfl ?_
    refine gEx.getI rfl rfl (h0 0 _ rfl) rfl ?_
    refine gEx.if_ne (tn := 226) rfl rfl rfl ?_ ?_
    · refine gEx.aload rfl rfl rfl ?_
      refine gEx.getR rfl rfl (h0 0 _ rfl) rfl ?_
      refine gEx.aload rfl rfl rfl ?_
      refine gEx.getI rfl rfl (h0 0 _ rfl) rfl ?_
      refine gEx.iload rfl rfl rfl ?_
      refine gEx.iast rfl rfl (h0 39 _ rfl) (fun m2 => ?_)
      refine gEx.aload rfl rfl rfl ?_
      refine gEx.getR rfl rfl (h0 0 _ rfl) rfl ?_
      refine gEx.aload rfl rfl rfl ?_
      refine gEx.getI rfl rfl (h0 0 _ rfl) rfl ?_
      refine gEx.iload rfl rfl rfl ?_
      refine gEx.iast rfl rfl (h0 40 _ rfl) (fun m3 => ?_)
      refine gEx.aload rfl rfl rfl ?_
      refine gEx.getR rfl rfl (h0 0 _ rfl) rfl ?_
      refine gEx.aload rfl rfl rfl ?_
      refine gEx.getI rfl rfl (h0 0 _ rfl) rfl ?_
      refine gEx.iload rfl rfl rfl ?_
      refine gEx.iast rfl rfl (h0 41 _ rfl) (fun m4 => ?_)
      refine gEx.aload rfl rfl rfl ?_
      refine gEx.dupR rfl rfl ?_
      refine gEx.getI rfl rfl (h0 0 _ rfl) rfl ?_
      refine gEx.iconst rfl rfl ?_
      refine gEx.iadd rfl rfl ?_
      refine gEx.putI rfl rfl (h0 0 _ rfl) rfl rfl rfl (fun m5 => ?_)
      refine gEx.aload rfl rfl rfl ?_
      refine gEx.callVv rfl rfl rfl rfl (h0 0 _ rfl) rfl (fun _ h => (t_MO_next (by omega) h0) _ h) (fun r1 => ?_)
      refine gEx.lab (ls' := [some (.ref 81), none, none, none]) rfl rfl ?_
      exact gEx.retv rfl rfl
    · refine gEx.lab (ls' := [some (.ref 81), none, none, none]) rfl rfl ?_
      exact gEx.retv rfl rfl
  have hJ_155 : ∀ (v4 : Int32) (v5 : Int32) (v6 : Int32) (m6 : gM), gEx d gcx_213 sh grv 155 [some (.ref 81), some (.int v4), some (.int v5), some (.int v6)] [] m6 (J_MO_oneLine_155 v4 v5 v6 m6) := by
    intro v4 v5 v6 m6
    unfold J_MO_oneLine_155
    refine gEx.aload rfl rfl rfl ?_
    refine gEx.getI rfl rfl (h0 0 _ rfl) rfl ?_
    refine gEx.if_ne (tn := 175) rfl rfl rfl ?_ ?_
    · refine gEx.aload rfl rfl rfl ?_
      refine gEx.getI rfl rfl (h0 0 _ rfl) rfl ?_
      refine gEx.iconst rfl rfl ?_
      refine gEx.icmp_eq (tn := 175) rfl rfl rfl ?_ ?_
      · exact gEx.lab rfl rfl (hJ_175 v4 v5 v6 m6)
      · refine gEx.aload rfl rfl rfl ?_
        refine gEx.iconst rfl rfl ?_
        refine gEx.callVv rfl rfl rfl rfl (h0 0 _ rfl) rfl (fun _ h => (t_MO_fails (by omega) h0) _ h) (fun r2 => ?_)
        exact gEx.lab rfl rfl (hJ_175 v4 v5 v6 r2)
    · exact gEx.lab rfl rfl (hJ_175 v4 v5 v6 m6)
  have hJ_151 : ∀ (v7 : Int32) (v8 : Int32) (v9 : Int32) (m7 : gM), gEx d gcx_213 sh grv 151 [some (.ref 81), some (.int v7), some (.int v8), some (.int v9)] [] m7 (J_MO_oneLine_151 v7 v8 v9 m7) := by
    intro v7 v8 v9 m7
    unfold J_MO_oneLine_151
    refine gEx.aload rfl rfl rfl ?_
    refine gEx.callVv rfl rfl rfl rfl (h0 0 _ rfl) rfl (fun _ h => (t_MO_next (by omega) h0) _ h) (fun r3 => ?_)
    exact gEx.lab rfl rfl (hJ_155 v7 v8 v9 r3)
  have hJ_119 : ∀ (v10 : Int32) (v11 : Int32) (v12 : Int32) (m8 : gM), gEx d gcx_213 sh grv 119 [some (.ref 81), some (.int v10), some (.int v11), some (.int v12)] [] m8 (J_MO_oneLine_119 v10 v11 v12 m8) := by
    intro v10 v11 v12 m8
    unfold J_MO_oneLine_119
    refine gEx.aload rfl rfl rfl ?_
    refine gEx.callVv rfl rfl rfl rfl (h0 0 _ rfl) rfl (fun _ h => (t_MO_next (by omega) h0) _ h) (fun r4 => ?_)
    refine gEx.iload rfl rfl rfl ?_
    refine gEx.iconst rfl rfl ?_
    refine gEx.icmp_eq (tn := 155) rfl rfl rfl ?_ ?_
    · exact gEx.lab rfl rfl (hJ_155 v10 v11 v12 r4)
    · refine gEx.aload rfl rfl rfl ?_
      refine gEx.aload rfl rfl rfl ?_
      refine gEx.getR rfl rfl (h0 0 _ rfl) rfl ?_
      refine gEx.iload rfl rfl rfl ?_
      refine gEx.iald rfl rfl (h0 34 _ rfl) ?_
      refine gEx.callVi rfl rfl rfl rfl (h0 0 _ rfl) rfl (fun _ h => (t_MO_number (by omega) h0) _ h) (fun r5 => ?_)
      refine gEx.istore (ls' := [some (.ref 81), some (.int v10), some (.int v11), some (.int r5.1)]) rfl rfl rfl ?_
      refine gEx.iload rfl rfl rfl ?_
      refine gEx.iconst rfl rfl ?_
      refine gEx.icmp_ne (tn := 151) rfl rfl rfl ?_ ?_
      · refine gEx.aload rfl rfl rfl ?_
        refine gEx.iload rfl rfl rfl ?_
        refine gEx.iload rfl rfl rfl ?_
        refine gEx.iload rfl rfl rfl ?_
        refine gEx.callVv rfl rfl rfl rfl (h0 0 _ rfl) rfl (fun _ h => (t_MO_once (by omega) h0) _ h) (fun r6 => ?_)
        exact gEx.lab rfl rfl (hJ_151 v10 v11 r5.1 r6)
      · exact gEx.lab rfl rfl (hJ_151 v10 v11 r5.1 r5.2)
  have hJ_92 : ∀ (v13 : Int32) (m9 : gM), gEx d gcx_213 sh grv 92 [some (.ref 81), some (.int v13), none, none] [] m9 (J_MO_oneLine_92 v13 m9) := by
    intro v13 m9
    unfold J_MO_oneLine_92
    refine gEx.aload rfl rfl rfl ?_
    refine gEx.getI rfl rfl (h0 0 _ rfl) rfl ?_
    refine gEx.if_le (tn := 100) rfl rfl rfl ?_ ?_
    · exact gEx.retv rfl rfl
    · refine gEx.aload rfl rfl rfl ?_
      refine gEx.getI rfl rfl (h0 0 _ rfl) rfl ?_
      refine gEx.istoreL (ls' := fun v14 => [some (.ref 81), some (.int v13), some (.int v14), none]) rfl rfl (fun _ => rfl) (fun v14 => ?_)
      refine gEx.iconst rfl rfl ?_
      refine gEx.istore (ls' := [some (.ref 81), some (.int v13), some (.int v14), some (.int 0)]) rfl rfl rfl ?_
      refine gEx.iload rfl rfl rfl ?_
      refine gEx.iconst rfl rfl ?_
      refine gEx.icmp_eq (tn := 119) rfl rfl rfl ?_ ?_
      · exact gEx.lab rfl rfl (hJ_119 v13 v14 0 m9)
      · refine gEx.aload rfl rfl rfl ?_
        refine gEx.iload rfl rfl rfl ?_
        refine gEx.iload rfl rfl rfl ?_
        refine gEx.iconst rfl rfl ?_
        refine gEx.callVv rfl rfl rfl rfl (h0 0 _ rfl) rfl (fun _ h => (t_MO_once (by omega) h0) _ h) (fun r7 => ?_)
        exact gEx.lab rfl rfl (hJ_119 v13 v14 0 r7)
  have hJ_87 : ∀ (v15 : Int32) (m10 : gM), gEx d gcx_213 sh grv 87 [some (.ref 81), some (.int v15), none, none] [] m10 (J_MO_oneLine_87 v15 m10) := by
    intro v15 m10
    unfold J_MO_oneLine_87
    refine gEx.aload rfl rfl rfl ?_
    refine gEx.iconst rfl rfl ?_
    refine gEx.callVv rfl rfl rfl rfl (h0 0 _ rfl) rfl (fun _ h => (t_MO_fails (by omega) h0) _ h) (fun r8 => ?_)
    exact gEx.lab rfl rfl (hJ_92 v15 r8)
  have hJ_30 : ∀ (m11 : gM), gEx d gcx_213 sh grv 30 [some (.ref 81), none, none, none] [] m11 (J_MO_oneLine_30 m11) := by
    intro m11
    unfold J_MO_oneLine_30
    refine gEx.iconst rfl rfl ?_
    refine gEx.istore (ls' := [some (.ref 81), some (.int 0), none, none]) rfl rfl rfl ?_
    refine gEx.aload rfl rfl rfl ?_
    refine gEx.getI rfl rfl (h0 0 _ rfl) rfl ?_
    refine gEx.if_ne (tn := 92) rfl rfl rfl ?_ ?_
    · refine gEx.aload rfl rfl rfl ?_
      refine gEx.getI rfl rfl (h0 0 _ rfl) rfl ?_
      refine gEx.iconst rfl rfl ?_
      refine gEx.icmp_ne (tn := 92) rfl rfl rfl ?_ ?_
      · refine gEx.aload rfl rfl rfl ?_
        refine gEx.callVv rfl rfl rfl rfl (h0 0 _ rfl) rfl (fun _ h => (t_MO_next (by omega) h0) _ h) (fun r9 => ?_)
        refine gEx.aload rfl rfl rfl ?_
        refine gEx.iconst rfl rfl ?_
        refine gEx.callVi rfl rfl rfl rfl (h0 0 _ rfl) rfl (fun _ h => (t_MO_number (by omega) h0) _ h) (fun r10 => ?_)
        refine gEx.istore (ls' := [some (.ref 81), some (.int r10.1), none, none]) rfl rfl rfl ?_
        refine gEx.aload rfl rfl rfl ?_
        refine gEx.callVv rfl rfl rfl rfl (h0 0 _ rfl) rfl (fun _ h => (t_MO_next (by omega) h0) _ h) (fun r11 => ?_)
        refine gEx.aload rfl rfl rfl ?_
        refine gEx.getI rfl rfl (h0 0 _ rfl) rfl ?_
        refine gEx.if_ne (tn := 92) rfl rfl rfl ?_ ?_
        · refine gEx.aload rfl rfl rfl ?_
          refine gEx.getI rfl rfl (h0 0 _ rfl) rfl ?_
          refine gEx.iconst rfl rfl ?_
          refine gEx.icmp_ne (tn := 87) rfl rfl rfl ?_ ?_
          · refine gEx.aload rfl rfl rfl ?_
            refine gEx.getI rfl rfl (h0 0 _ rfl) rfl ?_
            refine gEx.iconst rfl rfl ?_
            refine gEx.icmp_ne (tn := 92) rfl rfl rfl ?_ ?_
            · exact gEx.lab rfl rfl (hJ_87 r10.1 r11)
            · exact gEx.lab rfl rfl (hJ_92 r10.1 r11)
          · exact gEx.lab rfl rfl (hJ_87 r10.1 r11)
        · exact gEx.lab rfl rfl (hJ_92 r10.1 r11)
      · exact gEx.lab rfl rfl (hJ_92 0 m11)
    · exact gEx.lab rfl rfl (hJ_92 0 m11)
  show gEx d gcx_213 sh grv 0 [some (.ref 81), none, none, none] [] m (f_MO_oneLine  m)
  unfold f_MO_oneLine
  refine gEx.aload rfl rfl rfl ?_
  refine gEx.getI rfl rfl (h0 0 _ rfl) rfl ?_
  refine gEx.iconst rfl rfl ?_
  refine gEx.icmp_eq (tn := 16) rfl rfl rfl ?_ ?_
  · refine gEx.aload rfl rfl rfl ?_
    refine gEx.getI rfl rfl (h0 0 _ rfl) rfl ?_
    refine gEx.iconst rfl rfl ?_
    refine gEx.icmp_ne (tn := 30) rfl rfl rfl ?_ ?_
    · refine gEx.aload rfl rfl rfl ?_
      refine gEx.iconst rfl rfl ?_
      refine gEx.callVv rfl rfl rfl rfl (h0 0 _ rfl) rfl (fun _ h => (t_MO_fails (by omega) h0) _ h) (fun r12 => ?_)
      exact gEx.lab rfl rfl (hJ_30 r12)
    · exact gEx.lab rfl rfl (hJ_30 m)
  · refine gEx.aload rfl rfl rfl ?_
    refine gEx.iconst rfl rfl ?_
    refine gEx.callVv rfl rfl rfl rfl (h0 0 _ rfl) rfl (fun _ h => (t_MO_fails (by omega) h0) _ h) (fun r13 => ?_)
    refine gEx.goto (tn := 30) rfl rfl rfl ?_
    exact gEx.lab rfl rfl (hJ_30 r13)
abbrev gcx_214 : gC := glook (gco_214_0 ++ (gco_214_1))
set_option maxRecDepth 100000 in
set_option maxHeartbeats 4000000 in
theorem t_MO_orders {d : Nat} (hd : 5 ≤ d) {sh : gH}  (h0 : gHas sh.1 81 gsh_MO) {m : gM} : ∀ x, f_MO_orders  m = some x → gR gmi gdf gcd d 214 [.ref 81] (sh, m) ((gri x).1, (sh, (gri x).2)) := by
  obtain ⟨d, rfl⟩ : ∃ e, d = e + 1 := ⟨d - 1, by omega⟩
  refine gR_of (mx := 2) (code := gcx_214) rfl rfl (Nat.le_of_ble_eq_true rfl) ?_
  have hJ_133 : ∀ (v1 : Int32) (m1 : gM), gEx d gcx_214 sh gri 133 [some (.ref 81), some (.int v1)] [] m1 (J_MO_orders_133 v1 m1) := by
    intro v1 m1
    unfold J_MO_orders_133
    refine gEx.aload rfl rfl rfl ?_
    refine gEx.getI rfl rfl (h0 0 _ rfl) rfl ?_
    exact gEx.reti rfl rfl
  have hJ_40 : ∀ (m2 : gM), gEx d gcx_214 sh gri 40 [some (.ref 81), none] [] m2 (J_MO_orders_40 m2) := by
    intro m2
    unfold J_MO_orders_40
    refine gEx.aload rfl rfl rfl ?_
    refine gEx.iconst rfl rfl ?_
    refine gEx.putI rfl rfl (h0 0 _ rfl) rfl rfl rfl (fun m3 => ?_)
    refine gEx.aload rfl rfl rfl ?_
    refine gEx.aload rfl rfl rfl ?_
    refine gEx.getI rfl rfl (h0 0 _ rfl) rfl ?_
    refine gEx.putI rfl rfl (h0 0 _ rfl) rfl rfl rfl (fun m4 => ?_)
    refine gEx.aload rfl rfl rfl ?_
    refine gEx.getI rfl rfl (h0 0 _ rfl) rfl ?_
    refine gEx.if_le (tn := 68) rfl rfl rfl ?_ ?_
    · refine gEx.iconst rfl rfl ?_
      refine gEx.aload rfl rfl rfl ?_
      refine gEx.getI rfl rfl (h0 0 _ rfl) rfl ?_
      refine gEx.isub rfl rfl ?_
      exact gEx.reti rfl rfl
    · refine gEx.aload rfl rfl rfl ?_
      refine gEx.aload rfl rfl rfl ?_
      refine gEx.getI rfl rfl (h0 0 _ rfl) rfl ?_
      refine gEx.putI rfl rfl (h0 0 _ rfl) rfl rfl rfl (fun m5 => ?_)
      refine gEx.iconst rfl rfl ?_
      refine gEx.istore (ls' := [some (.ref 81), some (.int 0)]) rfl rfl rfl ?_
      have hL_78 : ∀ (n : Nat) (v2 : Int32) (m6 : gM), gEx d gcx_214 sh gri 78 [some (.ref 81), some (.int v2)] [] m6 (L_MO_orders_78 (fun v2 m6 => J_MO_orders_133 v2 m6) n v2 m6) := by
        refine gfix_ind (P := fun (f : Int32 → gM → Option (Int32 × gM)) => ∀ (v2 : Int32) (m6 : gM), gEx d gcx_214 sh gri 78 [some (.ref 81), some (.int v2)] [] m6 (f v2 m6)) (fun _ _ => gEx.none) (fun rec_78 hrec_78 => ?_)
        intro v2 m6
        refine gEx.iload rfl rfl rfl ?_
        refine gEx.iconst rfl rfl ?_
        refine gEx.icmp_ge (tn := 133) rfl rfl rfl ?_ ?_
        · refine gEx.aload rfl rfl rfl ?_
          refine gEx.getR rfl rfl (h0 0 _ rfl) rfl ?_
          refine gEx.iload rfl rfl rfl ?_
          refine gEx.aload rfl rfl rfl ?_
          refine gEx.getR rfl rfl (h0 0 _ rfl) rfl ?_
          refine gEx.iload rfl rfl rfl ?_
          refine gEx.iald rfl rfl (h0 39 _ rfl) ?_
          refine gEx.iast rfl rfl (h0 35 _ rfl) (fun m7 => ?_)
          refine gEx.aload rfl rfl rfl ?_
          refine gEx.getR rfl rfl (h0 0 _ rfl) rfl ?_
          refine gEx.iload rfl rfl rfl ?_
          refine gEx.aload rfl rfl rfl ?_
          refine gEx.getR rfl rfl (h0 0 _ rfl) rfl ?_
          refine gEx.iload rfl rfl rfl ?_
          refine gEx.iald rfl rfl (h0 40 _ rfl) ?_
          refine gEx.iast rfl rfl (h0 36 _ rfl) (fun m8 => ?_)
          refine gEx.aload rfl rfl rfl ?_
          refine gEx.getR rfl rfl (h0 0 _ rfl) rfl ?_
          refine gEx.iload rfl rfl rfl ?_
          refine gEx.aload rfl rfl rfl ?_
          refine gEx.getR rfl rfl (h0 0 _ rfl) rfl ?_
          refine gEx.iload rfl rfl rfl ?_
          refine gEx.iald rfl rfl (h0 41 _ rfl) ?_
          refine gEx.iast rfl rfl (h0 37 _ rfl) (fun m9 => ?_)
          refine gEx.aload rfl rfl rfl ?_
          refine gEx.getR rfl rfl (h0 0 _ rfl) rfl ?_
          refine gEx.iload rfl rfl rfl ?_
          refine gEx.iconst rfl rfl ?_
          refine gEx.iast rfl rfl (h0 38 _ rfl) (fun m10 => ?_)
          refine gEx.iinc (ls' := [some (.ref 81), some (.int (v2 + 1))]) rfl rfl rfl rfl ?_
          refine gEx.goto (tn := 78) rfl rfl rfl ?_
          exact gEx.lab rfl rfl (hrec_78 (v2 + 1) m10)
        · exact gEx.lab rfl rfl (hJ_133 v2 m6)
      exact gEx.lab rfl rfl (hL_78 1000 0 m5)
  show gEx d gcx_214 sh gri 0 [some (.ref 81), none] [] m (f_MO_orders  m)
  unfold f_MO_orders
  refine gEx.aload rfl rfl rfl ?_
  refine gEx.iconst rfl rfl ?_
  refine gEx.putI rfl rfl (h0 0 _ rfl) rfl rfl rfl (fun m11 => ?_)
  refine gEx.aload rfl rfl rfl ?_
  refine gEx.iconst rfl rfl ?_
  refine gEx.putI rfl rfl (h0 0 _ rfl) rfl rfl rfl (fun m12 => ?_)
  refine gEx.aload rfl rfl rfl ?_
  refine gEx.iconst rfl rfl ?_
  refine gEx.putI rfl rfl (h0 0 _ rfl) rfl rfl rfl (fun m13 => ?_)
  refine gEx.aload rfl rfl rfl ?_
  refine gEx.callVv rfl rfl rfl rfl (h0 0 _ rfl) rfl (fun _ h => (t_MO_next (by omega) h0) _ h) (fun r1 => ?_)
  have hL_19 : ∀ (n : Nat) (m14 : gM), gEx d gcx_214 sh gri 19 [some (.ref 81), none] [] m14 (L_MO_orders_19 (fun m14 => J_MO_orders_40 m14) n m14) := by
    refine gfix_ind (P := fun (f : gM → Option (Int32 × gM)) => ∀ (m14 : gM), gEx d gcx_214 sh gri 19 [some (.ref 81), none] [] m14 (f m14)) (fun _ => gEx.none) (fun rec_19 hrec_19 => ?_)
    intro m14
    refine gEx.aload rfl rfl rfl ?_
    refine gEx.getI rfl rfl (h0 0 _ rfl) rfl ?_
    refine gEx.if_ne (tn := 40) rfl rfl rfl ?_ ?_
    · refine gEx.aload rfl rfl rfl ?_
      refine gEx.getI rfl rfl (h0 0 _ rfl) rfl ?_
      refine gEx.if_eq (tn := 40) rfl rfl rfl ?_ ?_
      · exact gEx.lab rfl rfl (hJ_40 m14)
      · refine gEx.aload rfl rfl rfl ?_
        refine gEx.callVv rfl rfl rfl rfl (h0 0 _ rfl) rfl (fun _ h => (t_MO_oneLine (by omega) h0) _ h) (fun r2 => ?_)
        refine gEx.goto (tn := 19) rfl rfl rfl ?_
        exact gEx.lab rfl rfl (hrec_19 r2)
    · exact gEx.lab rfl rfl (hJ_40 m14)
  exact gEx.lab rfl rfl (hL_19 1000 r1)
abbrev gcx_215 : gC := glook (gco_215_0)
set_option maxRecDepth 100000 in
set_option maxHeartbeats 4000000 in
theorem t_MO_fault {d : Nat} (hd : 1 ≤ d) {sh : gH}  (h0 : gHas sh.1 81 gsh_MO) {m : gM} : ∀ x, f_MO_fault  m = some x → gR gmi gdf gcd d 215 [.ref 81] (sh, m) ((gri x).1, (sh, (gri x).2)) := by
  obtain ⟨d, rfl⟩ : ∃ e, d = e + 1 := ⟨d - 1, by omega⟩
  refine gR_of (mx := 1) (code := gcx_215) rfl rfl (Nat.le_of_ble_eq_true rfl) ?_
  show gEx d gcx_215 sh gri 0 [some (.ref 81)] [] m (f_MO_fault  m)
  unfold f_MO_fault
  refine gEx.aload rfl rfl rfl ?_
  refine gEx.getI rfl rfl (h0 0 _ rfl) rfl ?_
  exact gEx.reti rfl rfl
abbrev gcx_217 : gC := glook (gco_217_0)
set_option maxRecDepth 100000 in
set_option maxHeartbeats 4000000 in
theorem t_MO_line {d : Nat} (hd : 2 ≤ d) {sh : gH} {x1 : Int32} {x2 : Int32} (h0 : gHas sh.1 81 gsh_MO) {m : gM} : ∀ x, f_MO_line x1 x2 m = some x → gR gmi gdf gcd d 217 [.ref 81, .int x1, .int x2] (sh, m) ((gri x).1, (sh, (gri x).2)) := by
  obtain ⟨d, rfl⟩ : ∃ e, d = e + 1 := ⟨d - 1, by omega⟩
  refine gR_of (mx := 3) (code := gcx_217) rfl rfl (Nat.le_of_ble_eq_true rfl) ?_
  show gEx d gcx_217 sh gri 0 [some (.ref 81), some (.int x1), some (.int x2)] [] m (f_MO_line x1 x2 m)
  unfold f_MO_line
  refine gEx.iload rfl rfl rfl ?_
  refine gEx.i2l rfl rfl ?_
  refine gEx.lconst rfl rfl ?_
  refine gEx.aload rfl rfl rfl ?_
  refine gEx.getI rfl rfl (h0 0 _ rfl) rfl ?_
  refine gEx.iconst rfl rfl ?_
  refine gEx.isub rfl rfl ?_
  refine gEx.i2l rfl rfl ?_
  refine gEx.callSi rfl rfl rfl rfl rfl (fun _ h => (t_MO_in (by omega) ) _ h) (fun r1 => ?_)
  refine gEx.if_ne (tn := 18) rfl rfl rfl ?_ ?_
  · refine gEx.iconst rfl rfl ?_
    exact gEx.reti rfl rfl
  · refine gEx.iload rfl rfl rfl ?_
    refine gEx.if_ne (tn := 31) rfl rfl rfl ?_ ?_
    · refine gEx.aload rfl rfl rfl ?_
      refine gEx.getR rfl rfl (h0 0 _ rfl) rfl ?_
      refine gEx.iload rfl rfl rfl ?_
      refine gEx.iald rfl rfl (h0 35 _ rfl) ?_
      refine gEx.goto (tn := 74) rfl rfl rfl ?_
      refine gEx.lab (ls' := [some (.ref 81), none, none]) rfl rfl ?_
      exact gEx.reti rfl rfl
    · refine gEx.iload rfl rfl rfl ?_
      refine gEx.iconst rfl rfl ?_
      refine gEx.icmp_ne (tn := 45) rfl rfl rfl ?_ ?_
      · refine gEx.aload rfl rfl rfl ?_
        refine gEx.getR rfl rfl (h0 0 _ rfl) rfl ?_
        refine gEx.iload rfl rfl rfl ?_
        refine gEx.iald rfl rfl (h0 36 _ rfl) ?_
        refine gEx.goto (tn := 74) rfl rfl rfl ?_
        refine gEx.lab (ls' := [some (.ref 81), none, none]) rfl rfl ?_
        exact gEx.reti rfl rfl
      · refine gEx.iload rfl rfl rfl ?_
        refine gEx.iconst rfl rfl ?_
        refine gEx.icmp_ne (tn := 59) rfl rfl rfl ?_ ?_
        · refine gEx.aload rfl rfl rfl ?_
          refine gEx.getR rfl rfl (h0 0 _ rfl) rfl ?_
          refine gEx.iload rfl rfl rfl ?_
          refine gEx.iald rfl rfl (h0 37 _ rfl) ?_
          refine gEx.goto (tn := 74) rfl rfl rfl ?_
          refine gEx.lab (ls' := [some (.ref 81), none, none]) rfl rfl ?_
          exact gEx.reti rfl rfl
        · refine gEx.iload rfl rfl rfl ?_
          refine gEx.iconst rfl rfl ?_
          refine gEx.icmp_ne (tn := 73) rfl rfl rfl ?_ ?_
          · refine gEx.aload rfl rfl rfl ?_
            refine gEx.getR rfl rfl (h0 0 _ rfl) rfl ?_
            refine gEx.iload rfl rfl rfl ?_
            refine gEx.iald rfl rfl (h0 38 _ rfl) ?_
            refine gEx.goto (tn := 74) rfl rfl rfl ?_
            refine gEx.lab (ls' := [some (.ref 81), none, none]) rfl rfl ?_
            exact gEx.reti rfl rfl
          · refine gEx.iconst rfl rfl ?_
            refine gEx.lab (ls' := [some (.ref 81), none, none]) rfl rfl ?_
            exact gEx.reti rfl rfl
abbrev gcx_218 : gC := glook (gco_218_0)
set_option maxRecDepth 100000 in
set_option maxHeartbeats 4000000 in
theorem t_MO_voids {d : Nat} (hd : 6 ≤ d) {sh : gH} {x1 : Int32} (h0 : gHas sh.1 81 gsh_MO) {m : gM} : ∀ x, f_MO_voids x1 m = some x → gR gmi gdf gcd d 218 [.ref 81, .int x1] (sh, m) ((gri x).1, (sh, (gri x).2)) := by
  obtain ⟨d, rfl⟩ : ∃ e, d = e + 1 := ⟨d - 1, by omega⟩
  refine gR_of (mx := 3) (code := gcx_218) rfl rfl (Nat.le_of_ble_eq_true rfl) ?_
  show gEx d gcx_218 sh gri 0 [some (.ref 81), some (.int x1), none] [] m (f_MO_voids x1 m)
  unfold f_MO_voids
  refine gEx.iload rfl rfl rfl ?_
  refine gEx.i2l rfl rfl ?_
  refine gEx.lconst rfl rfl ?_
  refine gEx.aload rfl rfl rfl ?_
  refine gEx.getI rfl rfl (h0 0 _ rfl) rfl ?_
  refine gEx.iconst rfl rfl ?_
  refine gEx.isub rfl rfl ?_
  refine gEx.i2l rfl rfl ?_
  refine gEx.callSi rfl rfl rfl rfl rfl (fun _ h => (t_MO_in (by omega) ) _ h) (fun r1 => ?_)
  refine gEx.if_ne (tn := 20) rfl rfl rfl ?_ ?_
  · refine gEx.iconst rfl rfl ?_
    exact gEx.reti rfl rfl
  · refine gEx.aload rfl rfl rfl ?_
    refine gEx.getR rfl rfl (h0 0 _ rfl) rfl ?_
    refine gEx.iload rfl rfl rfl ?_
    refine gEx.iald rfl rfl (h0 38 _ rfl) ?_
    refine gEx.iconst rfl rfl ?_
    refine gEx.icmp_ne (tn := 34) rfl rfl rfl ?_ ?_
    · refine gEx.iconst rfl rfl ?_
      exact gEx.reti rfl rfl
    · refine gEx.aload rfl rfl rfl ?_
      refine gEx.callVi rfl rfl rfl rfl (h0 0 _ rfl) rfl (fun _ h => (t_MO_hotAll (by omega) h0) _ h) (fun r2 => ?_)
      refine gEx.istore (ls' := [some (.ref 81), some (.int x1), some (.int r2.1)]) rfl rfl rfl ?_
      refine gEx.aload rfl rfl rfl ?_
      refine gEx.getR rfl rfl (h0 0 _ rfl) rfl ?_
      refine gEx.iload rfl rfl rfl ?_
      refine gEx.iconst rfl rfl ?_
      refine gEx.iast rfl rfl (h0 38 _ rfl) (fun m1 => ?_)
      refine gEx.iload rfl rfl rfl ?_
      refine gEx.aload rfl rfl rfl ?_
      refine gEx.callVi rfl rfl rfl rfl (h0 0 _ rfl) rfl (fun _ h => (t_MO_hotAll (by omega) h0) _ h) (fun r3 => ?_)
      refine gEx.isub rfl rfl ?_
      exact gEx.reti rfl rfl
abbrev gcx_219 : gC := glook (gco_219_0 ++ (gco_219_1))
set_option maxRecDepth 100000 in
set_option maxHeartbeats 4000000 in
theorem t_MO_lets {d : Nat} (hd : 4 ≤ d) {sh : gH} {x1 : Int32} {x2 : Int32} {x3 : Int32} (h0 : gHas sh.1 81 gsh_MO) {m : gM} : ∀ x, f_MO_lets x1 x2 x3 m = some x → gR gmi gdf gcd d 219 [.ref 81, .int x1, .int x2, .int x3] (sh, m) ((gri x).1, (sh, (gri x).2)) := by
  obtain ⟨d, rfl⟩ : ∃ e, d = e + 1 := ⟨d - 1, by omega⟩
  refine gR_of (mx := 7) (code := gcx_219) rfl rfl (Nat.le_of_ble_eq_true rfl) ?_
  have hJ_65 : ∀ (v1 : Int32) (m1 : gM), gEx d gcx_219 sh gri 65 [some (.ref 81), some (.int x1), some (.int x2), some (.int x3), none, none, none] [.int v1] m1 (J_MO_lets_65 x1 x2 x3 v1 m1) := by
    intro v1 m1
    unfold J_MO_lets_65
    refine gEx.istore (ls' := [some (.ref 81), some (.int x1), some (.int x2), some (.int x3), none, some (.int v1), none]) rfl rfl rfl ?_
    refine gEx.iconst rfl rfl ?_
    refine gEx.istore (ls' := [some (.ref 81), some (.int x1), some (.int x2), some (.int x3), none, some (.int v1), some (.int 9)]) rfl rfl rfl ?_
    have hL_71 : ∀ (n : Nat) (v2 : Int32) (m2 : gM), gEx d gcx_219 sh gri 71 [some (.ref 81), some (.int x1), some (.int x2), some (.int x3), none, some (.int v1), some (.int v2)] [] m2 (L_MO_lets_71 x1 x2 x3 v1 n v2 m2) := by
      refine gfix_ind (P := fun (f : Int32 → gM → Option (Int32 × gM)) => ∀ (v2 : Int32) (m2 : gM), gEx d gcx_219 sh gri 71 [some (.ref 81), some (.int x1), some (.int x2), some (.int x3), none, some (.int v1), some (.int v2)] [] m2 (f v2 m2)) (fun _ _ => gEx.none) (fun rec_71 hrec_71 => ?_)
      have hJ_101 : ∀ (v3 : Int32) (v4 : Int32) (v5 : Int32) (v6 : Int32) (v7 : Int32) (m3 : gM), gEx d gcx_219 sh gri 101 [some (.ref 81), some (.int x1), some (.int x2), some (.int x3), none, some (.int v1), some (.int v3)] [.int v7, .int v6, .int v5, .int v4, .ref 81] m3 (J_MO_lets_101 rec_71 v3 v4 v5 v6 v7 m3) := by
        intro v3 v4 v5 v6 v7 m3
        unfold J_MO_lets_101
        refine gEx.callVi rfl rfl rfl rfl (h0 0 _ rfl) rfl (fun _ h => (t_MO_whyNot (by omega) h0) _ h) (fun r1 => ?_)
        refine gEx.if_ne (tn := 110) rfl rfl rfl ?_ ?_
        · refine gEx.iload rfl rfl rfl ?_
          exact gEx.reti rfl rfl
        · refine gEx.iinc (ls' := [some (.ref 81), some (.int x1), some (.int x2), some (.int x3), none, some (.int v1), some (.int (v3 + (-1)))]) rfl rfl rfl rfl ?_
          refine gEx.goto (tn := 71) rfl rfl rfl ?_
          exact gEx.lab rfl rfl (hrec_71 (v3 + (-1)) r1.2)
      have hJ_90 : ∀ (v8 : Int32) (v9 : Int32) (v10 : Int32) (v11 : Int32) (m4 : gM), gEx d gcx_219 sh gri 90 [some (.ref 81), some (.int x1), some (.int x2), some (.int x3), none, some (.int v1), some (.int v8)] [.int v11, .int v10, .int v9, .ref 81] m4 (J_MO_lets_90 x3 v1 rec_71 v8 v9 v10 v11 m4) := by
        intro v8 v9 v10 v11 m4
        unfold J_MO_lets_90
        refine gEx.iload rfl rfl rfl ?_
        refine gEx.if_ne (tn := 99) rfl rfl rfl ?_ ?_
        · refine gEx.iload rfl rfl rfl ?_
          refine gEx.goto (tn := 101) rfl rfl rfl ?_
          exact gEx.lab rfl rfl (hJ_101 v8 v9 v10 v11 v1 m4)
        · refine gEx.iload rfl rfl rfl ?_
          exact gEx.lab rfl rfl (hJ_101 v8 v9 v10 v11 v8 m4)
      intro v2 m2
      refine gEx.iload rfl rfl rfl ?_
      refine gEx.if_lt (tn := 116) rfl rfl rfl ?_ ?_
      · refine gEx.iconst rfl rfl ?_
        exact gEx.reti rfl rfl
      · refine gEx.aload rfl rfl rfl ?_
        refine gEx.iload rfl rfl rfl ?_
        refine gEx.iload rfl rfl rfl ?_
        refine gEx.iload rfl rfl rfl ?_
        refine gEx.if_ne (tn := 88) rfl rfl rfl ?_ ?_
        · refine gEx.iload rfl rfl rfl ?_
          refine gEx.goto (tn := 90) rfl rfl rfl ?_
          exact gEx.lab rfl rfl (hJ_90 v2 x1 x2 v2 m2)
        · refine gEx.iload rfl rfl rfl ?_
          exact gEx.lab rfl rfl (hJ_90 v2 x1 x2 v1 m2)
    exact gEx.lab rfl rfl (hL_71 1000 9 m1)
  have hJ_38 : ∀ (v12 : Int32) (m5 : gM), gEx d gcx_219 sh gri 38 [some (.ref 81), some (.int x1), some (.int x2), some (.int x3), none, none, none] [.int v12, .ref 81] m5 (J_MO_lets_38 x1 x2 x3 v12 m5) := by
    intro v12 m5
    unfold J_MO_lets_38
    refine gEx.aload rfl rfl rfl ?_
    refine gEx.callVi rfl rfl rfl rfl (h0 0 _ rfl) rfl (fun _ h => (t_MO_shift (by omega) h0) _ h) (fun r2 => ?_)
    refine gEx.callVi rfl rfl rfl rfl (h0 0 _ rfl) rfl (fun _ h => (t_MO_lineAt (by omega) h0) _ h) (fun r3 => ?_)
    refine gEx.istore (ls' := [some (.ref 81), some (.int x1), some (.int x2), some (.int x3), some (.int r3.1), none, none]) rfl rfl rfl ?_
    refine gEx.iload rfl rfl rfl ?_
    refine gEx.iconst rfl rfl ?_
    refine gEx.icmp_ne (tn := 58) rfl rfl rfl ?_ ?_
    · refine gEx.iconst rfl rfl ?_
      refine gEx.goto (tn := 65) rfl rfl rfl ?_
      exact gEx.lab rfl rfl (hJ_65 0 r3.2)
    · refine gEx.aload rfl rfl rfl ?_
      refine gEx.getR rfl rfl (h0 0 _ rfl) rfl ?_
      refine gEx.iload rfl rfl rfl ?_
      refine gEx.iald rfl rfl (h0 37 _ rfl) ?_
      exact gEx.lab rfl rfl (hJ_65 (grd r3.2 118 r3.1) r3.2)
  show gEx d gcx_219 sh gri 0 [some (.ref 81), some (.int x1), some (.int x2), some (.int x3), none, none, none] [] m (f_MO_lets x1 x2 x3 m)
  unfold f_MO_lets
  refine gEx.aload rfl rfl rfl ?_
  refine gEx.iload rfl rfl rfl ?_
  refine gEx.callVi rfl rfl rfl rfl (h0 0 _ rfl) rfl (fun _ h => (t_MO_isPerson (by omega) h0) _ h) (fun r4 => ?_)
  refine gEx.if_eq (tn := 26) rfl rfl rfl ?_ ?_
  · refine gEx.lab (ls' := [some (.ref 81), none, none, none, none, none, none]) rfl rfl ?_
    refine gEx.iconst rfl rfl ?_
    exact gEx.reti rfl rfl
  · refine gEx.aload rfl rfl rfl ?_
    refine gEx.iload rfl rfl rfl ?_
    refine gEx.callVi rfl rfl rfl rfl (h0 0 _ rfl) rfl (fun _ h => (t_MO_isCell (by omega) h0) _ h) (fun r5 => ?_)
    refine gEx.if_eq (tn := 26) rfl rfl rfl ?_ ?_
    · refine gEx.lab (ls' := [some (.ref 81), none, none, none, none, none, none]) rfl rfl ?_
      refine gEx.iconst rfl rfl ?_
      exact gEx.reti rfl rfl
    · refine gEx.iload rfl rfl rfl ?_
      refine gEx.i2l rfl rfl ?_
      refine gEx.lconst rfl rfl ?_
      refine gEx.lconst rfl rfl ?_
      refine gEx.callSi rfl rfl rfl rfl rfl (fun _ h => (t_MO_in (by omega) ) _ h) (fun r6 => ?_)
      refine gEx.if_ne (tn := 28) rfl rfl rfl ?_ ?_
      · refine gEx.lab (ls' := [some (.ref 81), none, none, none, none, none, none]) rfl rfl ?_
        refine gEx.iconst rfl rfl ?_
        exact gEx.reti rfl rfl
      · refine gEx.aload rfl rfl rfl ?_
        refine gEx.iload rfl rfl rfl ?_
        refine gEx.if_ne (tn := 37) rfl rfl rfl ?_ ?_
        · refine gEx.iconst rfl rfl ?_
          refine gEx.goto (tn := 38) rfl rfl rfl ?_
          exact gEx.lab rfl rfl (hJ_38 1 r6.2)
        · refine gEx.iconst rfl rfl ?_
          exact gEx.lab rfl rfl (hJ_38 0 r6.2)
abbrev gcx_220 : gC := glook (gco_220_0)
set_option maxRecDepth 100000 in
set_option maxHeartbeats 4000000 in
theorem t_MO_turn {d : Nat} (hd : 1 ≤ d) {sh : gH} {x1 : Int32} (h0 : gHas sh.1 81 gsh_MO) {m : gM} : ∀ x, f_MO_turn x1 m = some x → gR gmi gdf gcd d 220 [.ref 81, .int x1] (sh, m) ((gri x).1, (sh, (gri x).2)) := by
  obtain ⟨d, rfl⟩ : ∃ e, d = e + 1 := ⟨d - 1, by omega⟩
  refine gR_of (mx := 3) (code := gcx_220) rfl rfl (Nat.le_of_ble_eq_true rfl) ?_
  have hJ_32 : ∀ (v1 : Int32) (m1 : gM), gEx d gcx_220 sh gri 32 [some (.ref 81), some (.int x1), some (.int v1)] [] m1 (J_MO_turn_32 v1 m1) := by
    intro v1 m1
    unfold J_MO_turn_32
    refine gEx.aload rfl rfl rfl ?_
    refine gEx.dupR rfl rfl ?_
    refine gEx.getI rfl rfl (h0 0 _ rfl) rfl ?_
    refine gEx.iconst rfl rfl ?_
    refine gEx.iadd rfl rfl ?_
    refine gEx.putI rfl rfl (h0 0 _ rfl) rfl rfl rfl (fun m2 => ?_)
    refine gEx.iload rfl rfl rfl ?_
    exact gEx.reti rfl rfl
  show gEx d gcx_220 sh gri 0 [some (.ref 81), some (.int x1), none] [] m (f_MO_turn x1 m)
  unfold f_MO_turn
  refine gEx.iload rfl rfl rfl ?_
  refine gEx.istore (ls' := [some (.ref 81), some (.int x1), some (.int x1)]) rfl rfl rfl ?_
  refine gEx.aload rfl rfl rfl ?_
  refine gEx.getI rfl rfl (h0 0 _ rfl) rfl ?_
  refine gEx.if_eq (tn := 22) rfl rfl rfl ?_ ?_
  · refine gEx.aload rfl rfl rfl ?_
    refine gEx.getR rfl rfl (h0 0 _ rfl) rfl ?_
    refine gEx.aload rfl rfl rfl ?_
    refine gEx.getI rfl rfl (h0 0 _ rfl) rfl ?_
    refine gEx.iald rfl rfl (h0 42 _ rfl) ?_
    refine gEx.istoreL (ls' := fun v2 => [some (.ref 81), some (.int x1), some (.int v2)]) rfl rfl (fun _ => rfl) (fun v2 => ?_)
    exact gEx.lab rfl rfl (hJ_32 v2 m)
  · refine gEx.aload rfl rfl rfl ?_
    refine gEx.getR rfl rfl (h0 0 _ rfl) rfl ?_
    refine gEx.aload rfl rfl rfl ?_
    refine gEx.getI rfl rfl (h0 0 _ rfl) rfl ?_
    refine gEx.iload rfl rfl rfl ?_
    refine gEx.iast rfl rfl (h0 42 _ rfl) (fun m3 => ?_)
    refine gEx.goto (tn := 32) rfl rfl rfl ?_
    exact gEx.lab rfl rfl (hJ_32 x1 m3)
abbrev gcx_221 : gC := glook (gco_221_0 ++ (gco_221_1 ++ (gco_221_2)))
set_option maxRecDepth 100000 in
set_option maxHeartbeats 4000000 in
theorem t_MO_turnLand {d : Nat} (hd : 2 ≤ d) {sh : gH}  (h0 : gHas sh.1 81 gsh_MO) {m : gM} : ∀ x, f_MO_turnLand  m = some x → gR gmi gdf gcd d 221 [.ref 81] (sh, m) ((grv x).1, (sh, (grv x).2)) := by
  obtain ⟨d, rfl⟩ : ∃ e, d = e + 1 := ⟨d - 1, by omega⟩
  refine gR_of (mx := 2) (code := gcx_221) rfl rfl (Nat.le_of_ble_eq_true rfl) ?_
  have hJ_175 : ∀ (v1 : Int32) (m1 : gM), gEx d gcx_221 sh grv 175 [some (.ref 81), some (.int v1)] [] m1 (J_MO_turnLand_175 v1 m1) := by
    intro v1 m1
    unfold J_MO_turnLand_175
    refine gEx.iconst rfl rfl ?_
    refine gEx.istore (ls' := [some (.ref 81), some (.int 0)]) rfl rfl rfl ?_
    have hL_177 : ∀ (n : Nat) (v2 : Int32) (m2 : gM), gEx d gcx_221 sh grv 177 [some (.ref 81), some (.int v2)] [] m2 (L_MO_turnLand_177 n v2 m2) := by
      refine gfix_ind (P := fun (f : Int32 → gM → Option (gM)) => ∀ (v2 : Int32) (m2 : gM), gEx d gcx_221 sh grv 177 [some (.ref 81), some (.int v2)] [] m2 (f v2 m2)) (fun _ _ => gEx.none) (fun rec_177 hrec_177 => ?_)
      intro v2 m2
      refine gEx.iload rfl rfl rfl ?_
      refine gEx.iconst rfl rfl ?_
      refine gEx.icmp_ge (tn := 237) rfl rfl rfl ?_ ?_
      · refine gEx.aload rfl rfl rfl ?_
        refine gEx.getR rfl rfl (h0 0 _ rfl) rfl ?_
        refine gEx.iload rfl rfl rfl ?_
        refine gEx.aload rfl rfl rfl ?_
        refine gEx.aload rfl rfl rfl ?_
        refine gEx.getR rfl rfl (h0 0 _ rfl) rfl ?_
        refine gEx.iload rfl rfl rfl ?_
        refine gEx.iald rfl rfl (h0 19 _ rfl) ?_
        refine gEx.callVi rfl rfl rfl rfl (h0 0 _ rfl) rfl (fun _ h => (t_MO_turn (by omega) h0) _ h) (fun r1 => ?_)
        refine gEx.iast rfl rfl (h0 19 _ rfl) (fun m3 => ?_)
        refine gEx.aload rfl rfl rfl ?_
        refine gEx.getR rfl rfl (h0 0 _ rfl) rfl ?_
        refine gEx.iload rfl rfl rfl ?_
        refine gEx.aload rfl rfl rfl ?_
        refine gEx.aload rfl rfl rfl ?_
        refine gEx.getR rfl rfl (h0 0 _ rfl) rfl ?_
        refine gEx.iload rfl rfl rfl ?_
        refine gEx.iald rfl rfl (h0 20 _ rfl) ?_
        refine gEx.callVi rfl rfl rfl rfl (h0 0 _ rfl) rfl (fun _ h => (t_MO_turn (by omega) h0) _ h) (fun r2 => ?_)
        refine gEx.iast rfl rfl (h0 20 _ rfl) (fun m4 => ?_)
        refine gEx.aload rfl rfl rfl ?_
        refine gEx.getR rfl rfl (h0 0 _ rfl) rfl ?_
        refine gEx.iload rfl rfl rfl ?_
        refine gEx.aload rfl rfl rfl ?_
        refine gEx.aload rfl rfl rfl ?_
        refine gEx.getR rfl rfl (h0 0 _ rfl) rfl ?_
        refine gEx.iload rfl rfl rfl ?_
        refine gEx.iald rfl rfl (h0 21 _ rfl) ?_
        refine gEx.callVi rfl rfl rfl rfl (h0 0 _ rfl) rfl (fun _ h => (t_MO_turn (by omega) h0) _ h) (fun r3 => ?_)
        refine gEx.iast rfl rfl (h0 21 _ rfl) (fun m5 => ?_)
        refine gEx.iinc (ls' := [some (.ref 81), some (.int (v2 + 1))]) rfl rfl rfl rfl ?_
        refine gEx.goto (tn := 177) rfl rfl rfl ?_
        exact gEx.lab rfl rfl (hrec_177 (v2 + 1) m5)
      · exact gEx.retv rfl rfl
    exact gEx.lab rfl rfl (hL_177 1000 0 m1)
  have hJ_145 : ∀ (v3 : Int32) (m6 : gM), gEx d gcx_221 sh grv 145 [some (.ref 81), some (.int v3)] [] m6 (J_MO_turnLand_145 v3 m6) := by
    intro v3 m6
    unfold J_MO_turnLand_145
    refine gEx.iconst rfl rfl ?_
    refine gEx.istore (ls' := [some (.ref 81), some (.int 0)]) rfl rfl rfl ?_
    have hL_147 : ∀ (n : Nat) (v4 : Int32) (m7 : gM), gEx d gcx_221 sh grv 147 [some (.ref 81), some (.int v4)] [] m7 (L_MO_turnLand_147 (fun v4 m7 => J_MO_turnLand_175 v4 m7) n v4 m7) := by
      refine gfix_ind (P := fun (f : Int32 → gM → Option (gM)) => ∀ (v4 : Int32) (m7 : gM), gEx d gcx_221 sh grv 147 [some (.ref 81), some (.int v4)] [] m7 (f v4 m7)) (fun _ _ => gEx.none) (fun rec_147 hrec_147 => ?_)
      intro v4 m7
      refine gEx.iload rfl rfl rfl ?_
      refine gEx.iconst rfl rfl ?_
      refine gEx.icmp_ge (tn := 175) rfl rfl rfl ?_ ?_
      · refine gEx.aload rfl rfl rfl ?_
        refine gEx.getR rfl rfl (h0 0 _ rfl) rfl ?_
        refine gEx.iload rfl rfl rfl ?_
        refine gEx.aload rfl rfl rfl ?_
        refine gEx.aload rfl rfl rfl ?_
        refine gEx.getR rfl rfl (h0 0 _ rfl) rfl ?_
        refine gEx.iload rfl rfl rfl ?_
        refine gEx.iald rfl rfl (h0 22 _ rfl) ?_
        refine gEx.callVi rfl rfl rfl rfl (h0 0 _ rfl) rfl (fun _ h => (t_MO_turn (by omega) h0) _ h) (fun r4 => ?_)
        refine gEx.iast rfl rfl (h0 22 _ rfl) (fun m8 => ?_)
        refine gEx.iinc (ls' := [some (.ref 81), some (.int (v4 + 1))]) rfl rfl rfl rfl ?_
        refine gEx.goto (tn := 147) rfl rfl rfl ?_
        exact gEx.lab rfl rfl (hrec_147 (v4 + 1) m8)
      · exact gEx.lab rfl rfl (hJ_175 v4 m7)
    exact gEx.lab rfl rfl (hL_147 1000 0 m6)
  have hJ_114 : ∀ (v5 : Int32) (m9 : gM), gEx d gcx_221 sh grv 114 [some (.ref 81), some (.int v5)] [] m9 (J_MO_turnLand_114 v5 m9) := by
    intro v5 m9
    unfold J_MO_turnLand_114
    refine gEx.iconst rfl rfl ?_
    refine gEx.istore (ls' := [some (.ref 81), some (.int 0)]) rfl rfl rfl ?_
    have hL_116 : ∀ (n : Nat) (v6 : Int32) (m10 : gM), gEx d gcx_221 sh grv 116 [some (.ref 81), some (.int v6)] [] m10 (L_MO_turnLand_116 (fun v6 m10 => J_MO_turnLand_145 v6 m10) n v6 m10) := by
      refine gfix_ind (P := fun (f : Int32 → gM → Option (gM)) => ∀ (v6 : Int32) (m10 : gM), gEx d gcx_221 sh grv 116 [some (.ref 81), some (.int v6)] [] m10 (f v6 m10)) (fun _ _ => gEx.none) (fun rec_116 hrec_116 => ?_)
      intro v6 m10
      refine gEx.iload rfl rfl rfl ?_
      refine gEx.iconst rfl rfl ?_
      refine gEx.icmp_ge (tn := 145) rfl rfl rfl ?_ ?_
      · refine gEx.aload rfl rfl rfl ?_
        refine gEx.getR rfl rfl (h0 0 _ rfl) rfl ?_
        refine gEx.iload rfl rfl rfl ?_
        refine gEx.aload rfl rfl rfl ?_
        refine gEx.aload rfl rfl rfl ?_
        refine gEx.getR rfl rfl (h0 0 _ rfl) rfl ?_
        refine gEx.iload rfl rfl rfl ?_
        refine gEx.iald rfl rfl (h0 5 _ rfl) ?_
        refine gEx.callVi rfl rfl rfl rfl (h0 0 _ rfl) rfl (fun _ h => (t_MO_turn (by omega) h0) _ h) (fun r5 => ?_)
        refine gEx.iast rfl rfl (h0 5 _ rfl) (fun m11 => ?_)
        refine gEx.iinc (ls' := [some (.ref 81), some (.int (v6 + 1))]) rfl rfl rfl rfl ?_
        refine gEx.goto (tn := 116) rfl rfl rfl ?_
        exact gEx.lab rfl rfl (hrec_116 (v6 + 1) m11)
      · exact gEx.lab rfl rfl (hJ_145 v6 m10)
    exact gEx.lab rfl rfl (hL_116 1000 0 m9)
  show gEx d gcx_221 sh grv 0 [some (.ref 81), none] [] m (f_MO_turnLand  m)
  unfold f_MO_turnLand
  refine gEx.aload rfl rfl rfl ?_
  refine gEx.aload rfl rfl rfl ?_
  refine gEx.aload rfl rfl rfl ?_
  refine gEx.getI rfl rfl (h0 0 _ rfl) rfl ?_
  refine gEx.callVi rfl rfl rfl rfl (h0 0 _ rfl) rfl (fun _ h => (t_MO_turn (by omega) h0) _ h) (fun r6 => ?_)
  refine gEx.putI rfl rfl (h0 0 _ rfl) rfl rfl rfl (fun m12 => ?_)
  refine gEx.aload rfl rfl rfl ?_
  refine gEx.aload rfl rfl rfl ?_
  refine gEx.aload rfl rfl rfl ?_
  refine gEx.getI rfl rfl (h0 0 _ rfl) rfl ?_
  refine gEx.callVi rfl rfl rfl rfl (h0 0 _ rfl) rfl (fun _ h => (t_MO_turn (by omega) h0) _ h) (fun r7 => ?_)
  refine gEx.putI rfl rfl (h0 0 _ rfl) rfl rfl rfl (fun m13 => ?_)
  refine gEx.aload rfl rfl rfl ?_
  refine gEx.aload rfl rfl rfl ?_
  refine gEx.aload rfl rfl rfl ?_
  refine gEx.getI rfl rfl (h0 0 _ rfl) rfl ?_
  refine gEx.callVi rfl rfl rfl rfl (h0 0 _ rfl) rfl (fun _ h => (t_MO_turn (by omega) h0) _ h) (fun r8 => ?_)
  refine gEx.putI rfl rfl (h0 0 _ rfl) rfl rfl rfl (fun m14 => ?_)
  refine gEx.iconst rfl rfl ?_
  refine gEx.istore (ls' := [some (.ref 81), some (.int 0)]) rfl rfl rfl ?_
  have hL_38 : ∀ (n : Nat) (v7 : Int32) (m15 : gM), gEx d gcx_221 sh grv 38 [some (.ref 81), some (.int v7)] [] m15 (L_MO_turnLand_38 (fun v7 m15 => J_MO_turnLand_114 v7 m15) n v7 m15) := by
    refine gfix_ind (P := fun (f : Int32 → gM → Option (gM)) => ∀ (v7 : Int32) (m15 : gM), gEx d gcx_221 sh grv 38 [some (.ref 81), some (.int v7)] [] m15 (f v7 m15)) (fun _ _ => gEx.none) (fun rec_38 hrec_38 => ?_)
    intro v7 m15
    refine gEx.iload rfl rfl rfl ?_
    refine gEx.iconst rfl rfl ?_
    refine gEx.icmp_ge (tn := 114) rfl rfl rfl ?_ ?_
    · refine gEx.aload rfl rfl rfl ?_
      refine gEx.getR rfl rfl (h0 0 _ rfl) rfl ?_
      refine gEx.iload rfl rfl rfl ?_
      refine gEx.aload rfl rfl rfl ?_
      refine gEx.aload rfl rfl rfl ?_
      refine gEx.getR rfl rfl (h0 0 _ rfl) rfl ?_
      refine gEx.iload rfl rfl rfl ?_
      refine gEx.iald rfl rfl (h0 1 _ rfl) ?_
      refine gEx.callVi rfl rfl rfl rfl (h0 0 _ rfl) rfl (fun _ h => (t_MO_turn (by omega) h0) _ h) (fun r9 => ?_)
      refine gEx.iast rfl rfl (h0 1 _ rfl) (fun m16 => ?_)
      refine gEx.aload rfl rfl rfl ?_
      refine gEx.getR rfl rfl (h0 0 _ rfl) rfl ?_
      refine gEx.iload rfl rfl rfl ?_
      refine gEx.aload rfl rfl rfl ?_
      refine gEx.aload rfl rfl rfl ?_
      refine gEx.getR rfl rfl (h0 0 _ rfl) rfl ?_
      refine gEx.iload rfl rfl rfl ?_
      refine gEx.iald rfl rfl (h0 2 _ rfl) ?_
      refine gEx.callVi rfl rfl rfl rfl (h0 0 _ rfl) rfl (fun _ h => (t_MO_turn (by omega) h0) _ h) (fun r10 => ?_)
      refine gEx.iast rfl rfl (h0 2 _ rfl) (fun m17 => ?_)
      refine gEx.aload rfl rfl rfl ?_
      refine gEx.getR rfl rfl (h0 0 _ rfl) rfl ?_
      refine gEx.iload rfl rfl rfl ?_
      refine gEx.aload rfl rfl rfl ?_
      refine gEx.aload rfl rfl rfl ?_
      refine gEx.getR rfl rfl (h0 0 _ rfl) rfl ?_
      refine gEx.iload rfl rfl rfl ?_
      refine gEx.iald rfl rfl (h0 3 _ rfl) ?_
      refine gEx.callVi rfl rfl rfl rfl (h0 0 _ rfl) rfl (fun _ h => (t_MO_turn (by omega) h0) _ h) (fun r11 => ?_)
      refine gEx.iast rfl rfl (h0 3 _ rfl) (fun m18 => ?_)
      refine gEx.aload rfl rfl rfl ?_
      refine gEx.getR rfl rfl (h0 0 _ rfl) rfl ?_
      refine gEx.iload rfl rfl rfl ?_
      refine gEx.aload rfl rfl rfl ?_
      refine gEx.aload rfl rfl rfl ?_
      refine gEx.getR rfl rfl (h0 0 _ rfl) rfl ?_
      refine gEx.iload rfl rfl rfl ?_
      refine gEx.iald rfl rfl (h0 4 _ rfl) ?_
      refine gEx.callVi rfl rfl rfl rfl (h0 0 _ rfl) rfl (fun _ h => (t_MO_turn (by omega) h0) _ h) (fun r12 => ?_)
      refine gEx.iast rfl rfl (h0 4 _ rfl) (fun m19 => ?_)
      refine gEx.iinc (ls' := [some (.ref 81), some (.int (v7 + 1))]) rfl rfl rfl rfl ?_
      refine gEx.goto (tn := 38) rfl rfl rfl ?_
      exact gEx.lab rfl rfl (hrec_38 (v7 + 1) m19)
    · exact gEx.lab rfl rfl (hJ_114 v7 m15)
  exact gEx.lab rfl rfl (hL_38 1000 0 m14)
