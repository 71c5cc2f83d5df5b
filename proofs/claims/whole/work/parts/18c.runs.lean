/-! ===== the methods' runs follow the pure functions (by program) ===== -/
abbrev gcx_103 : gC := glook (gco_103_0)
set_option maxRecDepth 100000 in
set_option maxHeartbeats 4000000 in
theorem t_Wells_add {d : Nat} (hd : 1 ≤ d) {sh : gH} {a : Nat} {x1 : Int32} {x2 : Int32} {x3 : Int32} (h0 : gHas sh.1 a (gsh_Wells a)) {m : gM} : ∀ x, f_Wells_add a x1 x2 x3 m = some x → gR gmi gdf gcd d 103 [.ref a, .int x1, .int x2, .int x3] (sh, m) ((gri x).1, (sh, (gri x).2)) := by
  obtain ⟨d, rfl⟩ : ∃ e, d = e + 1 := ⟨d - 1, by omega⟩
  refine gR_of (mx := 4) (code := gcx_103) rfl rfl (Nat.le_of_ble_eq_true rfl) ?_
  show gEx d gcx_103 sh gri 0 [some (.ref a), some (.int x1), some (.int x2), some (.int x3)] [] m (f_Wells_add a x1 x2 x3 m)
  unfold f_Wells_add
  refine gEx.aload rfl rfl rfl ?_
  refine gEx.getI rfl rfl (h0 0 _ rfl) rfl ?_
  refine gEx.iconst rfl rfl ?_
  refine gEx.icmp_lt (tn := 12) rfl rfl rfl ?_ ?_
  · refine gEx.aload rfl rfl rfl ?_
    refine gEx.getR rfl rfl (h0 0 _ rfl) rfl ?_
    refine gEx.aload rfl rfl rfl ?_
    refine gEx.getI rfl rfl (h0 0 _ rfl) rfl ?_
    refine gEx.iload rfl rfl rfl ?_
    refine gEx.iast rfl rfl (h0 1 _ rfl) (fun m1 => ?_)
    refine gEx.aload rfl rfl rfl ?_
    refine gEx.getR rfl rfl (h0 0 _ rfl) rfl ?_
    refine gEx.aload rfl rfl rfl ?_
    refine gEx.getI rfl rfl (h0 0 _ rfl) rfl ?_
    refine gEx.iload rfl rfl rfl ?_
    refine gEx.iast rfl rfl (h0 2 _ rfl) (fun m2 => ?_)
    refine gEx.aload rfl rfl rfl ?_
    refine gEx.getR rfl rfl (h0 0 _ rfl) rfl ?_
    refine gEx.aload rfl rfl rfl ?_
    refine gEx.getI rfl rfl (h0 0 _ rfl) rfl ?_
    refine gEx.iload rfl rfl rfl ?_
    refine gEx.iast rfl rfl (h0 3 _ rfl) (fun m3 => ?_)
    refine gEx.aload rfl rfl rfl ?_
    refine gEx.getR rfl rfl (h0 0 _ rfl) rfl ?_
    refine gEx.aload rfl rfl rfl ?_
    refine gEx.getI rfl rfl (h0 0 _ rfl) rfl ?_
    refine gEx.iconst rfl rfl ?_
    refine gEx.bast rfl rfl (h0 4 _ rfl) (fun m4 => ?_)
    refine gEx.aload rfl rfl rfl ?_
    refine gEx.dupR rfl rfl ?_
    refine gEx.getI rfl rfl (h0 0 _ rfl) rfl ?_
    refine gEx.iconst rfl rfl ?_
    refine gEx.iadd rfl rfl ?_
    refine gEx.putI rfl rfl (h0 0 _ rfl) rfl rfl rfl (fun m5 => ?_)
    refine gEx.aload rfl rfl rfl ?_
    refine gEx.getI rfl rfl (h0 0 _ rfl) rfl ?_
    refine gEx.iconst rfl rfl ?_
    refine gEx.isub rfl rfl ?_
    exact gEx.reti rfl rfl
  · refine gEx.iconst rfl rfl ?_
    exact gEx.reti rfl rfl
abbrev gcx_105 : gC := glook (gco_105_0)
set_option maxRecDepth 100000 in
set_option maxHeartbeats 4000000 in
theorem t_Wells_sizeOf {d : Nat} (hd : 1 ≤ d) {sh : gH} {a : Nat} {x1 : Int32} (h0 : gHas sh.1 a (gsh_Wells a)) {m : gM} : ∀ x, f_Wells_sizeOf a x1 m = some x → gR gmi gdf gcd d 105 [.ref a, .int x1] (sh, m) ((gri x).1, (sh, (gri x).2)) := by
  obtain ⟨d, rfl⟩ : ∃ e, d = e + 1 := ⟨d - 1, by omega⟩
  refine gR_of (mx := 4) (code := gcx_105) rfl rfl (Nat.le_of_ble_eq_true rfl) ?_
  show gEx d gcx_105 sh gri 0 [some (.ref a), some (.int x1), none, none] [] m (f_Wells_sizeOf a x1 m)
  unfold f_Wells_sizeOf
  refine gEx.iconst rfl rfl ?_
  refine gEx.istore (ls' := [some (.ref a), some (.int x1), some (.int 0), none]) rfl rfl rfl ?_
  refine gEx.iconst rfl rfl ?_
  refine gEx.istore (ls' := [some (.ref a), some (.int x1), some (.int 0), some (.int 0)]) rfl rfl rfl ?_
  have hL_4 : ∀ (n : Nat) (v1 : Int32) (v2 : Int32), gEx d gcx_105 sh gri 4 [some (.ref a), some (.int x1), some (.int v1), some (.int v2)] [] m (L_Wells_sizeOf_4 a x1 m n v1 v2) := by
    refine gfix_ind (P := fun (f : Int32 → Int32 → Option (Int32 × gM)) => ∀ (v1 : Int32) (v2 : Int32), gEx d gcx_105 sh gri 4 [some (.ref a), some (.int x1), some (.int v1), some (.int v2)] [] m (f v1 v2)) (fun _ _ => gEx.none) (fun rec_4 hrec_4 => ?_)
    have hJ_25 : ∀ (v3 : Int32) (v4 : Int32), gEx d gcx_105 sh gri 25 [some (.ref a), some (.int x1), some (.int v3), some (.int v4)] [] m (J_Wells_sizeOf_25 rec_4 v3 v4) := by
      intro v3 v4
      unfold J_Wells_sizeOf_25
      refine gEx.iinc (ls' := [some (.ref a), some (.int x1), some (.int v3), some (.int (v4 + 1))]) rfl rfl rfl rfl ?_
      refine gEx.goto (tn := 4) rfl rfl rfl ?_
      exact gEx.lab rfl rfl (hrec_4 v3 (v4 + 1))
    intro v1 v2
    refine gEx.iload rfl rfl rfl ?_
    refine gEx.aload rfl rfl rfl ?_
    refine gEx.getI rfl rfl (h0 0 _ rfl) rfl ?_
    refine gEx.icmp_ge (tn := 31) rfl rfl rfl ?_ ?_
    · refine gEx.aload rfl rfl rfl ?_
      refine gEx.getR rfl rfl (h0 0 _ rfl) rfl ?_
      refine gEx.iload rfl rfl rfl ?_
      refine gEx.iald rfl rfl (h0 1 _ rfl) ?_
      refine gEx.iload rfl rfl rfl ?_
      refine gEx.icmp_ne (tn := 25) rfl rfl rfl ?_ ?_
      · refine gEx.iinc (ls' := [some (.ref a), some (.int x1), some (.int (v1 + 1)), some (.int v2)]) rfl rfl rfl rfl ?_
        exact gEx.lab rfl rfl (hJ_25 (v1 + 1) v2)
      · exact gEx.lab rfl rfl (hJ_25 v1 v2)
    · refine gEx.iload rfl rfl rfl ?_
      exact gEx.reti rfl rfl
  exact gEx.lab rfl rfl (hL_4 1000 0 0)
abbrev gcx_106 : gC := glook (gco_106_0)
set_option maxRecDepth 100000 in
set_option maxHeartbeats 4000000 in
theorem t_Wells_oilOf {d : Nat} (hd : 1 ≤ d) {sh : gH} {a : Nat} {x1 : Int32} (h0 : gHas sh.1 a (gsh_Wells a)) {m : gM} : ∀ x, f_Wells_oilOf a x1 m = some x → gR gmi gdf gcd d 106 [.ref a, .int x1] (sh, m) ((gri x).1, (sh, (gri x).2)) := by
  obtain ⟨d, rfl⟩ : ∃ e, d = e + 1 := ⟨d - 1, by omega⟩
  refine gR_of (mx := 4) (code := gcx_106) rfl rfl (Nat.le_of_ble_eq_true rfl) ?_
  show gEx d gcx_106 sh gri 0 [some (.ref a), some (.int x1), none, none] [] m (f_Wells_oilOf a x1 m)
  unfold f_Wells_oilOf
  refine gEx.iconst rfl rfl ?_
  refine gEx.istore (ls' := [some (.ref a), some (.int x1), some (.int 0), none]) rfl rfl rfl ?_
  refine gEx.iconst rfl rfl ?_
  refine gEx.istore (ls' := [some (.ref a), some (.int x1), some (.int 0), some (.int 0)]) rfl rfl rfl ?_
  have hL_4 : ∀ (n : Nat) (v1 : Int32) (v2 : Int32), gEx d gcx_106 sh gri 4 [some (.ref a), some (.int x1), some (.int v1), some (.int v2)] [] m (L_Wells_oilOf_4 a x1 m n v1 v2) := by
    refine gfix_ind (P := fun (f : Int32 → Int32 → Option (Int32 × gM)) => ∀ (v1 : Int32) (v2 : Int32), gEx d gcx_106 sh gri 4 [some (.ref a), some (.int x1), some (.int v1), some (.int v2)] [] m (f v1 v2)) (fun _ _ => gEx.none) (fun rec_4 hrec_4 => ?_)
    have hJ_31 : ∀ (v3 : Int32) (v4 : Int32), gEx d gcx_106 sh gri 31 [some (.ref a), some (.int x1), some (.int v3), some (.int v4)] [] m (J_Wells_oilOf_31 rec_4 v3 v4) := by
      intro v3 v4
      unfold J_Wells_oilOf_31
      refine gEx.iinc (ls' := [some (.ref a), some (.int x1), some (.int v3), some (.int (v4 + 1))]) rfl rfl rfl rfl ?_
      refine gEx.goto (tn := 4) rfl rfl rfl ?_
      exact gEx.lab rfl rfl (hrec_4 v3 (v4 + 1))
    intro v1 v2
    refine gEx.iload rfl rfl rfl ?_
    refine gEx.aload rfl rfl rfl ?_
    refine gEx.getI rfl rfl (h0 0 _ rfl) rfl ?_
    refine gEx.icmp_ge (tn := 37) rfl rfl rfl ?_ ?_
    · refine gEx.aload rfl rfl rfl ?_
      refine gEx.getR rfl rfl (h0 0 _ rfl) rfl ?_
      refine gEx.iload rfl rfl rfl ?_
      refine gEx.iald rfl rfl (h0 1 _ rfl) ?_
      refine gEx.iload rfl rfl rfl ?_
      refine gEx.icmp_ne (tn := 31) rfl rfl rfl ?_ ?_
      · refine gEx.iload rfl rfl rfl ?_
        refine gEx.aload rfl rfl rfl ?_
        refine gEx.getR rfl rfl (h0 0 _ rfl) rfl ?_
        refine gEx.iload rfl rfl rfl ?_
        refine gEx.iald rfl rfl (h0 5 _ rfl) ?_
        refine gEx.iadd rfl rfl ?_
        refine gEx.istoreL (ls' := fun v5 => [some (.ref a), some (.int x1), some (.int v5), some (.int v2)]) rfl rfl (fun _ => rfl) (fun v5 => ?_)
        exact gEx.lab rfl rfl (hJ_31 v5 v2)
      · exact gEx.lab rfl rfl (hJ_31 v1 v2)
    · refine gEx.iload rfl rfl rfl ?_
      exact gEx.reti rfl rfl
  exact gEx.lab rfl rfl (hL_4 1000 0 0)
abbrev gcx_107 : gC := glook (gco_107_0)
set_option maxRecDepth 100000 in
set_option maxHeartbeats 4000000 in
theorem t_Wells_oilOfLot {d : Nat} (hd : 1 ≤ d) {sh : gH} {a : Nat} {x1 : Int32} {x2 : Int32} (h0 : gHas sh.1 a (gsh_Wells a)) {m : gM} : ∀ x, f_Wells_oilOfLot a x1 x2 m = some x → gR gmi gdf gcd d 107 [.ref a, .int x1, .int x2] (sh, m) ((gri x).1, (sh, (gri x).2)) := by
  obtain ⟨d, rfl⟩ : ∃ e, d = e + 1 := ⟨d - 1, by omega⟩
  refine gR_of (mx := 5) (code := gcx_107) rfl rfl (Nat.le_of_ble_eq_true rfl) ?_
  show gEx d gcx_107 sh gri 0 [some (.ref a), some (.int x1), some (.int x2), none, none] [] m (f_Wells_oilOfLot a x1 x2 m)
  unfold f_Wells_oilOfLot
  refine gEx.iconst rfl rfl ?_
  refine gEx.istore (ls' := [some (.ref a), some (.int x1), some (.int x2), some (.int 0), none]) rfl rfl rfl ?_
  refine gEx.iconst rfl rfl ?_
  refine gEx.istore (ls' := [some (.ref a), some (.int x1), some (.int x2), some (.int 0), some (.int 0)]) rfl rfl rfl ?_
  have hL_5 : ∀ (n : Nat) (v1 : Int32) (v2 : Int32), gEx d gcx_107 sh gri 5 [some (.ref a), some (.int x1), some (.int x2), some (.int v1), some (.int v2)] [] m (L_Wells_oilOfLot_5 a x1 x2 m n v1 v2) := by
    refine gfix_ind (P := fun (f : Int32 → Int32 → Option (Int32 × gM)) => ∀ (v1 : Int32) (v2 : Int32), gEx d gcx_107 sh gri 5 [some (.ref a), some (.int x1), some (.int x2), some (.int v1), some (.int v2)] [] m (f v1 v2)) (fun _ _ => gEx.none) (fun rec_5 hrec_5 => ?_)
    have hJ_40 : ∀ (v3 : Int32) (v4 : Int32), gEx d gcx_107 sh gri 40 [some (.ref a), some (.int x1), some (.int x2), some (.int v3), some (.int v4)] [] m (J_Wells_oilOfLot_40 rec_5 v3 v4) := by
      intro v3 v4
      unfold J_Wells_oilOfLot_40
      refine gEx.iinc (ls' := [some (.ref a), some (.int x1), some (.int x2), some (.int v3), some (.int (v4 + 1))]) rfl rfl rfl rfl ?_
      refine gEx.goto (tn := 5) rfl rfl rfl ?_
      exact gEx.lab rfl rfl (hrec_5 v3 (v4 + 1))
    intro v1 v2
    refine gEx.iload rfl rfl rfl ?_
    refine gEx.aload rfl rfl rfl ?_
    refine gEx.getI rfl rfl (h0 0 _ rfl) rfl ?_
    refine gEx.icmp_ge (tn := 46) rfl rfl rfl ?_ ?_
    · refine gEx.aload rfl rfl rfl ?_
      refine gEx.getR rfl rfl (h0 0 _ rfl) rfl ?_
      refine gEx.iload rfl rfl rfl ?_
      refine gEx.iald rfl rfl (h0 1 _ rfl) ?_
      refine gEx.iload rfl rfl rfl ?_
      refine gEx.icmp_ne (tn := 40) rfl rfl rfl ?_ ?_
      · refine gEx.iload rfl rfl rfl ?_
        refine gEx.aload rfl rfl rfl ?_
        refine gEx.getR rfl rfl (h0 0 _ rfl) rfl ?_
        refine gEx.iload rfl rfl rfl ?_
        refine gEx.iconst rfl rfl ?_
        refine gEx.imul rfl rfl ?_
        refine gEx.iload rfl rfl rfl ?_
        refine gEx.iadd rfl rfl ?_
        refine gEx.iald rfl rfl (h0 7 _ rfl) ?_
        refine gEx.iadd rfl rfl ?_
        refine gEx.istoreL (ls' := fun v5 => [some (.ref a), some (.int x1), some (.int x2), some (.int v5), some (.int v2)]) rfl rfl (fun _ => rfl) (fun v5 => ?_)
        exact gEx.lab rfl rfl (hJ_40 v5 v2)
      · exact gEx.lab rfl rfl (hJ_40 v1 v2)
    · refine gEx.iload rfl rfl rfl ?_
      exact gEx.reti rfl rfl
  exact gEx.lab rfl rfl (hL_5 1000 0 0)
abbrev gcx_109 : gC := glook (gco_109_0)
set_option maxRecDepth 100000 in
set_option maxHeartbeats 4000000 in
theorem t_OT_field {d : Nat} (hd : 5 ≤ d) {sh : gH} {kl : List (Option Nat)} {x1 : Int32} {x2 : Int32} (h0 : gHas sh.1 0 (gsh_OT kl)) {m : gM} : ∀ x, f_OT_field x1 x2 m = some x → gR gmi gdf gcd d 109 [.ref 0, .int x1, .int x2] (sh, m) ((gri x).1, (sh, (gri x).2)) := by
  obtain ⟨d, rfl⟩ : ∃ e, d = e + 1 := ⟨d - 1, by omega⟩
  refine gR_of (mx := 3) (code := gcx_109) rfl rfl (Nat.le_of_ble_eq_true rfl) ?_
  show gEx d gcx_109 sh gri 0 [some (.ref 0), some (.int x1), some (.int x2)] [] m (f_OT_field x1 x2 m)
  unfold f_OT_field
  refine gEx.iload rfl rfl rfl ?_
  refine gEx.iconst rfl rfl ?_
  refine gEx.icmp_lt (tn := 22) rfl rfl rfl ?_ ?_
  · refine gEx.lab (ls' := [some (.ref 0), none, none]) rfl rfl ?_
    refine gEx.iconst rfl rfl ?_
    exact gEx.reti rfl rfl
  · refine gEx.iload rfl rfl rfl ?_
    refine gEx.iconst rfl rfl ?_
    refine gEx.icmp_gt (tn := 22) rfl rfl rfl ?_ ?_
    · refine gEx.lab (ls' := [some (.ref 0), none, none]) rfl rfl ?_
      refine gEx.iconst rfl rfl ?_
      exact gEx.reti rfl rfl
    · refine gEx.iload rfl rfl rfl ?_
      refine gEx.iconst rfl rfl ?_
      refine gEx.icmp_lt (tn := 22) rfl rfl rfl ?_ ?_
      · refine gEx.lab (ls' := [some (.ref 0), none, none]) rfl rfl ?_
        refine gEx.iconst rfl rfl ?_
        exact gEx.reti rfl rfl
      · refine gEx.iload rfl rfl rfl ?_
        refine gEx.iconst rfl rfl ?_
        refine gEx.icmp_le (tn := 24) rfl rfl rfl ?_ ?_
        · refine gEx.lab (ls' := [some (.ref 0), none, none]) rfl rfl ?_
          refine gEx.iconst rfl rfl ?_
          exact gEx.reti rfl rfl
        · refine gEx.aload rfl rfl rfl ?_
          refine gEx.getR rfl rfl (h0 0 _ rfl) rfl ?_
          refine gEx.iload rfl rfl rfl ?_
          refine gEx.iload rfl rfl rfl ?_
          refine gEx.callVv rfl rfl rfl rfl (h0 1 _ rfl) rfl (fun _ h => (t_Town_becomeNew (by omega) (gsub_OT_1 h0)) _ h) (fun r1 => ?_)
          refine gEx.iconst rfl rfl ?_
          exact gEx.reti rfl rfl
abbrev gcx_150 : gC := glook (gco_150_0)
set_option maxRecDepth 100000 in
set_option maxHeartbeats 4000000 in
theorem t_OT_hasCell {d : Nat} (hd : 2 ≤ d) {sh : gH} {kl : List (Option Nat)} {x1 : Int32} (h0 : gHas sh.1 0 (gsh_OT kl)) {m : gM} : ∀ x, f_OT_hasCell x1 m = some x → gR gmi gdf gcd d 150 [.ref 0, .int x1] (sh, m) ((gri x).1, (sh, (gri x).2)) := by
  obtain ⟨d, rfl⟩ : ∃ e, d = e + 1 := ⟨d - 1, by omega⟩
  refine gR_of (mx := 2) (code := gcx_150) rfl rfl (Nat.le_of_ble_eq_true rfl) ?_
  show gEx d gcx_150 sh gri 0 [some (.ref 0), some (.int x1)] [] m (f_OT_hasCell x1 m)
  unfold f_OT_hasCell
  refine gEx.aload rfl rfl rfl ?_
  refine gEx.getR rfl rfl (h0 0 _ rfl) rfl ?_
  refine gEx.getR rfl rfl (h0 1 _ rfl) rfl ?_
  refine gEx.getR rfl rfl (h0 2 _ rfl) rfl ?_
  refine gEx.iload rfl rfl rfl ?_
  refine gEx.callVi rfl rfl rfl rfl (h0 3 _ rfl) rfl (fun _ h => (t_Pool_has (by omega) (gsub_OT_3 h0)) _ h) (fun r1 => ?_)
  exact gEx.retz rfl rfl
abbrev gcx_145 : gC := glook (gco_145_0)
set_option maxRecDepth 100000 in
set_option maxHeartbeats 4000000 in
theorem t_OT_within {d : Nat} (hd : 1 ≤ d) {sh : gH} {x0 : Int32} {x1 : Int32}  {m : gM} : ∀ x, f_OT_within x0 x1 m = some x → gR gmi gdf gcd d 145 [.int x0, .int x1] (sh, m) ((gri x).1, (sh, (gri x).2)) := by
  obtain ⟨d, rfl⟩ : ∃ e, d = e + 1 := ⟨d - 1, by omega⟩
  refine gR_of (mx := 2) (code := gcx_145) rfl rfl (Nat.le_of_ble_eq_true rfl) ?_
  show gEx d gcx_145 sh gri 0 [some (.int x0), some (.int x1)] [] m (f_OT_within x0 x1 m)
  unfold f_OT_within
  refine gEx.iload rfl rfl rfl ?_
  refine gEx.if_lt (tn := 13) rfl rfl rfl ?_ ?_
  · refine gEx.lab (ls' := [some (.int x0), none]) rfl rfl ?_
    refine gEx.iconst rfl rfl ?_
    refine gEx.lab (ls' := [some (.int x0), none]) rfl rfl ?_
    exact gEx.retz0 (by decide) rfl rfl
  · refine gEx.iload rfl rfl rfl ?_
    refine gEx.iload rfl rfl rfl ?_
    refine gEx.icmp_gt (tn := 13) rfl rfl rfl ?_ ?_
    · refine gEx.lab (ls' := [some (.int x0), none]) rfl rfl ?_
      refine gEx.iconst rfl rfl ?_
      refine gEx.lab (ls' := [some (.int x0), none]) rfl rfl ?_
      exact gEx.retz0 (by decide) rfl rfl
    · refine gEx.iconst rfl rfl ?_
      refine gEx.goto (tn := 14) rfl rfl rfl ?_
      refine gEx.lab (ls' := [some (.int x0), none]) rfl rfl ?_
      exact gEx.retz0 (by decide) rfl rfl
abbrev gcx_110 : gC := glook (gco_110_0)
set_option maxRecDepth 100000 in
set_option maxHeartbeats 4000000 in
theorem t_OT_cell {d : Nat} (hd : 3 ≤ d) {sh : gH} {kl : List (Option Nat)} {x1 : Int32} {x2 : Int32} {x3 : Int32} {x4 : Int32} {x5 : Int32} (h0 : gHas sh.1 0 (gsh_OT kl)) {m : gM} : ∀ x, f_OT_cell x1 x2 x3 x4 x5 m = some x → gR gmi gdf gcd d 110 [.ref 0, .int x1, .int x2, .int x3, .int x4, .int x5] (sh, m) ((gri x).1, (sh, (gri x).2)) := by
  obtain ⟨d, rfl⟩ : ∃ e, d = e + 1 := ⟨d - 1, by omega⟩
  refine gR_of (mx := 7) (code := gcx_110) rfl rfl (Nat.le_of_ble_eq_true rfl) ?_
  show gEx d gcx_110 sh gri 0 [some (.ref 0), some (.int x1), some (.int x2), some (.int x3), some (.int x4), some (.int x5), none] [] m (f_OT_cell x1 x2 x3 x4 x5 m)
  unfold f_OT_cell
  refine gEx.aload rfl rfl rfl ?_
  refine gEx.iload rfl rfl rfl ?_
  refine gEx.callVi rfl rfl rfl rfl (h0 0 _ rfl) rfl (fun _ h => (t_OT_hasCell (by omega) h0) _ h) (fun r1 => ?_)
  refine gEx.if_eq (tn := 49) rfl rfl rfl ?_ ?_
  · refine gEx.lab (ls' := [some (.ref 0), none, none, none, none, none, none]) rfl rfl ?_
    refine gEx.iconst rfl rfl ?_
    exact gEx.reti rfl rfl
  · refine gEx.iload rfl rfl rfl ?_
    refine gEx.iconst rfl rfl ?_
    refine gEx.callSi rfl rfl rfl rfl rfl (fun _ h => (t_OT_within (by omega) ) _ h) (fun r2 => ?_)
    refine gEx.if_eq (tn := 49) rfl rfl rfl ?_ ?_
    · refine gEx.lab (ls' := [some (.ref 0), none, none, none, none, none, none]) rfl rfl ?_
      refine gEx.iconst rfl rfl ?_
      exact gEx.reti rfl rfl
    · refine gEx.iload rfl rfl rfl ?_
      refine gEx.iconst rfl rfl ?_
      refine gEx.callSi rfl rfl rfl rfl rfl (fun _ h => (t_OT_within (by omega) ) _ h) (fun r3 => ?_)
      refine gEx.if_eq (tn := 49) rfl rfl rfl ?_ ?_
      · refine gEx.lab (ls' := [some (.ref 0), none, none, none, none, none, none]) rfl rfl ?_
        refine gEx.iconst rfl rfl ?_
        exact gEx.reti rfl rfl
      · refine gEx.iload rfl rfl rfl ?_
        refine gEx.iconst rfl rfl ?_
        refine gEx.callSi rfl rfl rfl rfl rfl (fun _ h => (t_OT_within (by omega) ) _ h) (fun r4 => ?_)
        refine gEx.if_eq (tn := 49) rfl rfl rfl ?_ ?_
        · refine gEx.lab (ls' := [some (.ref 0), none, none, none, none, none, none]) rfl rfl ?_
          refine gEx.iconst rfl rfl ?_
          exact gEx.reti rfl rfl
        · refine gEx.iload rfl rfl rfl ?_
          refine gEx.iconst rfl rfl ?_
          refine gEx.callSi rfl rfl rfl rfl rfl (fun _ h => (t_OT_within (by omega) ) _ h) (fun r5 => ?_)
          refine gEx.if_ne (tn := 51) rfl rfl rfl ?_ ?_
          · refine gEx.lab (ls' := [some (.ref 0), none, none, none, none, none, none]) rfl rfl ?_
            refine gEx.iconst rfl rfl ?_
            exact gEx.reti rfl rfl
          · refine gEx.aload rfl rfl rfl ?_
            refine gEx.getR rfl rfl (h0 0 _ rfl) rfl ?_
            refine gEx.getR rfl rfl (h0 1 _ rfl) rfl ?_
            refine gEx.getR rfl rfl (h0 2 _ rfl) rfl ?_
            refine gEx.astore (ls' := [some (.ref 0), some (.int x1), some (.int x2), some (.int x3), some (.int x4), some (.int x5), some (.ref 3)]) rfl rfl rfl ?_
            refine gEx.aload rfl rfl rfl ?_
            refine gEx.getR rfl rfl (h0 3 _ rfl) rfl ?_
            refine gEx.iload rfl rfl rfl ?_
            refine gEx.iload rfl rfl rfl ?_
            refine gEx.iast rfl rfl (h0 6 _ rfl) (fun m1 => ?_)
            refine gEx.aload rfl rfl rfl ?_
            refine gEx.getR rfl rfl (h0 3 _ rfl) rfl ?_
            refine gEx.iload rfl rfl rfl ?_
            refine gEx.iload rfl rfl rfl ?_
            refine gEx.iast rfl rfl (h0 7 _ rfl) (fun m2 => ?_)
            refine gEx.aload rfl rfl rfl ?_
            refine gEx.getR rfl rfl (h0 3 _ rfl) rfl ?_
            refine gEx.iload rfl rfl rfl ?_
            refine gEx.iload rfl rfl rfl ?_
            refine gEx.iast rfl rfl (h0 8 _ rfl) (fun m3 => ?_)
            refine gEx.aload rfl rfl rfl ?_
            refine gEx.getR rfl rfl (h0 0 _ rfl) rfl ?_
            refine gEx.getR rfl rfl (h0 1 _ rfl) rfl ?_
            refine gEx.iload rfl rfl rfl ?_
            refine gEx.iload rfl rfl rfl ?_
            refine gEx.callVv rfl rfl rfl rfl (h0 2 _ rfl) rfl (fun _ h => (t_Ground_tellOil (by omega) (gsub_OT_2 h0)) _ h) (fun r6 => ?_)
            refine gEx.iconst rfl rfl ?_
            exact gEx.reti rfl rfl
abbrev gcx_146 : gC := glook (gco_146_0)
set_option maxRecDepth 100000 in
set_option maxHeartbeats 4000000 in
theorem t_OT_isLot {d : Nat} (hd : 1 ≤ d) {sh : gH} {x0 : Int32}  {m : gM} : ∀ x, f_OT_isLot x0 m = some x → gR gmi gdf gcd d 146 [.int x0] (sh, m) ((gri x).1, (sh, (gri x).2)) := by
  obtain ⟨d, rfl⟩ : ∃ e, d = e + 1 := ⟨d - 1, by omega⟩
  refine gR_of (mx := 1) (code := gcx_146) rfl rfl (Nat.le_of_ble_eq_true rfl) ?_
  show gEx d gcx_146 sh gri 0 [some (.int x0)] [] m (f_OT_isLot x0 m)
  unfold f_OT_isLot
  refine gEx.iload rfl rfl rfl ?_
  refine gEx.if_lt (tn := 14) rfl rfl rfl ?_ ?_
  · refine gEx.lab (ls' := [some (.int x0)]) rfl rfl ?_
    refine gEx.iconst rfl rfl ?_
    refine gEx.lab (ls' := [some (.int x0)]) rfl rfl ?_
    exact gEx.retz0 (by decide) rfl rfl
  · refine gEx.iload rfl rfl rfl ?_
    refine gEx.iconst rfl rfl ?_
    refine gEx.icmp_ge (tn := 14) rfl rfl rfl ?_ ?_
    · refine gEx.iconst rfl rfl ?_
      refine gEx.goto (tn := 15) rfl rfl rfl ?_
      refine gEx.lab (ls' := [some (.int x0)]) rfl rfl ?_
      exact gEx.retz0 (by decide) rfl rfl
    · refine gEx.lab (ls' := [some (.int x0)]) rfl rfl ?_
      refine gEx.iconst rfl rfl ?_
      refine gEx.lab (ls' := [some (.int x0)]) rfl rfl ?_
      exact gEx.retz0 (by decide) rfl rfl
abbrev gcx_111 : gC := glook (gco_111_0)
set_option maxRecDepth 100000 in
set_option maxHeartbeats 4000000 in
theorem t_OT_lay {d : Nat} (hd : 3 ≤ d) {sh : gH} {kl : List (Option Nat)} {x1 : Int32} {x2 : Int32} (h0 : gHas sh.1 0 (gsh_OT kl)) {m : gM} : ∀ x, f_OT_lay x1 x2 m = some x → gR gmi gdf gcd d 111 [.ref 0, .int x1, .int x2] (sh, m) ((gri x).1, (sh, (gri x).2)) := by
  obtain ⟨d, rfl⟩ : ∃ e, d = e + 1 := ⟨d - 1, by omega⟩
  refine gR_of (mx := 4) (code := gcx_111) rfl rfl (Nat.le_of_ble_eq_true rfl) ?_
  have hJ_23 : ∀ (m1 : gM), gEx d gcx_111 sh gri 23 [some (.ref 0), some (.int x1), some (.int x2), none] [] m1 (J_OT_lay_23 x1 x2 m1) := by
    intro m1
    unfold J_OT_lay_23
    refine gEx.aload rfl rfl rfl ?_
    refine gEx.getR rfl rfl (h0 0 _ rfl) rfl ?_
    refine gEx.getR rfl rfl (h0 1 _ rfl) rfl ?_
    refine gEx.getR rfl rfl (h0 2 _ rfl) rfl ?_
    refine gEx.iload rfl rfl rfl ?_
    refine gEx.iald rfl rfl (h0 10 _ rfl) ?_
    refine gEx.istoreL (ls' := fun v1 => [some (.ref 0), some (.int x1), some (.int x2), some (.int v1)]) rfl rfl (fun _ => rfl) (fun v1 => ?_)
    refine gEx.aload rfl rfl rfl ?_
    refine gEx.getR rfl rfl (h0 0 _ rfl) rfl ?_
    refine gEx.getR rfl rfl (h0 1 _ rfl) rfl ?_
    refine gEx.getR rfl rfl (h0 2 _ rfl) rfl ?_
    refine gEx.iload rfl rfl rfl ?_
    refine gEx.iload rfl rfl rfl ?_
    refine gEx.iast rfl rfl (h0 10 _ rfl) (fun m2 => ?_)
    refine gEx.iload rfl rfl rfl ?_
    exact gEx.reti rfl rfl
  show gEx d gcx_111 sh gri 0 [some (.ref 0), some (.int x1), some (.int x2), none] [] m (f_OT_lay x1 x2 m)
  unfold f_OT_lay
  refine gEx.aload rfl rfl rfl ?_
  refine gEx.iload rfl rfl rfl ?_
  refine gEx.callVi rfl rfl rfl rfl (h0 0 _ rfl) rfl (fun _ h => (t_OT_hasCell (by omega) h0) _ h) (fun r1 => ?_)
  refine gEx.if_eq (tn := 21) rfl rfl rfl ?_ ?_
  · refine gEx.lab (ls' := [some (.ref 0), none, none, none]) rfl rfl ?_
    refine gEx.iconst rfl rfl ?_
    exact gEx.reti rfl rfl
  · refine gEx.iload rfl rfl rfl ?_
    refine gEx.iconst rfl rfl ?_
    refine gEx.icmp_eq (tn := 23) rfl rfl rfl ?_ ?_
    · exact gEx.lab rfl rfl (hJ_23 r1.2)
    · refine gEx.iload rfl rfl rfl ?_
      refine gEx.callSi rfl rfl rfl rfl rfl (fun _ h => (t_OT_isLot (by omega) ) _ h) (fun r2 => ?_)
      refine gEx.if_ne (tn := 23) rfl rfl rfl ?_ ?_
      · refine gEx.lab (ls' := [some (.ref 0), none, none, none]) rfl rfl ?_
        refine gEx.iconst rfl rfl ?_
        exact gEx.reti rfl rfl
      · exact gEx.lab rfl rfl (hJ_23 r2.2)
abbrev gcx_147 : gC := glook (gco_147_0)
set_option maxRecDepth 100000 in
set_option maxHeartbeats 4000000 in
theorem t_OT_isByLot {d : Nat} (hd : 1 ≤ d) {sh : gH} {x0 : Int32}  {m : gM} : ∀ x, f_OT_isByLot x0 m = some x → gR gmi gdf gcd d 147 [.int x0] (sh, m) ((gri x).1, (sh, (gri x).2)) := by
  obtain ⟨d, rfl⟩ : ∃ e, d = e + 1 := ⟨d - 1, by omega⟩
  refine gR_of (mx := 1) (code := gcx_147) rfl rfl (Nat.le_of_ble_eq_true rfl) ?_
  show gEx d gcx_147 sh gri 0 [some (.int x0)] [] m (f_OT_isByLot x0 m)
  unfold f_OT_isByLot
  refine gEx.iload rfl rfl rfl ?_
  refine gEx.iconst rfl rfl ?_
  refine gEx.icmp_lt (tn := 16) rfl rfl rfl ?_ ?_
  · refine gEx.lab (ls' := [some (.int x0)]) rfl rfl ?_
    refine gEx.iconst rfl rfl ?_
    refine gEx.lab (ls' := [some (.int x0)]) rfl rfl ?_
    exact gEx.retz0 (by decide) rfl rfl
  · refine gEx.iload rfl rfl rfl ?_
    refine gEx.iconst rfl rfl ?_
    refine gEx.icmp_ge (tn := 16) rfl rfl rfl ?_ ?_
    · refine gEx.iconst rfl rfl ?_
      refine gEx.goto (tn := 17) rfl rfl rfl ?_
      refine gEx.lab (ls' := [some (.int x0)]) rfl rfl ?_
      exact gEx.retz0 (by decide) rfl rfl
    · refine gEx.lab (ls' := [some (.int x0)]) rfl rfl ?_
      refine gEx.iconst rfl rfl ?_
      refine gEx.lab (ls' := [some (.int x0)]) rfl rfl ?_
      exact gEx.retz0 (by decide) rfl rfl
abbrev gcx_112 : gC := glook (gco_112_0 ++ (gco_112_1))
set_option maxRecDepth 100000 in
set_option maxHeartbeats 4000000 in
theorem t_OT_cellOf {d : Nat} (hd : 3 ≤ d) {sh : gH} {kl : List (Option Nat)} {x1 : Int32} {x2 : Int32} (h0 : gHas sh.1 0 (gsh_OT kl)) {m : gM} : ∀ x, f_OT_cellOf x1 x2 m = some x → gR gmi gdf gcd d 112 [.ref 0, .int x1, .int x2] (sh, m) ((gri x).1, (sh, (gri x).2)) := by
  obtain ⟨d, rfl⟩ : ∃ e, d = e + 1 := ⟨d - 1, by omega⟩
  refine gR_of (mx := 4) (code := gcx_112) rfl rfl (Nat.le_of_ble_eq_true rfl) ?_
  show gEx d gcx_112 sh gri 0 [some (.ref 0), some (.int x1), some (.int x2), none] [] m (f_OT_cellOf x1 x2 m)
  unfold f_OT_cellOf
  refine gEx.aload rfl rfl rfl ?_
  refine gEx.iload rfl rfl rfl ?_
  refine gEx.callVi rfl rfl rfl rfl (h0 0 _ rfl) rfl (fun _ h => (t_OT_hasCell (by omega) h0) _ h) (fun r1 => ?_)
  refine gEx.if_ne (tn := 10) rfl rfl rfl ?_ ?_
  · refine gEx.iconst rfl rfl ?_
    exact gEx.reti rfl rfl
  · refine gEx.aload rfl rfl rfl ?_
    refine gEx.getR rfl rfl (h0 0 _ rfl) rfl ?_
    refine gEx.getR rfl rfl (h0 1 _ rfl) rfl ?_
    refine gEx.getR rfl rfl (h0 2 _ rfl) rfl ?_
    refine gEx.astore (ls' := [some (.ref 0), some (.int x1), some (.int x2), some (.ref 3)]) rfl rfl rfl ?_
    refine gEx.iload rfl rfl rfl ?_
    refine gEx.sw (dft := 107) (ps := #[(0, 60), (1, 67), (2, 74), (3, 81), (4, 88), (5, 101)]) rfl rfl [(0, gok (gib x1 36) (some (grd r1.2 6 x1, r1.2))), (1, gok (gib x1 36) (some (grd r1.2 7 x1, r1.2))), (2, gok (gib x1 36) (some (grd r1.2 8 x1, r1.2))), (3, gok (gib x1 36) (some (grd r1.2 9 x1, r1.2))), (4, gok (gib x1 36) (some (grd r1.2 10 x1, r1.2))), (5, (f_Pool_push 3 x1 r1.2).bind fun (r2 : Int32 × gM) => some (r2.1, r2.2))] ((f_OT_isByLot x2 r1.2).bind fun (r3 : Int32 × gM) => if r3.1 = 0 then (some ((-1), r3.2)) else (gok (gib (((x1 * 9) + x2) - 10) 324) (some (grd r3.2 11 (((x1 * 9) + x2) - 10), r3.2)))) ⟨rfl, ?_, ⟨rfl, ?_, ⟨rfl, ?_, ⟨rfl, ?_, ⟨rfl, ?_, ⟨rfl, ?_, trivial⟩⟩⟩⟩⟩⟩ ?_
    · show gEx d gcx_112 sh gri 60 _ _ _ _
      refine gEx.aload rfl rfl rfl ?_
      refine gEx.getR rfl rfl (h0 3 _ rfl) rfl ?_
      refine gEx.iload rfl rfl rfl ?_
      refine gEx.iald rfl rfl (h0 6 _ rfl) ?_
      exact gEx.reti rfl rfl
    · show gEx d gcx_112 sh gri 67 _ _ _ _
      refine gEx.aload rfl rfl rfl ?_
      refine gEx.getR rfl rfl (h0 3 _ rfl) rfl ?_
      refine gEx.iload rfl rfl rfl ?_
      refine gEx.iald rfl rfl (h0 7 _ rfl) ?_
      exact gEx.reti rfl rfl
    · show gEx d gcx_112 sh gri 74 _ _ _ _
      refine gEx.aload rfl rfl rfl ?_
      refine gEx.getR rfl rfl (h0 3 _ rfl) rfl ?_
      refine gEx.iload rfl rfl rfl ?_
      refine gEx.iald rfl rfl (h0 8 _ rfl) ?_
      exact gEx.reti rfl rfl
    · show gEx d gcx_112 sh gri 81 _ _ _ _
      refine gEx.aload rfl rfl rfl ?_
      refine gEx.getR rfl rfl (h0 3 _ rfl) rfl ?_
      refine gEx.iload rfl rfl rfl ?_
      refine gEx.iald rfl rfl (h0 9 _ rfl) ?_
      exact gEx.reti rfl rfl
    · show gEx d gcx_112 sh gri 88 _ _ _ _
      refine gEx.aload rfl rfl rfl ?_
      refine gEx.getR rfl rfl (h0 0 _ rfl) rfl ?_
      refine gEx.getR rfl rfl (h0 1 _ rfl) rfl ?_
      refine gEx.getR rfl rfl (h0 2 _ rfl) rfl ?_
      refine gEx.iload rfl rfl rfl ?_
      refine gEx.iald rfl rfl (h0 10 _ rfl) ?_
      exact gEx.reti rfl rfl
    · show gEx d gcx_112 sh gri 101 _ _ _ _
      refine gEx.aload rfl rfl rfl ?_
      refine gEx.iload rfl rfl rfl ?_
      refine gEx.callVi rfl rfl rfl rfl (h0 3 _ rfl) rfl (fun _ h => (t_Pool_push (by omega) (gsub_OT_3 h0)) _ h) (fun r2 => ?_)
      exact gEx.reti rfl rfl
    · show gEx d gcx_112 sh gri 107 _ _ _ _
      refine gEx.iload rfl rfl rfl ?_
      refine gEx.callSi rfl rfl rfl rfl rfl (fun _ h => (t_OT_isByLot (by omega) ) _ h) (fun r3 => ?_)
      refine gEx.if_eq (tn := 137) rfl rfl rfl ?_ ?_
      · refine gEx.iconst rfl rfl ?_
        refine gEx.lab (ls' := [some (.ref 0), none, none, none]) rfl rfl ?_
        exact gEx.reti rfl rfl
      · refine gEx.aload rfl rfl rfl ?_
        refine gEx.getR rfl rfl (h0 0 _ rfl) rfl ?_
        refine gEx.getR rfl rfl (h0 1 _ rfl) rfl ?_
        refine gEx.getR rfl rfl (h0 2 _ rfl) rfl ?_
        refine gEx.iload rfl rfl rfl ?_
        refine gEx.iconst rfl rfl ?_
        refine gEx.imul rfl rfl ?_
        refine gEx.iload rfl rfl rfl ?_
        refine gEx.iadd rfl rfl ?_
        refine gEx.iconst rfl rfl ?_
        refine gEx.isub rfl rfl ?_
        refine gEx.iald rfl rfl (h0 11 _ rfl) ?_
        refine gEx.goto (tn := 138) rfl rfl rfl ?_
        refine gEx.lab (ls' := [some (.ref 0), none, none, none]) rfl rfl ?_
        exact gEx.reti rfl rfl
abbrev gcx_113 : gC := glook (gco_113_0)
set_option maxRecDepth 100000 in
set_option maxHeartbeats 4000000 in
theorem t_OT_hour {d : Nat} (hd : 6 ≤ d) {sh : gH} {kl : List (Option Nat)}  (h0 : gHas sh.1 0 (gsh_OT kl)) {m : gM} : ∀ x, f_OT_hour  m = some x → gR gmi gdf gcd d 113 [.ref 0] (sh, m) ((gri x).1, (sh, (gri x).2)) := by
  obtain ⟨d, rfl⟩ : ∃ e, d = e + 1 := ⟨d - 1, by omega⟩
  refine gR_of (mx := 1) (code := gcx_113) rfl rfl (Nat.le_of_ble_eq_true rfl) ?_
  show gEx d gcx_113 sh gri 0 [some (.ref 0)] [] m (f_OT_hour  m)
  unfold f_OT_hour
  refine gEx.aload rfl rfl rfl ?_
  refine gEx.getR rfl rfl (h0 0 _ rfl) rfl ?_
  refine gEx.getI rfl rfl (h0 1 _ rfl) rfl ?_
  refine gEx.iconst rfl rfl ?_
  refine gEx.icmp_lt (tn := 16) rfl rfl rfl ?_ ?_
  · refine gEx.aload rfl rfl rfl ?_
    refine gEx.getR rfl rfl (h0 0 _ rfl) rfl ?_
    refine gEx.aload rfl rfl rfl ?_
    refine gEx.getR rfl rfl (h0 0 _ rfl) rfl ?_
    refine gEx.callVi rfl rfl rfl rfl (h0 1 _ rfl) rfl (fun _ h => (t_Town_letHourGo (by omega) (gsub_OT_1 h0) (gsub_OT_46 h0)) _ h) (fun r1 => ?_)
    exact gEx.reti rfl rfl
  · refine gEx.iconst rfl rfl ?_
    exact gEx.reti rfl rfl
abbrev gcx_114 : gC := glook (gco_114_0)
set_option maxRecDepth 100000 in
set_option maxHeartbeats 4000000 in
theorem t_OT_person {d : Nat} (hd : 1 ≤ d) {sh : gH} {kl : List (Option Nat)}  (h0 : gHas sh.1 0 (gsh_OT kl)) {m : gM} : ∀ x, f_OT_person  m = some x → gR gmi gdf gcd d 114 [.ref 0] (sh, m) ((gri x).1, (sh, (gri x).2)) := by
  obtain ⟨d, rfl⟩ : ∃ e, d = e + 1 := ⟨d - 1, by omega⟩
  refine gR_of (mx := 1) (code := gcx_114) rfl rfl (Nat.le_of_ble_eq_true rfl) ?_
  show gEx d gcx_114 sh gri 0 [some (.ref 0)] [] m (f_OT_person  m)
  unfold f_OT_person
  refine gEx.aload rfl rfl rfl ?_
  refine gEx.getI rfl rfl (h0 0 _ rfl) rfl ?_
  refine gEx.iconst rfl rfl ?_
  refine gEx.icmp_lt (tn := 12) rfl rfl rfl ?_ ?_
  · refine gEx.aload rfl rfl rfl ?_
    refine gEx.dupR rfl rfl ?_
    refine gEx.getI rfl rfl (h0 0 _ rfl) rfl ?_
    refine gEx.iconst rfl rfl ?_
    refine gEx.iadd rfl rfl ?_
    refine gEx.putI rfl rfl (h0 0 _ rfl) rfl rfl rfl (fun m1 => ?_)
    refine gEx.aload rfl rfl rfl ?_
    refine gEx.getI rfl rfl (h0 0 _ rfl) rfl ?_
    refine gEx.iconst rfl rfl ?_
    refine gEx.isub rfl rfl ?_
    exact gEx.reti rfl rfl
  · refine gEx.iconst rfl rfl ?_
    exact gEx.reti rfl rfl
abbrev gcx_151 : gC := glook (gco_151_0)
set_option maxRecDepth 100000 in
set_option maxHeartbeats 4000000 in
theorem t_OT_isPerson {d : Nat} (hd : 1 ≤ d) {sh : gH} {kl : List (Option Nat)} {x1 : Int32} (h0 : gHas sh.1 0 (gsh_OT kl)) {m : gM} : ∀ x, f_OT_isPerson x1 m = some x → gR gmi gdf gcd d 151 [.ref 0, .int x1] (sh, m) ((gri x).1, (sh, (gri x).2)) := by
  obtain ⟨d, rfl⟩ : ∃ e, d = e + 1 := ⟨d - 1, by omega⟩
  refine gR_of (mx := 2) (code := gcx_151) rfl rfl (Nat.le_of_ble_eq_true rfl) ?_
  show gEx d gcx_151 sh gri 0 [some (.ref 0), some (.int x1)] [] m (f_OT_isPerson x1 m)
  unfold f_OT_isPerson
  refine gEx.iload rfl rfl rfl ?_
  refine gEx.if_lt (tn := 16) rfl rfl rfl ?_ ?_
  · refine gEx.lab (ls' := [some (.ref 0), none]) rfl rfl ?_
    refine gEx.iconst rfl rfl ?_
    refine gEx.lab (ls' := [some (.ref 0), none]) rfl rfl ?_
    exact gEx.retz0 (by decide) rfl rfl
  · refine gEx.iload rfl rfl rfl ?_
    refine gEx.aload rfl rfl rfl ?_
    refine gEx.getI rfl rfl (h0 0 _ rfl) rfl ?_
    refine gEx.icmp_ge (tn := 16) rfl rfl rfl ?_ ?_
    · refine gEx.iconst rfl rfl ?_
      refine gEx.goto (tn := 17) rfl rfl rfl ?_
      refine gEx.lab (ls' := [some (.ref 0), none]) rfl rfl ?_
      exact gEx.retz0 (by decide) rfl rfl
    · refine gEx.lab (ls' := [some (.ref 0), none]) rfl rfl ?_
      refine gEx.iconst rfl rfl ?_
      refine gEx.lab (ls' := [some (.ref 0), none]) rfl rfl ?_
      exact gEx.retz0 (by decide) rfl rfl
abbrev gcx_115 : gC := glook (gco_115_0)
set_option maxRecDepth 100000 in
set_option maxHeartbeats 4000000 in
theorem t_OT_owner {d : Nat} (hd : 2 ≤ d) {sh : gH} {kl : List (Option Nat)} {x1 : Int32} {x2 : Int32} (h0 : gHas sh.1 0 (gsh_OT kl)) {m : gM} : ∀ x, f_OT_owner x1 x2 m = some x → gR gmi gdf gcd d 115 [.ref 0, .int x1, .int x2] (sh, m) ((gri x).1, (sh, (gri x).2)) := by
  obtain ⟨d, rfl⟩ : ∃ e, d = e + 1 := ⟨d - 1, by omega⟩
  refine gR_of (mx := 4) (code := gcx_115) rfl rfl (Nat.le_of_ble_eq_true rfl) ?_
  have hJ_24 : ∀ (m1 : gM), gEx d gcx_115 sh gri 24 [some (.ref 0), some (.int x1), some (.int x2), none] [] m1 (J_OT_owner_24 x1 x2 m1) := by
    intro m1
    unfold J_OT_owner_24
    refine gEx.aload rfl rfl rfl ?_
    refine gEx.getR rfl rfl (h0 0 _ rfl) rfl ?_
    refine gEx.getR rfl rfl (h0 1 _ rfl) rfl ?_
    refine gEx.getR rfl rfl (h0 12 _ rfl) rfl ?_
    refine gEx.iload rfl rfl rfl ?_
    refine gEx.iald rfl rfl (h0 13 _ rfl) ?_
    refine gEx.istoreL (ls' := fun v1 => [some (.ref 0), some (.int x1), some (.int x2), some (.int v1)]) rfl rfl (fun _ => rfl) (fun v1 => ?_)
    refine gEx.aload rfl rfl rfl ?_
    refine gEx.getR rfl rfl (h0 0 _ rfl) rfl ?_
    refine gEx.getR rfl rfl (h0 1 _ rfl) rfl ?_
    refine gEx.getR rfl rfl (h0 12 _ rfl) rfl ?_
    refine gEx.iload rfl rfl rfl ?_
    refine gEx.iload rfl rfl rfl ?_
    refine gEx.iast rfl rfl (h0 13 _ rfl) (fun m2 => ?_)
    refine gEx.iload rfl rfl rfl ?_
    exact gEx.reti rfl rfl
  show gEx d gcx_115 sh gri 0 [some (.ref 0), some (.int x1), some (.int x2), none] [] m (f_OT_owner x1 x2 m)
  unfold f_OT_owner
  refine gEx.iload rfl rfl rfl ?_
  refine gEx.callSi rfl rfl rfl rfl rfl (fun _ h => (t_OT_isLot (by omega) ) _ h) (fun r1 => ?_)
  refine gEx.if_eq (tn := 21) rfl rfl rfl ?_ ?_
  · refine gEx.lab (ls' := [some (.ref 0), none, none, none]) rfl rfl ?_
    refine gEx.iconst rfl rfl ?_
    exact gEx.reti rfl rfl
  · refine gEx.iload rfl rfl rfl ?_
    refine gEx.iconst rfl rfl ?_
    refine gEx.icmp_eq (tn := 24) rfl rfl rfl ?_ ?_
    · exact gEx.lab rfl rfl (hJ_24 r1.2)
    · refine gEx.aload rfl rfl rfl ?_
      refine gEx.iload rfl rfl rfl ?_
      refine gEx.callVi rfl rfl rfl rfl (h0 0 _ rfl) rfl (fun _ h => (t_OT_isPerson (by omega) h0) _ h) (fun r2 => ?_)
      refine gEx.if_ne (tn := 24) rfl rfl rfl ?_ ?_
      · refine gEx.lab (ls' := [some (.ref 0), none, none, none]) rfl rfl ?_
        refine gEx.iconst rfl rfl ?_
        exact gEx.reti rfl rfl
      · exact gEx.lab rfl rfl (hJ_24 r2.2)
abbrev gcx_116 : gC := glook (gco_116_0)
set_option maxRecDepth 100000 in
set_option maxHeartbeats 4000000 in
theorem t_OT_lease {d : Nat} (hd : 2 ≤ d) {sh : gH} {kl : List (Option Nat)} {x1 : Int32} {x2 : Int32} {x3 : Int32} {x4 : Int32} (h0 : gHas sh.1 0 (gsh_OT kl)) {m : gM} : ∀ x, f_OT_lease x1 x2 x3 x4 m = some x → gR gmi gdf gcd d 116 [.ref 0, .int x1, .int x2, .int x3, .int x4] (sh, m) ((gri x).1, (sh, (gri x).2)) := by
  obtain ⟨d, rfl⟩ : ∃ e, d = e + 1 := ⟨d - 1, by omega⟩
  refine gR_of (mx := 5) (code := gcx_116) rfl rfl (Nat.le_of_ble_eq_true rfl) ?_
  show gEx d gcx_116 sh gri 0 [some (.ref 0), some (.int x1), some (.int x2), some (.int x3), some (.int x4)] [] m (f_OT_lease x1 x2 x3 x4 m)
  unfold f_OT_lease
  refine gEx.iload rfl rfl rfl ?_
  refine gEx.callSi rfl rfl rfl rfl rfl (fun _ h => (t_OT_isLot (by omega) ) _ h) (fun r1 => ?_)
  refine gEx.if_eq (tn := 38) rfl rfl rfl ?_ ?_
  · refine gEx.lab (ls' := [some (.ref 0), none, none, none, none]) rfl rfl ?_
    refine gEx.iconst rfl rfl ?_
    exact gEx.reti rfl rfl
  · refine gEx.aload rfl rfl rfl ?_
    refine gEx.iload rfl rfl rfl ?_
    refine gEx.callVi rfl rfl rfl rfl (h0 0 _ rfl) rfl (fun _ h => (t_OT_isPerson (by omega) h0) _ h) (fun r2 => ?_)
    refine gEx.if_eq (tn := 38) rfl rfl rfl ?_ ?_
    · refine gEx.lab (ls' := [some (.ref 0), none, none, none, none]) rfl rfl ?_
      refine gEx.iconst rfl rfl ?_
      exact gEx.reti rfl rfl
    · refine gEx.iload rfl rfl rfl ?_
      refine gEx.iconst rfl rfl ?_
      refine gEx.icmp_lt (tn := 38) rfl rfl rfl ?_ ?_
      · refine gEx.lab (ls' := [some (.ref 0), none, none, none, none]) rfl rfl ?_
        refine gEx.iconst rfl rfl ?_
        exact gEx.reti rfl rfl
      · refine gEx.iload rfl rfl rfl ?_
        refine gEx.iconst rfl rfl ?_
        refine gEx.icmp_gt (tn := 38) rfl rfl rfl ?_ ?_
        · refine gEx.lab (ls' := [some (.ref 0), none, none, none, none]) rfl rfl ?_
          refine gEx.iconst rfl rfl ?_
          exact gEx.reti rfl rfl
        · refine gEx.iload rfl rfl rfl ?_
          refine gEx.iconst rfl rfl ?_
          refine gEx.callSi rfl rfl rfl rfl rfl (fun _ h => (t_OT_within (by omega) ) _ h) (fun r3 => ?_)
          refine gEx.if_ne (tn := 40) rfl rfl rfl ?_ ?_
          · refine gEx.lab (ls' := [some (.ref 0), none, none, none, none]) rfl rfl ?_
            refine gEx.iconst rfl rfl ?_
            exact gEx.reti rfl rfl
          · refine gEx.aload rfl rfl rfl ?_
            refine gEx.getR rfl rfl (h0 0 _ rfl) rfl ?_
            refine gEx.getR rfl rfl (h0 1 _ rfl) rfl ?_
            refine gEx.iload rfl rfl rfl ?_
            refine gEx.iload rfl rfl rfl ?_
            refine gEx.iload rfl rfl rfl ?_
            refine gEx.iload rfl rfl rfl ?_
            refine gEx.callVi rfl rfl rfl rfl (h0 12 _ rfl) rfl (fun _ h => (t_Deeds_add (by omega) (gsub_OT_12 h0)) _ h) (fun r4 => ?_)
            exact gEx.reti rfl rfl
abbrev gcx_117 : gC := glook (gco_117_0)
set_option maxRecDepth 100000 in
set_option maxHeartbeats 4000000 in
theorem t_OT_leaseOf {d : Nat} (hd : 3 ≤ d) {sh : gH} {kl : List (Option Nat)} {x1 : Int32} {x2 : Int32} (h0 : gHas sh.1 0 (gsh_OT kl)) {m : gM} : ∀ x, f_OT_leaseOf x1 x2 m = some x → gR gmi gdf gcd d 117 [.ref 0, .int x1, .int x2] (sh, m) ((gri x).1, (sh, (gri x).2)) := by
  obtain ⟨d, rfl⟩ : ∃ e, d = e + 1 := ⟨d - 1, by omega⟩
  refine gR_of (mx := 4) (code := gcx_117) rfl rfl (Nat.le_of_ble_eq_true rfl) ?_
  show gEx d gcx_117 sh gri 0 [some (.ref 0), some (.int x1), some (.int x2), none] [] m (f_OT_leaseOf x1 x2 m)
  unfold f_OT_leaseOf
  refine gEx.aload rfl rfl rfl ?_
  refine gEx.getR rfl rfl (h0 0 _ rfl) rfl ?_
  refine gEx.getR rfl rfl (h0 1 _ rfl) rfl ?_
  refine gEx.astore (ls' := [some (.ref 0), some (.int x1), some (.int x2), some (.ref 12)]) rfl rfl rfl ?_
  refine gEx.iload rfl rfl rfl ?_
  refine gEx.if_lt (tn := 20) rfl rfl rfl ?_ ?_
  · refine gEx.lab (ls' := [some (.ref 0), none, none, none]) rfl rfl ?_
    refine gEx.iconst rfl rfl ?_
    exact gEx.reti rfl rfl
  · refine gEx.iload rfl rfl rfl ?_
    refine gEx.aload rfl rfl rfl ?_
    refine gEx.getI rfl rfl (h0 12 _ rfl) rfl ?_
    refine gEx.icmp_lt (tn := 22) rfl rfl rfl ?_ ?_
    · refine gEx.iload rfl rfl rfl ?_
      refine gEx.sw (dft := 101) (ps := #[(0, 56), (1, 63), (2, 70), (3, 77), (4, 84)]) rfl rfl [(0, gok (gib x1 12) (some (grd m 14 x1, m))), (1, gok (gib x1 12) (some (grd m 15 x1, m))), (2, gok (gib x1 12) (some (grd m 16 x1, m))), (3, gok (gib x1 12) (some (grd m 17 x1, m))), (4, (f_Town_hasEnded 1 x1 m).bind fun (r1 : Int32 × gM) => if r1.1 = 0 then (some (0, r1.2)) else (some (1, r1.2)))] (some ((-1), m)) ⟨rfl, ?_, ⟨rfl, ?_, ⟨rfl, ?_, ⟨rfl, ?_, ⟨rfl, ?_, trivial⟩⟩⟩⟩⟩ ?_
      · show gEx d gcx_117 sh gri 56 _ _ _ _
        refine gEx.aload rfl rfl rfl ?_
        refine gEx.getR rfl rfl (h0 12 _ rfl) rfl ?_
        refine gEx.iload rfl rfl rfl ?_
        refine gEx.iald rfl rfl (h0 14 _ rfl) ?_
        exact gEx.reti rfl rfl
      · show gEx d gcx_117 sh gri 63 _ _ _ _
        refine gEx.aload rfl rfl rfl ?_
        refine gEx.getR rfl rfl (h0 12 _ rfl) rfl ?_
        refine gEx.iload rfl rfl rfl ?_
        refine gEx.iald rfl rfl (h0 15 _ rfl) ?_
        exact gEx.reti rfl rfl
      · show gEx d gcx_117 sh gri 70 _ _ _ _
        refine gEx.aload rfl rfl rfl ?_
        refine gEx.getR rfl rfl (h0 12 _ rfl) rfl ?_
        refine gEx.iload rfl rfl rfl ?_
        refine gEx.iald rfl rfl (h0 16 _ rfl) ?_
        exact gEx.reti rfl rfl
      · show gEx d gcx_117 sh gri 77 _ _ _ _
        refine gEx.aload rfl rfl rfl ?_
        refine gEx.getR rfl rfl (h0 12 _ rfl) rfl ?_
        refine gEx.iload rfl rfl rfl ?_
        refine gEx.iald rfl rfl (h0 17 _ rfl) ?_
        exact gEx.reti rfl rfl
      · show gEx d gcx_117 sh gri 84 _ _ _ _
        refine gEx.aload rfl rfl rfl ?_
        refine gEx.getR rfl rfl (h0 0 _ rfl) rfl ?_
        refine gEx.iload rfl rfl rfl ?_
        refine gEx.callVi rfl rfl rfl rfl (h0 1 _ rfl) rfl (fun _ h => (t_Town_hasEnded (by omega) (gsub_OT_1 h0)) _ h) (fun r1 => ?_)
        refine gEx.if_eq (tn := 99) rfl rfl rfl ?_ ?_
        · refine gEx.iconst rfl rfl ?_
          refine gEx.lab (ls' := [some (.ref 0), none, none, none]) rfl rfl ?_
          exact gEx.reti rfl rfl
        · refine gEx.iconst rfl rfl ?_
          refine gEx.goto (tn := 100) rfl rfl rfl ?_
          refine gEx.lab (ls' := [some (.ref 0), none, none, none]) rfl rfl ?_
          exact gEx.reti rfl rfl
      · show gEx d gcx_117 sh gri 101 _ _ _ _
        refine gEx.iconst rfl rfl ?_
        exact gEx.reti rfl rfl
    · refine gEx.lab (ls' := [some (.ref 0), none, none, none]) rfl rfl ?_
      refine gEx.iconst rfl rfl ?_
      exact gEx.reti rfl rfl
abbrev gcx_118 : gC := glook (gco_118_0)
set_option maxRecDepth 100000 in
set_option maxHeartbeats 4000000 in
theorem t_OT_holds {d : Nat} (hd : 4 ≤ d) {sh : gH} {kl : List (Option Nat)} {x1 : Int32} (h0 : gHas sh.1 0 (gsh_OT kl)) {m : gM} : ∀ x, f_OT_holds x1 m = some x → gR gmi gdf gcd d 118 [.ref 0, .int x1] (sh, m) ((gri x).1, (sh, (gri x).2)) := by
  obtain ⟨d, rfl⟩ : ∃ e, d = e + 1 := ⟨d - 1, by omega⟩
  refine gR_of (mx := 2) (code := gcx_118) rfl rfl (Nat.le_of_ble_eq_true rfl) ?_
  show gEx d gcx_118 sh gri 0 [some (.ref 0), some (.int x1)] [] m (f_OT_holds x1 m)
  unfold f_OT_holds
  refine gEx.iload rfl rfl rfl ?_
  refine gEx.callSi rfl rfl rfl rfl rfl (fun _ h => (t_OT_isLot (by omega) ) _ h) (fun r1 => ?_)
  refine gEx.if_eq (tn := 18) rfl rfl rfl ?_ ?_
  · refine gEx.iconst rfl rfl ?_
    refine gEx.lab (ls' := [some (.ref 0), none]) rfl rfl ?_
    exact gEx.reti rfl rfl
  · refine gEx.aload rfl rfl rfl ?_
    refine gEx.getR rfl rfl (h0 0 _ rfl) rfl ?_
    refine gEx.iload rfl rfl rfl ?_
    refine gEx.callVi rfl rfl rfl rfl (h0 1 _ rfl) rfl (fun _ h => (t_Town_holderOf (by omega) (gsub_OT_1 h0)) _ h) (fun r2 => ?_)
    refine gEx.goto (tn := 19) rfl rfl rfl ?_
    refine gEx.lab (ls' := [some (.ref 0), none]) rfl rfl ?_
    exact gEx.reti rfl rfl
abbrev gcx_119 : gC := glook (gco_119_0 ++ (gco_119_1))
set_option maxRecDepth 100000 in
set_option maxHeartbeats 4000000 in
theorem t_OT_told {d : Nat} (hd : 7 ≤ d) {sh : gH} {kl : List (Option Nat)} {x1 : Int32} {x2 : Int32} (h0 : gHas sh.1 0 (gsh_OT kl)) {m : gM} : ∀ x, f_OT_told x1 x2 m = some x → gR gmi gdf gcd d 119 [.ref 0, .int x1, .int x2] (sh, m) ((gri x).1, (sh, (gri x).2)) := by
  obtain ⟨d, rfl⟩ : ∃ e, d = e + 1 := ⟨d - 1, by omega⟩
  refine gR_of (mx := 5) (code := gcx_119) rfl rfl (Nat.le_of_ble_eq_true rfl) ?_
  show gEx d gcx_119 sh gri 0 [some (.ref 0), some (.int x1), some (.int x2), none, none] [] m (f_OT_told x1 x2 m)
  unfold f_OT_told
  refine gEx.aload rfl rfl rfl ?_
  refine gEx.iload rfl rfl rfl ?_
  refine gEx.callVi rfl rfl rfl rfl (h0 0 _ rfl) rfl (fun _ h => (t_OT_isPerson (by omega) h0) _ h) (fun r1 => ?_)
  refine gEx.if_ne (tn := 10) rfl rfl rfl ?_ ?_
  · refine gEx.iconst rfl rfl ?_
    exact gEx.reti rfl rfl
  · refine gEx.aload rfl rfl rfl ?_
    refine gEx.getR rfl rfl (h0 0 _ rfl) rfl ?_
    refine gEx.getR rfl rfl (h0 1 _ rfl) rfl ?_
    refine gEx.astore (ls' := [some (.ref 0), some (.int x1), some (.int x2), some (.ref 27), none]) rfl rfl rfl ?_
    refine gEx.aload rfl rfl rfl ?_
    refine gEx.getR rfl rfl (h0 0 _ rfl) rfl ?_
    refine gEx.getR rfl rfl (h0 1 _ rfl) rfl ?_
    refine gEx.astore (ls' := [some (.ref 0), some (.int x1), some (.int x2), some (.ref 27), some (.ref 18)]) rfl rfl rfl ?_
    refine gEx.iload rfl rfl rfl ?_
    refine gEx.sw (dft := 151) (ps := #[(0, 72), (1, 79), (2, 86), (3, 93), (4, 100), (5, 107), (6, 120)]) rfl rfl [(0, gok (gib x1 6) (some (grd r1.2 28 x1, r1.2))), (1, gok (gib x1 6) (some (grd r1.2 29 x1, r1.2))), (2, gok (gib x1 6) (some (grd r1.2 30 x1, r1.2))), (3, (f_Wells_sizeOf 18 x1 r1.2).bind fun (r2 : Int32 × gM) => some (r2.1, r2.2)), (4, (f_Wells_oilOf 18 x1 r1.2).bind fun (r3 : Int32 × gM) => some (r3.1, r3.2)), (5, (f_Orders_hotOfPerson 41 1 x1 r1.2).bind fun (r4 : Int32 × gM) => some (r4.1, r4.2)), (6, gok (gib x1 6) ((f_Wells_oilOf 18 x1 r1.2).bind fun (r5 : Int32 × gM) => (f_Orders_hotOfPerson 41 1 x1 r5.2).bind fun (r6 : Int32 × gM) => some (gmax 0 ((grd r1.2 29 x1) - (r5.1 - r6.1)), r6.2)))] ((f_OT_isByLot x2 r1.2).bind fun (r7 : Int32 × gM) => if r7.1 = 0 then (some ((-1), r7.2)) else ((f_Wells_oilOfLot 18 x1 (x2 - 10) r7.2).bind fun (r8 : Int32 × gM) => some (r8.1, r8.2))) ⟨rfl, ?_, ⟨rfl, ?_, ⟨rfl, ?_, ⟨rfl, ?_, ⟨rfl, ?_, ⟨rfl, ?_, ⟨rfl, ?_, trivial⟩⟩⟩⟩⟩⟩⟩ ?_
    · show gEx d gcx_119 sh gri 72 _ _ _ _
      refine gEx.aload rfl rfl rfl ?_
      refine gEx.getR rfl rfl (h0 27 _ rfl) rfl ?_
      refine gEx.iload rfl rfl rfl ?_
      refine gEx.iald rfl rfl (h0 28 _ rfl) ?_
      exact gEx.reti rfl rfl
    · show gEx d gcx_119 sh gri 79 _ _ _ _
      refine gEx.aload rfl rfl rfl ?_
      refine gEx.getR rfl rfl (h0 27 _ rfl) rfl ?_
      refine gEx.iload rfl rfl rfl ?_
      refine gEx.iald rfl rfl (h0 29 _ rfl) ?_
      exact gEx.reti rfl rfl
    · show gEx d gcx_119 sh gri 86 _ _ _ _
      refine gEx.aload rfl rfl rfl ?_
      refine gEx.getR rfl rfl (h0 27 _ rfl) rfl ?_
      refine gEx.iload rfl rfl rfl ?_
      refine gEx.iald rfl rfl (h0 30 _ rfl) ?_
      exact gEx.reti rfl rfl
    · show gEx d gcx_119 sh gri 93 _ _ _ _
      refine gEx.aload rfl rfl rfl ?_
      refine gEx.iload rfl rfl rfl ?_
      refine gEx.callVi rfl rfl rfl rfl (h0 18 _ rfl) rfl (fun _ h => (t_Wells_sizeOf (by omega) (gsub_OT_18 h0)) _ h) (fun r2 => ?_)
      exact gEx.reti rfl rfl
    · show gEx d gcx_119 sh gri 100 _ _ _ _
      refine gEx.aload rfl rfl rfl ?_
      refine gEx.iload rfl rfl rfl ?_
      refine gEx.callVi rfl rfl rfl rfl (h0 18 _ rfl) rfl (fun _ h => (t_Wells_oilOf (by omega) (gsub_OT_18 h0)) _ h) (fun r3 => ?_)
      exact gEx.reti rfl rfl
    · show gEx d gcx_119 sh gri 107 _ _ _ _
      refine gEx.aload rfl rfl rfl ?_
      refine gEx.getR rfl rfl (h0 0 _ rfl) rfl ?_
      refine gEx.aload rfl rfl rfl ?_
      refine gEx.getR rfl rfl (h0 0 _ rfl) rfl ?_
      refine gEx.iload rfl rfl rfl ?_
      refine gEx.callVi rfl rfl rfl rfl (h0 41 _ rfl) rfl (fun _ h => (t_Orders_hotOfPerson (by omega) (gsub_OT_41 h0) (gsub_OT_1 h0)) _ h) (fun r4 => ?_)
      exact gEx.reti rfl rfl
    · show gEx d gcx_119 sh gri 120 _ _ _ _
      refine gEx.iconst rfl rfl ?_
      refine gEx.aload rfl rfl rfl ?_
      refine gEx.getR rfl rfl (h0 27 _ rfl) rfl ?_
      refine gEx.iload rfl rfl rfl ?_
      refine gEx.iald rfl rfl (h0 29 _ rfl) ?_
      refine gEx.aload rfl rfl rfl ?_
      refine gEx.iload rfl rfl rfl ?_
      refine gEx.callVi rfl rfl rfl rfl (h0 18 _ rfl) rfl (fun _ h => (t_Wells_oilOf (by omega) (gsub_OT_18 h0)) _ h) (fun r5 => ?_)
      refine gEx.aload rfl rfl rfl ?_
      refine gEx.getR rfl rfl (h0 0 _ rfl) rfl ?_
      refine gEx.aload rfl rfl rfl ?_
      refine gEx.getR rfl rfl (h0 0 _ rfl) rfl ?_
      refine gEx.iload rfl rfl rfl ?_
      refine gEx.callVi rfl rfl rfl rfl (h0 41 _ rfl) rfl (fun _ h => (t_Orders_hotOfPerson (by omega) (gsub_OT_41 h0) (gsub_OT_1 h0)) _ h) (fun r6 => ?_)
      refine gEx.isub rfl rfl ?_
      refine gEx.isub rfl rfl ?_
      refine gEx.mmax rfl rfl rfl ?_
      exact gEx.reti rfl rfl
    · show gEx d gcx_119 sh gri 151 _ _ _ _
      refine gEx.iload rfl rfl rfl ?_
      refine gEx.callSi rfl rfl rfl rfl rfl (fun _ h => (t_OT_isByLot (by omega) ) _ h) (fun r7 => ?_)
      refine gEx.if_eq (tn := 171) rfl rfl rfl ?_ ?_
      · refine gEx.iconst rfl rfl ?_
        refine gEx.lab (ls' := [some (.ref 0), none, none, none, none]) rfl rfl ?_
        exact gEx.reti rfl rfl
      · refine gEx.aload rfl rfl rfl ?_
        refine gEx.iload rfl rfl rfl ?_
        refine gEx.iload rfl rfl rfl ?_
        refine gEx.iconst rfl rfl ?_
        refine gEx.isub rfl rfl ?_
        refine gEx.callVi rfl rfl rfl rfl (h0 18 _ rfl) rfl (fun _ h => (t_Wells_oilOfLot (by omega) (gsub_OT_18 h0)) _ h) (fun r8 => ?_)
        refine gEx.goto (tn := 172) rfl rfl rfl ?_
        refine gEx.lab (ls' := [some (.ref 0), none, none, none, none]) rfl rfl ?_
        exact gEx.reti rfl rfl
abbrev gcx_120 : gC := glook (gco_120_0)
set_option maxRecDepth 100000 in
set_option maxHeartbeats 4000000 in
theorem t_OT_drill {d : Nat} (hd : 6 ≤ d) {sh : gH} {kl : List (Option Nat)} {x1 : Int32} {x2 : Int32} {x3 : Int32} (h0 : gHas sh.1 0 (gsh_OT kl)) {m : gM} : ∀ x, f_OT_drill x1 x2 x3 m = some x → gR gmi gdf gcd d 120 [.ref 0, .int x1, .int x2, .int x3] (sh, m) ((gri x).1, (sh, (gri x).2)) := by
  obtain ⟨d, rfl⟩ : ∃ e, d = e + 1 := ⟨d - 1, by omega⟩
  refine gR_of (mx := 4) (code := gcx_120) rfl rfl (Nat.le_of_ble_eq_true rfl) ?_
  show gEx d gcx_120 sh gri 0 [some (.ref 0), some (.int x1), some (.int x2), some (.int x3)] [] m (f_OT_drill x1 x2 x3 m)
  unfold f_OT_drill
  refine gEx.aload rfl rfl rfl ?_
  refine gEx.iload rfl rfl rfl ?_
  refine gEx.callVi rfl rfl rfl rfl (h0 0 _ rfl) rfl (fun _ h => (t_OT_isPerson (by omega) h0) _ h) (fun r1 => ?_)
  refine gEx.if_eq (tn := 25) rfl rfl rfl ?_ ?_
  · refine gEx.lab (ls' := [some (.ref 0), none, none, none]) rfl rfl ?_
    refine gEx.iconst rfl rfl ?_
    exact gEx.reti rfl rfl
  · refine gEx.aload rfl rfl rfl ?_
    refine gEx.iload rfl rfl rfl ?_
    refine gEx.callVi rfl rfl rfl rfl (h0 0 _ rfl) rfl (fun _ h => (t_OT_hasCell (by omega) h0) _ h) (fun r2 => ?_)
    refine gEx.if_eq (tn := 25) rfl rfl rfl ?_ ?_
    · refine gEx.lab (ls' := [some (.ref 0), none, none, none]) rfl rfl ?_
      refine gEx.iconst rfl rfl ?_
      exact gEx.reti rfl rfl
    · refine gEx.iload rfl rfl rfl ?_
      refine gEx.iconst rfl rfl ?_
      refine gEx.callSi rfl rfl rfl rfl rfl (fun _ h => (t_OT_within (by omega) ) _ h) (fun r3 => ?_)
      refine gEx.if_ne (tn := 27) rfl rfl rfl ?_ ?_
      · refine gEx.lab (ls' := [some (.ref 0), none, none, none]) rfl rfl ?_
        refine gEx.iconst rfl rfl ?_
        exact gEx.reti rfl rfl
      · refine gEx.aload rfl rfl rfl ?_
        refine gEx.getR rfl rfl (h0 0 _ rfl) rfl ?_
        refine gEx.aload rfl rfl rfl ?_
        refine gEx.getR rfl rfl (h0 0 _ rfl) rfl ?_
        refine gEx.iload rfl rfl rfl ?_
        refine gEx.iload rfl rfl rfl ?_
        refine gEx.callVi rfl rfl rfl rfl (h0 41 _ rfl) rfl (fun _ h => (t_Orders_whyNot (by omega) (gsub_OT_41 h0) (gsub_OT_1 h0)) _ h) (fun r4 => ?_)
        refine gEx.if_eq (tn := 46) rfl rfl rfl ?_ ?_
        · refine gEx.aload rfl rfl rfl ?_
          refine gEx.getR rfl rfl (h0 0 _ rfl) rfl ?_
          refine gEx.getR rfl rfl (h0 1 _ rfl) rfl ?_
          refine gEx.iload rfl rfl rfl ?_
          refine gEx.iload rfl rfl rfl ?_
          refine gEx.iload rfl rfl rfl ?_
          refine gEx.callVi rfl rfl rfl rfl (h0 18 _ rfl) rfl (fun _ h => (t_Wells_add (by omega) (gsub_OT_18 h0)) _ h) (fun r5 => ?_)
          exact gEx.reti rfl rfl
        · refine gEx.iconst rfl rfl ?_
          exact gEx.reti rfl rfl
abbrev gcx_121 : gC := glook (gco_121_0)
set_option maxRecDepth 100000 in
set_option maxHeartbeats 4000000 in
theorem t_OT_why {d : Nat} (hd : 6 ≤ d) {sh : gH} {kl : List (Option Nat)} {x1 : Int32} {x2 : Int32} (h0 : gHas sh.1 0 (gsh_OT kl)) {m : gM} : ∀ x, f_OT_why x1 x2 m = some x → gR gmi gdf gcd d 121 [.ref 0, .int x1, .int x2] (sh, m) ((gri x).1, (sh, (gri x).2)) := by
  obtain ⟨d, rfl⟩ : ∃ e, d = e + 1 := ⟨d - 1, by omega⟩
  refine gR_of (mx := 3) (code := gcx_121) rfl rfl (Nat.le_of_ble_eq_true rfl) ?_
  show gEx d gcx_121 sh gri 0 [some (.ref 0), some (.int x1), some (.int x2)] [] m (f_OT_why x1 x2 m)
  unfold f_OT_why
  refine gEx.aload rfl rfl rfl ?_
  refine gEx.iload rfl rfl rfl ?_
  refine gEx.callVi rfl rfl rfl rfl (h0 0 _ rfl) rfl (fun _ h => (t_OT_isPerson (by omega) h0) _ h) (fun r1 => ?_)
  refine gEx.if_eq (tn := 32) rfl rfl rfl ?_ ?_
  · refine gEx.lab (ls' := [some (.ref 0), none, none]) rfl rfl ?_
    refine gEx.iconst rfl rfl ?_
    refine gEx.lab (ls' := [some (.ref 0), none, none]) rfl rfl ?_
    exact gEx.reti rfl rfl
  · refine gEx.aload rfl rfl rfl ?_
    refine gEx.iload rfl rfl rfl ?_
    refine gEx.callVi rfl rfl rfl rfl (h0 0 _ rfl) rfl (fun _ h => (t_OT_hasCell (by omega) h0) _ h) (fun r2 => ?_)
    refine gEx.if_eq (tn := 32) rfl rfl rfl ?_ ?_
    · refine gEx.lab (ls' := [some (.ref 0), none, none]) rfl rfl ?_
      refine gEx.iconst rfl rfl ?_
      refine gEx.lab (ls' := [some (.ref 0), none, none]) rfl rfl ?_
      exact gEx.reti rfl rfl
    · refine gEx.aload rfl rfl rfl ?_
      refine gEx.getR rfl rfl (h0 0 _ rfl) rfl ?_
      refine gEx.aload rfl rfl rfl ?_
      refine gEx.getR rfl rfl (h0 0 _ rfl) rfl ?_
      refine gEx.iload rfl rfl rfl ?_
      refine gEx.iload rfl rfl rfl ?_
      refine gEx.callVi rfl rfl rfl rfl (h0 41 _ rfl) rfl (fun _ h => (t_Orders_whyNot (by omega) (gsub_OT_41 h0) (gsub_OT_1 h0)) _ h) (fun r3 => ?_)
      refine gEx.goto (tn := 33) rfl rfl rfl ?_
      refine gEx.lab (ls' := [some (.ref 0), none, none]) rfl rfl ?_
      exact gEx.reti rfl rfl
abbrev gcx_152 : gC := glook (gco_152_0)
set_option maxRecDepth 100000 in
set_option maxHeartbeats 4000000 in
theorem t_OT_isWell {d : Nat} (hd : 1 ≤ d) {sh : gH} {kl : List (Option Nat)} {x1 : Int32} (h0 : gHas sh.1 0 (gsh_OT kl)) {m : gM} : ∀ x, f_OT_isWell x1 m = some x → gR gmi gdf gcd d 152 [.ref 0, .int x1] (sh, m) ((gri x).1, (sh, (gri x).2)) := by
  obtain ⟨d, rfl⟩ : ∃ e, d = e + 1 := ⟨d - 1, by omega⟩
  refine gR_of (mx := 2) (code := gcx_152) rfl rfl (Nat.le_of_ble_eq_true rfl) ?_
  show gEx d gcx_152 sh gri 0 [some (.ref 0), some (.int x1)] [] m (f_OT_isWell x1 m)
  unfold f_OT_isWell
  refine gEx.iload rfl rfl rfl ?_
  refine gEx.if_lt (tn := 22) rfl rfl rfl ?_ ?_
  · refine gEx.lab (ls' := [some (.ref 0), none]) rfl rfl ?_
    refine gEx.iconst rfl rfl ?_
    refine gEx.lab (ls' := [some (.ref 0), none]) rfl rfl ?_
    exact gEx.retz0 (by decide) rfl rfl
  · refine gEx.iload rfl rfl rfl ?_
    refine gEx.aload rfl rfl rfl ?_
    refine gEx.getR rfl rfl (h0 0 _ rfl) rfl ?_
    refine gEx.getR rfl rfl (h0 1 _ rfl) rfl ?_
    refine gEx.getI rfl rfl (h0 18 _ rfl) rfl ?_
    refine gEx.icmp_ge (tn := 22) rfl rfl rfl ?_ ?_
    · refine gEx.iconst rfl rfl ?_
      refine gEx.goto (tn := 23) rfl rfl rfl ?_
      refine gEx.lab (ls' := [some (.ref 0), none]) rfl rfl ?_
      exact gEx.retz0 (by decide) rfl rfl
    · refine gEx.lab (ls' := [some (.ref 0), none]) rfl rfl ?_
      refine gEx.iconst rfl rfl ?_
      refine gEx.lab (ls' := [some (.ref 0), none]) rfl rfl ?_
      exact gEx.retz0 (by decide) rfl rfl
abbrev gcx_122 : gC := glook (gco_122_0)
set_option maxRecDepth 100000 in
set_option maxHeartbeats 4000000 in
theorem t_OT_will {d : Nat} (hd : 2 ≤ d) {sh : gH} {kl : List (Option Nat)} {x1 : Int32} {x2 : Int32} (h0 : gHas sh.1 0 (gsh_OT kl)) {m : gM} : ∀ x, f_OT_will x1 x2 m = some x → gR gmi gdf gcd d 122 [.ref 0, .int x1, .int x2] (sh, m) ((gri x).1, (sh, (gri x).2)) := by
  obtain ⟨d, rfl⟩ : ∃ e, d = e + 1 := ⟨d - 1, by omega⟩
  refine gR_of (mx := 4) (code := gcx_122) rfl rfl (Nat.le_of_ble_eq_true rfl) ?_
  show gEx d gcx_122 sh gri 0 [some (.ref 0), some (.int x1), some (.int x2), none] [] m (f_OT_will x1 x2 m)
  unfold f_OT_will
  refine gEx.aload rfl rfl rfl ?_
  refine gEx.iload rfl rfl rfl ?_
  refine gEx.callVi rfl rfl rfl rfl (h0 0 _ rfl) rfl (fun _ h => (t_OT_isWell (by omega) h0) _ h) (fun r1 => ?_)
  refine gEx.if_eq (tn := 17) rfl rfl rfl ?_ ?_
  · refine gEx.lab (ls' := [some (.ref 0), none, none, none]) rfl rfl ?_
    refine gEx.iconst rfl rfl ?_
    exact gEx.reti rfl rfl
  · refine gEx.iload rfl rfl rfl ?_
    refine gEx.iconst rfl rfl ?_
    refine gEx.callSi rfl rfl rfl rfl rfl (fun _ h => (t_OT_within (by omega) ) _ h) (fun r2 => ?_)
    refine gEx.if_ne (tn := 19) rfl rfl rfl ?_ ?_
    · refine gEx.lab (ls' := [some (.ref 0), none, none, none]) rfl rfl ?_
      refine gEx.iconst rfl rfl ?_
      exact gEx.reti rfl rfl
    · refine gEx.aload rfl rfl rfl ?_
      refine gEx.getR rfl rfl (h0 0 _ rfl) rfl ?_
      refine gEx.getR rfl rfl (h0 1 _ rfl) rfl ?_
      refine gEx.getR rfl rfl (h0 18 _ rfl) rfl ?_
      refine gEx.iload rfl rfl rfl ?_
      refine gEx.iald rfl rfl (h0 21 _ rfl) ?_
      refine gEx.istoreL (ls' := fun v1 => [some (.ref 0), some (.int x1), some (.int x2), some (.int v1)]) rfl rfl (fun _ => rfl) (fun v1 => ?_)
      refine gEx.aload rfl rfl rfl ?_
      refine gEx.getR rfl rfl (h0 0 _ rfl) rfl ?_
      refine gEx.getR rfl rfl (h0 1 _ rfl) rfl ?_
      refine gEx.getR rfl rfl (h0 18 _ rfl) rfl ?_
      refine gEx.iload rfl rfl rfl ?_
      refine gEx.iload rfl rfl rfl ?_
      refine gEx.iast rfl rfl (h0 21 _ rfl) (fun m1 => ?_)
      refine gEx.iload rfl rfl rfl ?_
      exact gEx.reti rfl rfl
abbrev gcx_123 : gC := glook (gco_123_0)
set_option maxRecDepth 100000 in
set_option maxHeartbeats 4000000 in
theorem t_OT_open {d : Nat} (hd : 2 ≤ d) {sh : gH} {kl : List (Option Nat)} {x1 : Int32} {x2 : Int32} (h0 : gHas sh.1 0 (gsh_OT kl)) {m : gM} : ∀ x, f_OT_open x1 x2 m = some x → gR gmi gdf gcd d 123 [.ref 0, .int x1, .int x2] (sh, m) ((gri x).1, (sh, (gri x).2)) := by
  obtain ⟨d, rfl⟩ : ∃ e, d = e + 1 := ⟨d - 1, by omega⟩
  refine gR_of (mx := 4) (code := gcx_123) rfl rfl (Nat.le_of_ble_eq_true rfl) ?_
  show gEx d gcx_123 sh gri 0 [some (.ref 0), some (.int x1), some (.int x2), none] [] m (f_OT_open x1 x2 m)
  unfold f_OT_open
  refine gEx.aload rfl rfl rfl ?_
  refine gEx.iload rfl rfl rfl ?_
  refine gEx.callVi rfl rfl rfl rfl (h0 0 _ rfl) rfl (fun _ h => (t_OT_isWell (by omega) h0) _ h) (fun r1 => ?_)
  refine gEx.if_ne (tn := 10) rfl rfl rfl ?_ ?_
  · refine gEx.iconst rfl rfl ?_
    exact gEx.reti rfl rfl
  · refine gEx.aload rfl rfl rfl ?_
    refine gEx.getR rfl rfl (h0 0 _ rfl) rfl ?_
    refine gEx.getR rfl rfl (h0 1 _ rfl) rfl ?_
    refine gEx.getR rfl rfl (h0 18 _ rfl) rfl ?_
    refine gEx.iload rfl rfl rfl ?_
    refine gEx.bald rfl rfl (h0 22 _ rfl) ?_
    refine gEx.istoreL (ls' := fun v1 => [some (.ref 0), some (.int x1), some (.int x2), some (.int v1)]) rfl rfl (fun _ => rfl) (fun v1 => ?_)
    refine gEx.aload rfl rfl rfl ?_
    refine gEx.getR rfl rfl (h0 0 _ rfl) rfl ?_
    refine gEx.getR rfl rfl (h0 1 _ rfl) rfl ?_
    refine gEx.getR rfl rfl (h0 18 _ rfl) rfl ?_
    refine gEx.iload rfl rfl rfl ?_
    refine gEx.iload rfl rfl rfl ?_
    refine gEx.bast rfl rfl (h0 22 _ rfl) (fun m1 => ?_)
    refine gEx.iload rfl rfl rfl ?_
    refine gEx.if_eq (tn := 44) rfl rfl rfl ?_ ?_
    · refine gEx.iconst rfl rfl ?_
      refine gEx.lab (ls' := [some (.ref 0), none, none, none]) rfl rfl ?_
      exact gEx.reti rfl rfl
    · refine gEx.iconst rfl rfl ?_
      refine gEx.goto (tn := 45) rfl rfl rfl ?_
      refine gEx.lab (ls' := [some (.ref 0), none, none, none]) rfl rfl ?_
      exact gEx.reti rfl rfl
abbrev gcx_124 : gC := glook (gco_124_0 ++ (gco_124_1))
set_option maxRecDepth 100000 in
set_option maxHeartbeats 4000000 in
theorem t_OT_wellOf {d : Nat} (hd : 6 ≤ d) {sh : gH} {kl : List (Option Nat)} {x1 : Int32} {x2 : Int32} (h0 : gHas sh.1 0 (gsh_OT kl)) {m : gM} : ∀ x, f_OT_wellOf x1 x2 m = some x → gR gmi gdf gcd d 124 [.ref 0, .int x1, .int x2] (sh, m) ((gri x).1, (sh, (gri x).2)) := by
  obtain ⟨d, rfl⟩ : ∃ e, d = e + 1 := ⟨d - 1, by omega⟩
  refine gR_of (mx := 4) (code := gcx_124) rfl rfl (Nat.le_of_ble_eq_true rfl) ?_
  show gEx d gcx_124 sh gri 0 [some (.ref 0), some (.int x1), some (.int x2), none] [] m (f_OT_wellOf x1 x2 m)
  unfold f_OT_wellOf
  refine gEx.aload rfl rfl rfl ?_
  refine gEx.iload rfl rfl rfl ?_
  refine gEx.callVi rfl rfl rfl rfl (h0 0 _ rfl) rfl (fun _ h => (t_OT_isWell (by omega) h0) _ h) (fun r1 => ?_)
  refine gEx.if_ne (tn := 10) rfl rfl rfl ?_ ?_
  · refine gEx.iconst rfl rfl ?_
    exact gEx.reti rfl rfl
  · refine gEx.aload rfl rfl rfl ?_
    refine gEx.getR rfl rfl (h0 0 _ rfl) rfl ?_
    refine gEx.getR rfl rfl (h0 1 _ rfl) rfl ?_
    refine gEx.astore (ls' := [some (.ref 0), some (.int x1), some (.int x2), some (.ref 18)]) rfl rfl rfl ?_
    refine gEx.iload rfl rfl rfl ?_
    refine gEx.sw (dft := 123) (ps := #[(0, 60), (1, 67), (2, 74), (3, 81), (4, 96), (5, 103), (6, 110)]) rfl rfl [(0, gok (gib x1 10) (some (grd r1.2 19 x1, r1.2))), (1, gok (gib x1 10) (some (grd r1.2 20 x1, r1.2))), (2, gok (gib x1 10) (some (grd r1.2 21 x1, r1.2))), (3, gok (gib x1 10) (if (grd r1.2 22 x1) = 0 then (some (0, r1.2)) else (some (1, r1.2)))), (4, gok (gib x1 10) (some (grd r1.2 23 x1, r1.2))), (5, gok (gib x1 10) (some (grd r1.2 24 x1, r1.2))), (6, (f_Orders_hotOfWell 41 1 x1 r1.2).bind fun (r2 : Int32 × gM) => some (r2.1, r2.2))] ((f_OT_isByLot x2 r1.2).bind fun (r3 : Int32 × gM) => if r3.1 = 0 then (some ((-1), r3.2)) else (gok (gib (((x1 * 9) + x2) - 10) 90) (some (grd r3.2 25 (((x1 * 9) + x2) - 10), r3.2)))) ⟨rfl, ?_, ⟨rfl, ?_, ⟨rfl, ?_, ⟨rfl, ?_, ⟨rfl, ?_, ⟨rfl, ?_, ⟨rfl, ?_, trivial⟩⟩⟩⟩⟩⟩⟩ ?_
    · show gEx d gcx_124 sh gri 60 _ _ _ _
      refine gEx.aload rfl rfl rfl ?_
      refine gEx.getR rfl rfl (h0 18 _ rfl) rfl ?_
      refine gEx.iload rfl rfl rfl ?_
      refine gEx.iald rfl rfl (h0 19 _ rfl) ?_
      exact gEx.reti rfl rfl
    · show gEx d gcx_124 sh gri 67 _ _ _ _
      refine gEx.aload rfl rfl rfl ?_
      refine gEx.getR rfl rfl (h0 18 _ rfl) rfl ?_
      refine gEx.iload rfl rfl rfl ?_
      refine gEx.iald rfl rfl (h0 20 _ rfl) ?_
      exact gEx.reti rfl rfl
    · show gEx d gcx_124 sh gri 74 _ _ _ _
      refine gEx.aload rfl rfl rfl ?_
      refine gEx.getR rfl rfl (h0 18 _ rfl) rfl ?_
      refine gEx.iload rfl rfl rfl ?_
      refine gEx.iald rfl rfl (h0 21 _ rfl) ?_
      exact gEx.reti rfl rfl
    · show gEx d gcx_124 sh gri 81 _ _ _ _
      refine gEx.aload rfl rfl rfl ?_
      refine gEx.getR rfl rfl (h0 18 _ rfl) rfl ?_
      refine gEx.iload rfl rfl rfl ?_
      refine gEx.bald rfl rfl (h0 22 _ rfl) ?_
      refine gEx.if_eq (tn := 94) rfl rfl rfl ?_ ?_
      · refine gEx.iconst rfl rfl ?_
        refine gEx.lab (ls' := [some (.ref 0), none, none, none]) rfl rfl ?_
        exact gEx.reti rfl rfl
      · refine gEx.iconst rfl rfl ?_
        refine gEx.goto (tn := 95) rfl rfl rfl ?_
        refine gEx.lab (ls' := [some (.ref 0), none, none, none]) rfl rfl ?_
        exact gEx.reti rfl rfl
    · show gEx d gcx_124 sh gri 96 _ _ _ _
      refine gEx.aload rfl rfl rfl ?_
      refine gEx.getR rfl rfl (h0 18 _ rfl) rfl ?_
      refine gEx.iload rfl rfl rfl ?_
      refine gEx.iald rfl rfl (h0 23 _ rfl) ?_
      exact gEx.reti rfl rfl
    · show gEx d gcx_124 sh gri 103 _ _ _ _
      refine gEx.aload rfl rfl rfl ?_
      refine gEx.getR rfl rfl (h0 18 _ rfl) rfl ?_
      refine gEx.iload rfl rfl rfl ?_
      refine gEx.iald rfl rfl (h0 24 _ rfl) ?_
      exact gEx.reti rfl rfl
    · show gEx d gcx_124 sh gri 110 _ _ _ _
      refine gEx.aload rfl rfl rfl ?_
      refine gEx.getR rfl rfl (h0 0 _ rfl) rfl ?_
      refine gEx.aload rfl rfl rfl ?_
      refine gEx.getR rfl rfl (h0 0 _ rfl) rfl ?_
      refine gEx.iload rfl rfl rfl ?_
      refine gEx.callVi rfl rfl rfl rfl (h0 41 _ rfl) rfl (fun _ h => (t_Orders_hotOfWell (by omega) (gsub_OT_41 h0) (gsub_OT_1 h0)) _ h) (fun r2 => ?_)
      exact gEx.reti rfl rfl
    · show gEx d gcx_124 sh gri 123 _ _ _ _
      refine gEx.iload rfl rfl rfl ?_
      refine gEx.callSi rfl rfl rfl rfl rfl (fun _ h => (t_OT_isByLot (by omega) ) _ h) (fun r3 => ?_)
      refine gEx.if_eq (tn := 147) rfl rfl rfl ?_ ?_
      · refine gEx.iconst rfl rfl ?_
        refine gEx.lab (ls' := [some (.ref 0), none, none, none]) rfl rfl ?_
        exact gEx.reti rfl rfl
      · refine gEx.aload rfl rfl rfl ?_
        refine gEx.getR rfl rfl (h0 18 _ rfl) rfl ?_
        refine gEx.iload rfl rfl rfl ?_
        refine gEx.iconst rfl rfl ?_
        refine gEx.imul rfl rfl ?_
        refine gEx.iload rfl rfl rfl ?_
        refine gEx.iadd rfl rfl ?_
        refine gEx.iconst rfl rfl ?_
        refine gEx.isub rfl rfl ?_
        refine gEx.iald rfl rfl (h0 25 _ rfl) ?_
        refine gEx.goto (tn := 148) rfl rfl rfl ?_
        refine gEx.lab (ls' := [some (.ref 0), none, none, none]) rfl rfl ?_
        exact gEx.reti rfl rfl
abbrev gcx_125 : gC := glook (gco_125_0)
set_option maxRecDepth 100000 in
set_option maxHeartbeats 4000000 in
theorem t_OT_drew {d : Nat} (hd : 5 ≤ d) {sh : gH} {kl : List (Option Nat)} {x1 : Int32} {x2 : Int32} {x3 : Int32} (h0 : gHas sh.1 0 (gsh_OT kl)) {m : gM} : ∀ x, f_OT_drew x1 x2 x3 m = some x → gR gmi gdf gcd d 125 [.ref 0, .int x1, .int x2, .int x3] (sh, m) ((gri x).1, (sh, (gri x).2)) := by
  obtain ⟨d, rfl⟩ : ∃ e, d = e + 1 := ⟨d - 1, by omega⟩
  refine gR_of (mx := 4) (code := gcx_125) rfl rfl (Nat.le_of_ble_eq_true rfl) ?_
  show gEx d gcx_125 sh gri 0 [some (.ref 0), some (.int x1), some (.int x2), some (.int x3)] [] m (f_OT_drew x1 x2 x3 m)
  unfold f_OT_drew
  refine gEx.aload rfl rfl rfl ?_
  refine gEx.iload rfl rfl rfl ?_
  refine gEx.callVi rfl rfl rfl rfl (h0 0 _ rfl) rfl (fun _ h => (t_OT_isWell (by omega) h0) _ h) (fun r1 => ?_)
  refine gEx.if_eq (tn := 17) rfl rfl rfl ?_ ?_
  · refine gEx.lab (ls' := [some (.ref 0), none, none, none]) rfl rfl ?_
    refine gEx.iconst rfl rfl ?_
    exact gEx.reti rfl rfl
  · refine gEx.iload rfl rfl rfl ?_
    refine gEx.iconst rfl rfl ?_
    refine gEx.callSi rfl rfl rfl rfl rfl (fun _ h => (t_OT_within (by omega) ) _ h) (fun r2 => ?_)
    refine gEx.if_ne (tn := 19) rfl rfl rfl ?_ ?_
    · refine gEx.lab (ls' := [some (.ref 0), none, none, none]) rfl rfl ?_
      refine gEx.iconst rfl rfl ?_
      exact gEx.reti rfl rfl
    · refine gEx.iload rfl rfl rfl ?_
      refine gEx.sw (dft := 94) (ps := #[(0, 48), (1, 66), (2, 80)]) rfl rfl [(0, gok (gib ((x1 * 50) + x2) 500) (some (grd r2.2 26 ((x1 * 50) + x2), r2.2))), (1, (f_Orders_letOf 41 1 x1 x2 r2.2).bind fun (r3 : Int32 × gM) => some (r3.1, r3.2)), (2, (f_Orders_hotIn 41 1 x1 x2 r2.2).bind fun (r4 : Int32 × gM) => some (r4.1, r4.2))] (some ((-1), r2.2)) ⟨rfl, ?_, ⟨rfl, ?_, ⟨rfl, ?_, trivial⟩⟩⟩ ?_
      · show gEx d gcx_125 sh gri 48 _ _ _ _
        refine gEx.aload rfl rfl rfl ?_
        refine gEx.getR rfl rfl (h0 0 _ rfl) rfl ?_
        refine gEx.getR rfl rfl (h0 1 _ rfl) rfl ?_
        refine gEx.getR rfl rfl (h0 18 _ rfl) rfl ?_
        refine gEx.iload rfl rfl rfl ?_
        refine gEx.iconst rfl rfl ?_
        refine gEx.imul rfl rfl ?_
        refine gEx.iload rfl rfl rfl ?_
        refine gEx.iadd rfl rfl ?_
        refine gEx.iald rfl rfl (h0 26 _ rfl) ?_
        exact gEx.reti rfl rfl
      · show gEx d gcx_125 sh gri 66 _ _ _ _
        refine gEx.aload rfl rfl rfl ?_
        refine gEx.getR rfl rfl (h0 0 _ rfl) rfl ?_
        refine gEx.aload rfl rfl rfl ?_
        refine gEx.getR rfl rfl (h0 0 _ rfl) rfl ?_
        refine gEx.iload rfl rfl rfl ?_
        refine gEx.iload rfl rfl rfl ?_
        refine gEx.callVi rfl rfl rfl rfl (h0 41 _ rfl) rfl (fun _ h => (t_Orders_letOf (by omega) (gsub_OT_41 h0) (gsub_OT_1 h0)) _ h) (fun r3 => ?_)
        exact gEx.reti rfl rfl
      · show gEx d gcx_125 sh gri 80 _ _ _ _
        refine gEx.aload rfl rfl rfl ?_
        refine gEx.getR rfl rfl (h0 0 _ rfl) rfl ?_
        refine gEx.aload rfl rfl rfl ?_
        refine gEx.getR rfl rfl (h0 0 _ rfl) rfl ?_
        refine gEx.iload rfl rfl rfl ?_
        refine gEx.iload rfl rfl rfl ?_
        refine gEx.callVi rfl rfl rfl rfl (h0 41 _ rfl) rfl (fun _ h => (t_Orders_hotIn (by omega) (gsub_OT_41 h0) (gsub_OT_1 h0)) _ h) (fun r4 => ?_)
        exact gEx.reti rfl rfl
      · show gEx d gcx_125 sh gri 94 _ _ _ _
        refine gEx.iconst rfl rfl ?_
        exact gEx.reti rfl rfl
abbrev gcx_126 : gC := glook (gco_126_0)
set_option maxRecDepth 100000 in
set_option maxHeartbeats 4000000 in
theorem t_OT_sell {d : Nat} (hd : 3 ≤ d) {sh : gH} {kl : List (Option Nat)} {x1 : Int32} {x2 : Int32} (h0 : gHas sh.1 0 (gsh_OT kl)) {m : gM} : ∀ x, f_OT_sell x1 x2 m = some x → gR gmi gdf gcd d 126 [.ref 0, .int x1, .int x2] (sh, m) ((gri x).1, (sh, (gri x).2)) := by
  obtain ⟨d, rfl⟩ : ∃ e, d = e + 1 := ⟨d - 1, by omega⟩
  refine gR_of (mx := 3) (code := gcx_126) rfl rfl (Nat.le_of_ble_eq_true rfl) ?_
  show gEx d gcx_126 sh gri 0 [some (.ref 0), some (.int x1), some (.int x2)] [] m (f_OT_sell x1 x2 m)
  unfold f_OT_sell
  refine gEx.aload rfl rfl rfl ?_
  refine gEx.iload rfl rfl rfl ?_
  refine gEx.callVi rfl rfl rfl rfl (h0 0 _ rfl) rfl (fun _ h => (t_OT_isPerson (by omega) h0) _ h) (fun r1 => ?_)
  refine gEx.if_eq (tn := 20) rfl rfl rfl ?_ ?_
  · refine gEx.lab (ls' := [some (.ref 0), none, none]) rfl rfl ?_
    refine gEx.iconst rfl rfl ?_
    exact gEx.reti rfl rfl
  · refine gEx.iload rfl rfl rfl ?_
    refine gEx.iconst rfl rfl ?_
    refine gEx.icmp_lt (tn := 20) rfl rfl rfl ?_ ?_
    · refine gEx.lab (ls' := [some (.ref 0), none, none]) rfl rfl ?_
      refine gEx.iconst rfl rfl ?_
      exact gEx.reti rfl rfl
    · refine gEx.iload rfl rfl rfl ?_
      refine gEx.iconst rfl rfl ?_
      refine gEx.icmp_le (tn := 22) rfl rfl rfl ?_ ?_
      · refine gEx.lab (ls' := [some (.ref 0), none, none]) rfl rfl ?_
        refine gEx.iconst rfl rfl ?_
        exact gEx.reti rfl rfl
      · refine gEx.aload rfl rfl rfl ?_
        refine gEx.getR rfl rfl (h0 0 _ rfl) rfl ?_
        refine gEx.getR rfl rfl (h0 1 _ rfl) rfl ?_
        refine gEx.getR rfl rfl (h0 27 _ rfl) rfl ?_
        refine gEx.iload rfl rfl rfl ?_
        refine gEx.iald rfl rfl (h0 28 _ rfl) ?_
        refine gEx.iload rfl rfl rfl ?_
        refine gEx.icmp_ge (tn := 41) rfl rfl rfl ?_ ?_
        · refine gEx.iconst rfl rfl ?_
          exact gEx.reti rfl rfl
        · refine gEx.aload rfl rfl rfl ?_
          refine gEx.getR rfl rfl (h0 0 _ rfl) rfl ?_
          refine gEx.getR rfl rfl (h0 1 _ rfl) rfl ?_
          refine gEx.aload rfl rfl rfl ?_
          refine gEx.getR rfl rfl (h0 0 _ rfl) rfl ?_
          refine gEx.callVi rfl rfl rfl rfl (h0 1 _ rfl) rfl (fun _ h => (t_Town_shift (by omega) (gsub_OT_1 h0)) _ h) (fun r2 => ?_)
          refine gEx.iload rfl rfl rfl ?_
          refine gEx.iload rfl rfl rfl ?_
          refine gEx.callVi rfl rfl rfl rfl (h0 27 _ rfl) rfl (fun _ h => (t_Books_sellAt (by omega) (gsub_OT_27 h0)) _ h) (fun r3 => ?_)
          exact gEx.reti rfl rfl
abbrev gcx_127 : gC := glook (gco_127_0)
set_option maxRecDepth 100000 in
set_option maxHeartbeats 4000000 in
theorem t_OT_price {d : Nat} (hd : 2 ≤ d) {sh : gH} {kl : List (Option Nat)} {x1 : Int32} (h0 : gHas sh.1 0 (gsh_OT kl)) {m : gM} : ∀ x, f_OT_price x1 m = some x → gR gmi gdf gcd d 127 [.ref 0, .int x1] (sh, m) ((gri x).1, (sh, (gri x).2)) := by
  obtain ⟨d, rfl⟩ : ∃ e, d = e + 1 := ⟨d - 1, by omega⟩
  refine gR_of (mx := 2) (code := gcx_127) rfl rfl (Nat.le_of_ble_eq_true rfl) ?_
  show gEx d gcx_127 sh gri 0 [some (.ref 0), some (.int x1)] [] m (f_OT_price x1 m)
  unfold f_OT_price
  refine gEx.iload rfl rfl rfl ?_
  refine gEx.aload rfl rfl rfl ?_
  refine gEx.getR rfl rfl (h0 0 _ rfl) rfl ?_
  refine gEx.callVi rfl rfl rfl rfl (h0 1 _ rfl) rfl (fun _ h => (t_Town_shift (by omega) (gsub_OT_1 h0)) _ h) (fun r1 => ?_)
  refine gEx.callSi rfl rfl rfl rfl rfl (fun _ h => (t_OT_within (by omega) ) _ h) (fun r2 => ?_)
  refine gEx.if_eq (tn := 28) rfl rfl rfl ?_ ?_
  · refine gEx.iconst rfl rfl ?_
    refine gEx.lab (ls' := [some (.ref 0), none]) rfl rfl ?_
    exact gEx.reti rfl rfl
  · refine gEx.aload rfl rfl rfl ?_
    refine gEx.getR rfl rfl (h0 0 _ rfl) rfl ?_
    refine gEx.getR rfl rfl (h0 1 _ rfl) rfl ?_
    refine gEx.iload rfl rfl rfl ?_
    refine gEx.callVi rfl rfl rfl rfl (h0 27 _ rfl) rfl (fun _ h => (t_Books_priceIn (by omega) (gsub_OT_27 h0)) _ h) (fun r3 => ?_)
    refine gEx.goto (tn := 29) rfl rfl rfl ?_
    refine gEx.lab (ls' := [some (.ref 0), none]) rfl rfl ?_
    exact gEx.reti rfl rfl
abbrev gcx_128 : gC := glook (gco_128_0)
set_option maxRecDepth 100000 in
set_option maxHeartbeats 4000000 in
theorem t_OT_feed {d : Nat} (hd : 2 ≤ d) {sh : gH} {kl : List (Option Nat)} {y1 : Int64} (h0 : gHas sh.1 0 (gsh_OT kl)) {m : gM} : ∀ x, f_OT_feed y1 m = some x → gR gmi gdf gcd d 128 [.ref 0, .long y1] (sh, m) ((gri x).1, (sh, (gri x).2)) := by
  obtain ⟨d, rfl⟩ : ∃ e, d = e + 1 := ⟨d - 1, by omega⟩
  refine gR_of (mx := 3) (code := gcx_128) rfl rfl (Nat.le_of_ble_eq_true rfl) ?_
  show gEx d gcx_128 sh gri 0 [some (.ref 0), some (.long y1), none] [] m (f_OT_feed y1 m)
  unfold f_OT_feed
  refine gEx.aload rfl rfl rfl ?_
  refine gEx.getR rfl rfl (h0 0 _ rfl) rfl ?_
  refine gEx.lload rfl rfl rfl ?_
  refine gEx.callVi rfl rfl rfl rfl (h0 34 _ rfl) rfl (fun _ h => (t_Tape_add (by omega) (gsub_OT_34 h0)) _ h) (fun r1 => ?_)
  exact gEx.reti rfl rfl
abbrev gcx_129 : gC := glook (gco_129_0)
set_option maxRecDepth 100000 in
set_option maxHeartbeats 4000000 in
theorem t_OT_end {d : Nat} (hd : 1 ≤ d) {sh : gH} {kl : List (Option Nat)} {x1 : Int32} (h0 : gHas sh.1 0 (gsh_OT kl)) {m : gM} : ∀ x, f_OT_end x1 m = some x → gR gmi gdf gcd d 129 [.ref 0, .int x1] (sh, m) ((gri x).1, (sh, (gri x).2)) := by
  obtain ⟨d, rfl⟩ : ∃ e, d = e + 1 := ⟨d - 1, by omega⟩
  refine gR_of (mx := 3) (code := gcx_129) rfl rfl (Nat.le_of_ble_eq_true rfl) ?_
  show gEx d gcx_129 sh gri 0 [some (.ref 0), some (.int x1), none] [] m (f_OT_end x1 m)
  unfold f_OT_end
  refine gEx.iload rfl rfl rfl ?_
  refine gEx.if_lt (tn := 15) rfl rfl rfl ?_ ?_
  · refine gEx.lab (ls' := [some (.ref 0), none, none]) rfl rfl ?_
    refine gEx.iconst rfl rfl ?_
    exact gEx.reti rfl rfl
  · refine gEx.iload rfl rfl rfl ?_
    refine gEx.aload rfl rfl rfl ?_
    refine gEx.getR rfl rfl (h0 0 _ rfl) rfl ?_
    refine gEx.getI rfl rfl (h0 34 _ rfl) rfl ?_
    refine gEx.icmp_le (tn := 17) rfl rfl rfl ?_ ?_
    · refine gEx.lab (ls' := [some (.ref 0), none, none]) rfl rfl ?_
      refine gEx.iconst rfl rfl ?_
      exact gEx.reti rfl rfl
    · refine gEx.aload rfl rfl rfl ?_
      refine gEx.getR rfl rfl (h0 0 _ rfl) rfl ?_
      refine gEx.getI rfl rfl (h0 34 _ rfl) rfl ?_
      refine gEx.istoreL (ls' := fun v1 => [some (.ref 0), some (.int x1), some (.int v1)]) rfl rfl (fun _ => rfl) (fun v1 => ?_)
      refine gEx.aload rfl rfl rfl ?_
      refine gEx.getR rfl rfl (h0 0 _ rfl) rfl ?_
      refine gEx.iload rfl rfl rfl ?_
      refine gEx.putI rfl rfl (h0 34 _ rfl) rfl rfl rfl (fun m1 => ?_)
      refine gEx.iload rfl rfl rfl ?_
      exact gEx.reti rfl rfl
abbrev gcx_130 : gC := glook (gco_130_0)
set_option maxRecDepth 100000 in
set_option maxHeartbeats 4000000 in
theorem t_OT_orders {d : Nat} (hd : 10 ≤ d) {sh : gH} {kl : List (Option Nat)}  (h0 : gHas sh.1 0 (gsh_OT kl)) {m : gM} : ∀ x, f_OT_orders  m = some x → gR gmi gdf gcd d 130 [.ref 0] (sh, m) ((gri x).1, (sh, (gri x).2)) := by
  obtain ⟨d, rfl⟩ : ∃ e, d = e + 1 := ⟨d - 1, by omega⟩
  refine gR_of (mx := 1) (code := gcx_130) rfl rfl (Nat.le_of_ble_eq_true rfl) ?_
  show gEx d gcx_130 sh gri 0 [some (.ref 0)] [] m (f_OT_orders  m)
  unfold f_OT_orders
  refine gEx.aload rfl rfl rfl ?_
  refine gEx.getR rfl rfl (h0 0 _ rfl) rfl ?_
  refine gEx.callVv rfl rfl rfl rfl (h0 34 _ rfl) rfl (fun _ h => (t_Tape_read (by omega) (gsub_OT_34 h0)) _ h) (fun r1 => ?_)
  refine gEx.aload rfl rfl rfl ?_
  refine gEx.getR rfl rfl (h0 0 _ rfl) rfl ?_
  refine gEx.iconst rfl rfl ?_
  refine gEx.putI rfl rfl (h0 34 _ rfl) rfl rfl rfl (fun m1 => ?_)
  refine gEx.aload rfl rfl rfl ?_
  refine gEx.getR rfl rfl (h0 0 _ rfl) rfl ?_
  refine gEx.getI rfl rfl (h0 34 _ rfl) rfl ?_
  refine gEx.if_eq (tn := 36) rfl rfl rfl ?_ ?_
  · refine gEx.aload rfl rfl rfl ?_
    refine gEx.getR rfl rfl (h0 0 _ rfl) rfl ?_
    refine gEx.aload rfl rfl rfl ?_
    refine gEx.getR rfl rfl (h0 0 _ rfl) rfl ?_
    refine gEx.getR rfl rfl (h0 34 _ rfl) rfl ?_
    refine gEx.callVv rfl rfl rfl rfl (h0 41 _ rfl) rfl (fun _ h => (t_Orders_copyFrom (by omega) (gsub_OT_41 h0) (gsub_OT_36 h0)) _ h) (fun r2 => ?_)
    refine gEx.aload rfl rfl rfl ?_
    refine gEx.getR rfl rfl (h0 0 _ rfl) rfl ?_
    refine gEx.getI rfl rfl (h0 41 _ rfl) rfl ?_
    exact gEx.reti rfl rfl
  · refine gEx.iconst rfl rfl ?_
    refine gEx.aload rfl rfl rfl ?_
    refine gEx.getR rfl rfl (h0 0 _ rfl) rfl ?_
    refine gEx.getI rfl rfl (h0 34 _ rfl) rfl ?_
    refine gEx.isub rfl rfl ?_
    exact gEx.reti rfl rfl
abbrev gcx_131 : gC := glook (gco_131_0)
set_option maxRecDepth 100000 in
set_option maxHeartbeats 4000000 in
theorem t_OT_fault {d : Nat} (hd : 1 ≤ d) {sh : gH} {kl : List (Option Nat)}  (h0 : gHas sh.1 0 (gsh_OT kl)) {m : gM} : ∀ x, f_OT_fault  m = some x → gR gmi gdf gcd d 131 [.ref 0] (sh, m) ((gri x).1, (sh, (gri x).2)) := by
  obtain ⟨d, rfl⟩ : ∃ e, d = e + 1 := ⟨d - 1, by omega⟩
  refine gR_of (mx := 1) (code := gcx_131) rfl rfl (Nat.le_of_ble_eq_true rfl) ?_
  show gEx d gcx_131 sh gri 0 [some (.ref 0)] [] m (f_OT_fault  m)
  unfold f_OT_fault
  refine gEx.aload rfl rfl rfl ?_
  refine gEx.getR rfl rfl (h0 0 _ rfl) rfl ?_
  refine gEx.getI rfl rfl (h0 34 _ rfl) rfl ?_
  exact gEx.reti rfl rfl
abbrev gcx_132 : gC := glook (gco_132_0)
set_option maxRecDepth 100000 in
set_option maxHeartbeats 4000000 in
theorem t_OT_line {d : Nat} (hd : 1 ≤ d) {sh : gH} {kl : List (Option Nat)} {x1 : Int32} {x2 : Int32} (h0 : gHas sh.1 0 (gsh_OT kl)) {m : gM} : ∀ x, f_OT_line x1 x2 m = some x → gR gmi gdf gcd d 132 [.ref 0, .int x1, .int x2] (sh, m) ((gri x).1, (sh, (gri x).2)) := by
  obtain ⟨d, rfl⟩ : ∃ e, d = e + 1 := ⟨d - 1, by omega⟩
  refine gR_of (mx := 3) (code := gcx_132) rfl rfl (Nat.le_of_ble_eq_true rfl) ?_
  show gEx d gcx_132 sh gri 0 [some (.ref 0), some (.int x1), some (.int x2)] [] m (f_OT_line x1 x2 m)
  unfold f_OT_line
  refine gEx.iload rfl rfl rfl ?_
  refine gEx.if_lt (tn := 15) rfl rfl rfl ?_ ?_
  · refine gEx.lab (ls' := [some (.ref 0), none, none]) rfl rfl ?_
    refine gEx.iconst rfl rfl ?_
    exact gEx.reti rfl rfl
  · refine gEx.iload rfl rfl rfl ?_
    refine gEx.aload rfl rfl rfl ?_
    refine gEx.getR rfl rfl (h0 0 _ rfl) rfl ?_
    refine gEx.getI rfl rfl (h0 41 _ rfl) rfl ?_
    refine gEx.icmp_lt (tn := 17) rfl rfl rfl ?_ ?_
    · refine gEx.iload rfl rfl rfl ?_
      refine gEx.sw (dft := 96) (ps := #[(0, 48), (1, 58), (2, 68), (3, 78)]) rfl rfl [(0, gok (gib x1 12) (some (grd m 42 x1, m))), (1, gok (gib x1 12) (some (grd m 43 x1, m))), (2, gok (gib x1 12) (some (grd m 44 x1, m))), (3, gok (gib x1 12) (if (grd m 45 x1) = 0 then (some (0, m)) else (some (1, m))))] (some ((-1), m)) ⟨rfl, ?_, ⟨rfl, ?_, ⟨rfl, ?_, ⟨rfl, ?_, trivial⟩⟩⟩⟩ ?_
      · show gEx d gcx_132 sh gri 48 _ _ _ _
        refine gEx.aload rfl rfl rfl ?_
        refine gEx.getR rfl rfl (h0 0 _ rfl) rfl ?_
        refine gEx.getR rfl rfl (h0 41 _ rfl) rfl ?_
        refine gEx.iload rfl rfl rfl ?_
        refine gEx.iald rfl rfl (h0 42 _ rfl) ?_
        exact gEx.reti rfl rfl
      · show gEx d gcx_132 sh gri 58 _ _ _ _
        refine gEx.aload rfl rfl rfl ?_
        refine gEx.getR rfl rfl (h0 0 _ rfl) rfl ?_
        refine gEx.getR rfl rfl (h0 41 _ rfl) rfl ?_
        refine gEx.iload rfl rfl rfl ?_
        refine gEx.iald rfl rfl (h0 43 _ rfl) ?_
        exact gEx.reti rfl rfl
      · show gEx d gcx_132 sh gri 68 _ _ _ _
        refine gEx.aload rfl rfl rfl ?_
        refine gEx.getR rfl rfl (h0 0 _ rfl) rfl ?_
        refine gEx.getR rfl rfl (h0 41 _ rfl) rfl ?_
        refine gEx.iload rfl rfl rfl ?_
        refine gEx.iald rfl rfl (h0 44 _ rfl) ?_
        exact gEx.reti rfl rfl
      · show gEx d gcx_132 sh gri 78 _ _ _ _
        refine gEx.aload rfl rfl rfl ?_
        refine gEx.getR rfl rfl (h0 0 _ rfl) rfl ?_
        refine gEx.getR rfl rfl (h0 41 _ rfl) rfl ?_
        refine gEx.iload rfl rfl rfl ?_
        refine gEx.bald rfl rfl (h0 45 _ rfl) ?_
        refine gEx.if_eq (tn := 94) rfl rfl rfl ?_ ?_
        · refine gEx.iconst rfl rfl ?_
          refine gEx.lab (ls' := [some (.ref 0), none, none]) rfl rfl ?_
          exact gEx.reti rfl rfl
        · refine gEx.iconst rfl rfl ?_
          refine gEx.goto (tn := 95) rfl rfl rfl ?_
          refine gEx.lab (ls' := [some (.ref 0), none, none]) rfl rfl ?_
          exact gEx.reti rfl rfl
      · show gEx d gcx_132 sh gri 96 _ _ _ _
        refine gEx.iconst rfl rfl ?_
        exact gEx.reti rfl rfl
    · refine gEx.lab (ls' := [some (.ref 0), none, none]) rfl rfl ?_
      refine gEx.iconst rfl rfl ?_
      exact gEx.reti rfl rfl
abbrev gcx_133 : gC := glook (gco_133_0)
set_option maxRecDepth 100000 in
set_option maxHeartbeats 4000000 in
theorem t_OT_voids {d : Nat} (hd : 7 ≤ d) {sh : gH} {kl : List (Option Nat)} {x1 : Int32} (h0 : gHas sh.1 0 (gsh_OT kl)) {m : gM} : ∀ x, f_OT_voids x1 m = some x → gR gmi gdf gcd d 133 [.ref 0, .int x1] (sh, m) ((gri x).1, (sh, (gri x).2)) := by
  obtain ⟨d, rfl⟩ : ∃ e, d = e + 1 := ⟨d - 1, by omega⟩
  refine gR_of (mx := 3) (code := gcx_133) rfl rfl (Nat.le_of_ble_eq_true rfl) ?_
  show gEx d gcx_133 sh gri 0 [some (.ref 0), some (.int x1), none] [] m (f_OT_voids x1 m)
  unfold f_OT_voids
  refine gEx.iload rfl rfl rfl ?_
  refine gEx.if_lt (tn := 15) rfl rfl rfl ?_ ?_
  · refine gEx.lab (ls' := [some (.ref 0), none, none]) rfl rfl ?_
    refine gEx.iconst rfl rfl ?_
    exact gEx.reti rfl rfl
  · refine gEx.iload rfl rfl rfl ?_
    refine gEx.aload rfl rfl rfl ?_
    refine gEx.getR rfl rfl (h0 0 _ rfl) rfl ?_
    refine gEx.getI rfl rfl (h0 41 _ rfl) rfl ?_
    refine gEx.icmp_lt (tn := 19) rfl rfl rfl ?_ ?_
    · refine gEx.aload rfl rfl rfl ?_
      refine gEx.getR rfl rfl (h0 0 _ rfl) rfl ?_
      refine gEx.getR rfl rfl (h0 41 _ rfl) rfl ?_
      refine gEx.iload rfl rfl rfl ?_
      refine gEx.bald rfl rfl (h0 45 _ rfl) ?_
      refine gEx.if_eq (tn := 35) rfl rfl rfl ?_ ?_
      · refine gEx.aload rfl rfl rfl ?_
        refine gEx.getR rfl rfl (h0 0 _ rfl) rfl ?_
        refine gEx.aload rfl rfl rfl ?_
        refine gEx.getR rfl rfl (h0 0 _ rfl) rfl ?_
        refine gEx.callVi rfl rfl rfl rfl (h0 41 _ rfl) rfl (fun _ h => (t_Orders_hotOfAll (by omega) (gsub_OT_41 h0) (gsub_OT_1 h0)) _ h) (fun r1 => ?_)
        refine gEx.istore (ls' := [some (.ref 0), some (.int x1), some (.int r1.1)]) rfl rfl rfl ?_
        refine gEx.aload rfl rfl rfl ?_
        refine gEx.getR rfl rfl (h0 0 _ rfl) rfl ?_
        refine gEx.getR rfl rfl (h0 41 _ rfl) rfl ?_
        refine gEx.iload rfl rfl rfl ?_
        refine gEx.iconst rfl rfl ?_
        refine gEx.bast rfl rfl (h0 45 _ rfl) (fun m1 => ?_)
        refine gEx.iload rfl rfl rfl ?_
        refine gEx.aload rfl rfl rfl ?_
        refine gEx.getR rfl rfl (h0 0 _ rfl) rfl ?_
        refine gEx.aload rfl rfl rfl ?_
        refine gEx.getR rfl rfl (h0 0 _ rfl) rfl ?_
        refine gEx.callVi rfl rfl rfl rfl (h0 41 _ rfl) rfl (fun _ h => (t_Orders_hotOfAll (by omega) (gsub_OT_41 h0) (gsub_OT_1 h0)) _ h) (fun r2 => ?_)
        refine gEx.isub rfl rfl ?_
        exact gEx.reti rfl rfl
      · refine gEx.iconst rfl rfl ?_
        exact gEx.reti rfl rfl
    · refine gEx.lab (ls' := [some (.ref 0), none, none]) rfl rfl ?_
      refine gEx.iconst rfl rfl ?_
      exact gEx.reti rfl rfl
abbrev gcx_134 : gC := glook (gco_134_0 ++ (gco_134_1))
set_option maxRecDepth 100000 in
set_option maxHeartbeats 4000000 in
theorem t_OT_lets {d : Nat} (hd : 5 ≤ d) {sh : gH} {kl : List (Option Nat)} {x1 : Int32} {x2 : Int32} {x3 : Int32} (h0 : gHas sh.1 0 (gsh_OT kl)) {m : gM} : ∀ x, f_OT_lets x1 x2 x3 m = some x → gR gmi gdf gcd d 134 [.ref 0, .int x1, .int x2, .int x3] (sh, m) ((gri x).1, (sh, (gri x).2)) := by
  obtain ⟨d, rfl⟩ : ∃ e, d = e + 1 := ⟨d - 1, by omega⟩
  refine gR_of (mx := 8) (code := gcx_134) rfl rfl (Nat.le_of_ble_eq_true rfl) ?_
  have hJ_27 : ∀ (m1 : gM), gEx d gcx_134 sh gri 27 [some (.ref 0), some (.int x1), some (.int x2), some (.int x3), none, none, none, none] [] m1 (J_OT_lets_27 x1 x2 x3 m1) := by
    intro m1
    unfold J_OT_lets_27
    refine gEx.aload rfl rfl rfl ?_
    refine gEx.getR rfl rfl (h0 0 _ rfl) rfl ?_
    refine gEx.iconst rfl rfl ?_
    refine gEx.aload rfl rfl rfl ?_
    refine gEx.getR rfl rfl (h0 0 _ rfl) rfl ?_
    refine gEx.callVi rfl rfl rfl rfl (h0 1 _ rfl) rfl (fun _ h => (t_Town_shift (by omega) (gsub_OT_1 h0)) _ h) (fun r1 => ?_)
    refine gEx.callVi rfl rfl rfl rfl (h0 41 _ rfl) rfl (fun _ h => (t_Orders_numberIn (by omega) (gsub_OT_41 h0)) _ h) (fun r2 => ?_)
    refine gEx.istore (ls' := [some (.ref 0), some (.int x1), some (.int x2), some (.int x3), some (.int r2.1), none, none, none]) rfl rfl rfl ?_
    refine gEx.aload rfl rfl rfl ?_
    refine gEx.getR rfl rfl (h0 0 _ rfl) rfl ?_
    refine gEx.iconst rfl rfl ?_
    refine gEx.aload rfl rfl rfl ?_
    refine gEx.getR rfl rfl (h0 0 _ rfl) rfl ?_
    refine gEx.callVi rfl rfl rfl rfl (h0 1 _ rfl) rfl (fun _ h => (t_Town_shift (by omega) (gsub_OT_1 h0)) _ h) (fun r3 => ?_)
    refine gEx.callVi rfl rfl rfl rfl (h0 41 _ rfl) rfl (fun _ h => (t_Orders_numberIn (by omega) (gsub_OT_41 h0)) _ h) (fun r4 => ?_)
    refine gEx.istore (ls' := [some (.ref 0), some (.int x1), some (.int x2), some (.int x3), some (.int r2.1), some (.int r4.1), none, none]) rfl rfl rfl ?_
    refine gEx.iconst rfl rfl ?_
    refine gEx.istore (ls' := [some (.ref 0), some (.int x1), some (.int x2), some (.int x3), some (.int r2.1), some (.int r4.1), some (.int 9), none]) rfl rfl rfl ?_
    have hL_65 : ∀ (n : Nat) (v1 : Int32) (m2 : gM), gEx d gcx_134 sh gri 65 [some (.ref 0), some (.int x1), some (.int x2), some (.int x3), some (.int r2.1), some (.int r4.1), some (.int v1), none] [] m2 (L_OT_lets_65 x1 x2 x3 r2 r4 n v1 m2) := by
      refine gfix_ind (P := fun (f : Int32 → gM → Option (Int32 × gM)) => ∀ (v1 : Int32) (m2 : gM), gEx d gcx_134 sh gri 65 [some (.ref 0), some (.int x1), some (.int x2), some (.int x3), some (.int r2.1), some (.int r4.1), some (.int v1), none] [] m2 (f v1 m2)) (fun _ _ => gEx.none) (fun rec_65 hrec_65 => ?_)
      have hJ_111 : ∀ (v2 : Int32) (v3 : Int32) (m3 : gM), gEx d gcx_134 sh gri 111 [some (.ref 0), some (.int x1), some (.int x2), some (.int x3), some (.int r2.1), some (.int r4.1), some (.int v2), none] [.int v3] m3 (J_OT_lets_111 rec_65 v2 v3 m3) := by
        intro v2 v3 m3
        unfold J_OT_lets_111
        refine gEx.istore (ls' := [some (.ref 0), some (.int x1), some (.int x2), some (.int x3), some (.int r2.1), some (.int r4.1), some (.int v2), some (.int v3)]) rfl rfl rfl ?_
        refine gEx.iload rfl rfl rfl ?_
        refine gEx.if_ne (tn := 121) rfl rfl rfl ?_ ?_
        · refine gEx.iload rfl rfl rfl ?_
          exact gEx.reti rfl rfl
        · refine gEx.iinc (ls' := [some (.ref 0), some (.int x1), some (.int x2), some (.int x3), some (.int r2.1), some (.int r4.1), some (.int (v2 + (-1))), some (.int v3)]) rfl rfl rfl rfl ?_
          refine gEx.goto (tn := 65) rfl rfl rfl ?_
          exact gEx.lab rfl rfl (hrec_65 (v2 + (-1)) m3)
      intro v1 m2
      refine gEx.iload rfl rfl rfl ?_
      refine gEx.if_lt (tn := 127) rfl rfl rfl ?_ ?_
      · refine gEx.iconst rfl rfl ?_
        exact gEx.reti rfl rfl
      · refine gEx.iload rfl rfl rfl ?_
        refine gEx.if_ne (tn := 94) rfl rfl rfl ?_ ?_
        · refine gEx.aload rfl rfl rfl ?_
          refine gEx.getR rfl rfl (h0 0 _ rfl) rfl ?_
          refine gEx.aload rfl rfl rfl ?_
          refine gEx.getR rfl rfl (h0 0 _ rfl) rfl ?_
          refine gEx.iload rfl rfl rfl ?_
          refine gEx.iload rfl rfl rfl ?_
          refine gEx.iload rfl rfl rfl ?_
          refine gEx.iload rfl rfl rfl ?_
          refine gEx.callVi rfl rfl rfl rfl (h0 41 _ rfl) rfl (fun _ h => (t_Orders_whyNotUnder (by omega) (gsub_OT_41 h0) (gsub_OT_1 h0)) _ h) (fun r6 => ?_)
          refine gEx.goto (tn := 111) rfl rfl rfl ?_
          exact gEx.lab rfl rfl (hJ_111 v1 r6.1 r6.2)
        · refine gEx.aload rfl rfl rfl ?_
          refine gEx.getR rfl rfl (h0 0 _ rfl) rfl ?_
          refine gEx.aload rfl rfl rfl ?_
          refine gEx.getR rfl rfl (h0 0 _ rfl) rfl ?_
          refine gEx.iload rfl rfl rfl ?_
          refine gEx.iload rfl rfl rfl ?_
          refine gEx.iload rfl rfl rfl ?_
          refine gEx.iload rfl rfl rfl ?_
          refine gEx.callVi rfl rfl rfl rfl (h0 41 _ rfl) rfl (fun _ h => (t_Orders_whyNotUnder (by omega) (gsub_OT_41 h0) (gsub_OT_1 h0)) _ h) (fun r5 => ?_)
          exact gEx.lab rfl rfl (hJ_111 v1 r5.1 r5.2)
    exact gEx.lab rfl rfl (hL_65 1000 9 r4.2)
  show gEx d gcx_134 sh gri 0 [some (.ref 0), some (.int x1), some (.int x2), some (.int x3), none, none, none, none] [] m (f_OT_lets x1 x2 x3 m)
  unfold f_OT_lets
  refine gEx.aload rfl rfl rfl ?_
  refine gEx.iload rfl rfl rfl ?_
  refine gEx.callVi rfl rfl rfl rfl (h0 0 _ rfl) rfl (fun _ h => (t_OT_isPerson (by omega) h0) _ h) (fun r7 => ?_)
  refine gEx.if_eq (tn := 25) rfl rfl rfl ?_ ?_
  · refine gEx.lab (ls' := [some (.ref 0), none, none, none, none, none, none, none]) rfl rfl ?_
    refine gEx.iconst rfl rfl ?_
    exact gEx.reti rfl rfl
  · refine gEx.aload rfl rfl rfl ?_
    refine gEx.iload rfl rfl rfl ?_
    refine gEx.callVi rfl rfl rfl rfl (h0 0 _ rfl) rfl (fun _ h => (t_OT_hasCell (by omega) h0) _ h) (fun r8 => ?_)
    refine gEx.if_eq (tn := 25) rfl rfl rfl ?_ ?_
    · refine gEx.lab (ls' := [some (.ref 0), none, none, none, none, none, none, none]) rfl rfl ?_
      refine gEx.iconst rfl rfl ?_
      exact gEx.reti rfl rfl
    · refine gEx.iload rfl rfl rfl ?_
      refine gEx.if_eq (tn := 27) rfl rfl rfl ?_ ?_
      · exact gEx.lab rfl rfl (hJ_27 r8.2)
      · refine gEx.iload rfl rfl rfl ?_
        refine gEx.iconst rfl rfl ?_
        refine gEx.icmp_eq (tn := 27) rfl rfl rfl ?_ ?_
        · exact gEx.lab rfl rfl (hJ_27 r8.2)
        · refine gEx.lab (ls' := [some (.ref 0), none, none, none, none, none, none, none]) rfl rfl ?_
          refine gEx.iconst rfl rfl ?_
          exact gEx.reti rfl rfl
abbrev gcx_135 : gC := glook (gco_135_0)
set_option maxRecDepth 100000 in
set_option maxHeartbeats 4000000 in
theorem t_OT_spot {d : Nat} (hd : 3 ≤ d) {sh : gH} {kl : List (Option Nat)} {x1 : Int32} {x2 : Int32} (h0 : gHas sh.1 0 (gsh_OT kl)) {m : gM} : ∀ x, f_OT_spot x1 x2 m = some x → gR gmi gdf gcd d 135 [.ref 0, .int x1, .int x2] (sh, m) ((gri x).1, (sh, (gri x).2)) := by
  obtain ⟨d, rfl⟩ : ∃ e, d = e + 1 := ⟨d - 1, by omega⟩
  refine gR_of (mx := 4) (code := gcx_135) rfl rfl (Nat.le_of_ble_eq_true rfl) ?_
  show gEx d gcx_135 sh gri 0 [some (.ref 0), some (.int x1), some (.int x2), none] [] m (f_OT_spot x1 x2 m)
  unfold f_OT_spot
  refine gEx.aload rfl rfl rfl ?_
  refine gEx.iload rfl rfl rfl ?_
  refine gEx.callVi rfl rfl rfl rfl (h0 0 _ rfl) rfl (fun _ h => (t_OT_isPerson (by omega) h0) _ h) (fun r1 => ?_)
  refine gEx.if_eq (tn := 16) rfl rfl rfl ?_ ?_
  · refine gEx.lab (ls' := [some (.ref 0), none, none, none]) rfl rfl ?_
    refine gEx.iconst rfl rfl ?_
    exact gEx.reti rfl rfl
  · refine gEx.aload rfl rfl rfl ?_
    refine gEx.iload rfl rfl rfl ?_
    refine gEx.callVi rfl rfl rfl rfl (h0 0 _ rfl) rfl (fun _ h => (t_OT_hasCell (by omega) h0) _ h) (fun r2 => ?_)
    refine gEx.if_ne (tn := 19) rfl rfl rfl ?_ ?_
    · refine gEx.lab (ls' := [some (.ref 0), none, none, none]) rfl rfl ?_
      refine gEx.iconst rfl rfl ?_
      exact gEx.reti rfl rfl
    · refine gEx.aload rfl rfl rfl ?_
      refine gEx.getR rfl rfl (h0 0 _ rfl) rfl ?_
      refine gEx.iload rfl rfl rfl ?_
      refine gEx.iald rfl rfl (h0 33 _ rfl) ?_
      refine gEx.istoreL (ls' := fun v1 => [some (.ref 0), some (.int x1), some (.int x2), some (.int v1)]) rfl rfl (fun _ => rfl) (fun v1 => ?_)
      refine gEx.aload rfl rfl rfl ?_
      refine gEx.getR rfl rfl (h0 0 _ rfl) rfl ?_
      refine gEx.iload rfl rfl rfl ?_
      refine gEx.iload rfl rfl rfl ?_
      refine gEx.iast rfl rfl (h0 33 _ rfl) (fun m1 => ?_)
      refine gEx.iload rfl rfl rfl ?_
      exact gEx.reti rfl rfl
abbrev gcx_153 : gC := glook (gco_153_0)
set_option maxRecDepth 100000 in
set_option maxHeartbeats 4000000 in
theorem t_OT_isRace {d : Nat} (hd : 2 ≤ d) {sh : gH} {kl : List (Option Nat)} {x1 : Int32} {x2 : Int32} {x3 : Int32} {x4 : Int32} (h0 : gHas sh.1 0 (gsh_OT kl)) {m : gM} : ∀ x, f_OT_isRace x1 x2 x3 x4 m = some x → gR gmi gdf gcd d 153 [.ref 0, .int x1, .int x2, .int x3, .int x4] (sh, m) ((gri x).1, (sh, (gri x).2)) := by
  obtain ⟨d, rfl⟩ : ∃ e, d = e + 1 := ⟨d - 1, by omega⟩
  refine gR_of (mx := 5) (code := gcx_153) rfl rfl (Nat.le_of_ble_eq_true rfl) ?_
  show gEx d gcx_153 sh gri 0 [some (.ref 0), some (.int x1), some (.int x2), some (.int x3), some (.int x4)] [] m (f_OT_isRace x1 x2 x3 x4 m)
  unfold f_OT_isRace
  refine gEx.iload rfl rfl rfl ?_
  refine gEx.iconst rfl rfl ?_
  refine gEx.icmp_lt (tn := 54) rfl rfl rfl ?_ ?_
  · refine gEx.lab (ls' := [some (.ref 0), none, none, none, none]) rfl rfl ?_
    refine gEx.iconst rfl rfl ?_
    refine gEx.lab (ls' := [some (.ref 0), none, none, none, none]) rfl rfl ?_
    exact gEx.retz0 (by decide) rfl rfl
  · refine gEx.iload rfl rfl rfl ?_
    refine gEx.iconst rfl rfl ?_
    refine gEx.icmp_gt (tn := 54) rfl rfl rfl ?_ ?_
    · refine gEx.lab (ls' := [some (.ref 0), none, none, none, none]) rfl rfl ?_
      refine gEx.iconst rfl rfl ?_
      refine gEx.lab (ls' := [some (.ref 0), none, none, none, none]) rfl rfl ?_
      exact gEx.retz0 (by decide) rfl rfl
    · refine gEx.iload rfl rfl rfl ?_
      refine gEx.aload rfl rfl rfl ?_
      refine gEx.getI rfl rfl (h0 0 _ rfl) rfl ?_
      refine gEx.icmp_gt (tn := 54) rfl rfl rfl ?_ ?_
      · refine gEx.lab (ls' := [some (.ref 0), none, none, none, none]) rfl rfl ?_
        refine gEx.iconst rfl rfl ?_
        refine gEx.lab (ls' := [some (.ref 0), none, none, none, none]) rfl rfl ?_
        exact gEx.retz0 (by decide) rfl rfl
      · refine gEx.iload rfl rfl rfl ?_
        refine gEx.iconst rfl rfl ?_
        refine gEx.callSi rfl rfl rfl rfl rfl (fun _ h => (t_OT_within (by omega) ) _ h) (fun r1 => ?_)
        refine gEx.if_eq (tn := 54) rfl rfl rfl ?_ ?_
        · refine gEx.lab (ls' := [some (.ref 0), none, none, none, none]) rfl rfl ?_
          refine gEx.iconst rfl rfl ?_
          refine gEx.lab (ls' := [some (.ref 0), none, none, none, none]) rfl rfl ?_
          exact gEx.retz0 (by decide) rfl rfl
        · refine gEx.iload rfl rfl rfl ?_
          refine gEx.iconst rfl rfl ?_
          refine gEx.callSi rfl rfl rfl rfl rfl (fun _ h => (t_OT_within (by omega) ) _ h) (fun r2 => ?_)
          refine gEx.if_eq (tn := 54) rfl rfl rfl ?_ ?_
          · refine gEx.lab (ls' := [some (.ref 0), none, none, none, none]) rfl rfl ?_
            refine gEx.iconst rfl rfl ?_
            refine gEx.lab (ls' := [some (.ref 0), none, none, none, none]) rfl rfl ?_
            exact gEx.retz0 (by decide) rfl rfl
          · refine gEx.iload rfl rfl rfl ?_
            refine gEx.iconst rfl rfl ?_
            refine gEx.icmp_lt (tn := 54) rfl rfl rfl ?_ ?_
            · refine gEx.lab (ls' := [some (.ref 0), none, none, none, none]) rfl rfl ?_
              refine gEx.iconst rfl rfl ?_
              refine gEx.lab (ls' := [some (.ref 0), none, none, none, none]) rfl rfl ?_
              exact gEx.retz0 (by decide) rfl rfl
            · refine gEx.iload rfl rfl rfl ?_
              refine gEx.iconst rfl rfl ?_
              refine gEx.icmp_gt (tn := 54) rfl rfl rfl ?_ ?_
              · refine gEx.lab (ls' := [some (.ref 0), none, none, none, none]) rfl rfl ?_
                refine gEx.iconst rfl rfl ?_
                refine gEx.lab (ls' := [some (.ref 0), none, none, none, none]) rfl rfl ?_
                exact gEx.retz0 (by decide) rfl rfl
              · refine gEx.iconst rfl rfl ?_
                refine gEx.goto (tn := 55) rfl rfl rfl ?_
                refine gEx.lab (ls' := [some (.ref 0), none, none, none, none]) rfl rfl ?_
                exact gEx.retz0 (by decide) rfl rfl
abbrev gcx_154 : gC := glook (gco_154_0)
set_option maxRecDepth 100000 in
set_option maxHeartbeats 4000000 in
theorem t_OT_haveSpots {d : Nat} (hd : 3 ≤ d) {sh : gH} {kl : List (Option Nat)} {x1 : Int32} (h0 : gHas sh.1 0 (gsh_OT kl)) {m : gM} : ∀ x, f_OT_haveSpots x1 m = some x → gR gmi gdf gcd d 154 [.ref 0, .int x1] (sh, m) ((gri x).1, (sh, (gri x).2)) := by
  obtain ⟨d, rfl⟩ : ∃ e, d = e + 1 := ⟨d - 1, by omega⟩
  refine gR_of (mx := 3) (code := gcx_154) rfl rfl (Nat.le_of_ble_eq_true rfl) ?_
  show gEx d gcx_154 sh gri 0 [some (.ref 0), some (.int x1), none] [] m (f_OT_haveSpots x1 m)
  unfold f_OT_haveSpots
  refine gEx.iconst rfl rfl ?_
  refine gEx.istore (ls' := [some (.ref 0), some (.int x1), some (.int 0)]) rfl rfl rfl ?_
  have hL_2 : ∀ (n : Nat) (v1 : Int32) (m1 : gM), gEx d gcx_154 sh gri 2 [some (.ref 0), some (.int x1), some (.int v1)] [] m1 (L_OT_haveSpots_2 x1 n v1 m1) := by
    refine gfix_ind (P := fun (f : Int32 → gM → Option (Int32 × gM)) => ∀ (v1 : Int32) (m1 : gM), gEx d gcx_154 sh gri 2 [some (.ref 0), some (.int x1), some (.int v1)] [] m1 (f v1 m1)) (fun _ _ => gEx.none) (fun rec_2 hrec_2 => ?_)
    intro v1 m1
    refine gEx.iload rfl rfl rfl ?_
    refine gEx.iload rfl rfl rfl ?_
    refine gEx.icmp_ge (tn := 28) rfl rfl rfl ?_ ?_
    · refine gEx.aload rfl rfl rfl ?_
      refine gEx.aload rfl rfl rfl ?_
      refine gEx.getR rfl rfl (h0 0 _ rfl) rfl ?_
      refine gEx.iload rfl rfl rfl ?_
      refine gEx.iald rfl rfl (h0 33 _ rfl) ?_
      refine gEx.callVi rfl rfl rfl rfl (h0 0 _ rfl) rfl (fun _ h => (t_OT_hasCell (by omega) h0) _ h) (fun r1 => ?_)
      refine gEx.if_ne (tn := 22) rfl rfl rfl ?_ ?_
      · refine gEx.iconst rfl rfl ?_
        exact gEx.retz0 (by decide) rfl rfl
      · refine gEx.iinc (ls' := [some (.ref 0), some (.int x1), some (.int (v1 + 1))]) rfl rfl rfl rfl ?_
        refine gEx.goto (tn := 2) rfl rfl rfl ?_
        exact gEx.lab rfl rfl (hrec_2 (v1 + 1) r1.2)
    · refine gEx.iconst rfl rfl ?_
      exact gEx.retz0 (by decide) rfl rfl
  exact gEx.lab rfl rfl (hL_2 1000 0 m)
abbrev gcx_136 : gC := glook (gco_136_0)
set_option maxRecDepth 100000 in
set_option maxHeartbeats 4000000 in
theorem t_OT_gain {d : Nat} (hd : 6 ≤ d) {sh : gH} {kl : List (Option Nat)} {x1 : Int32} {x2 : Int32} {x3 : Int32} {x4 : Int32} {x5 : Int32} {x6 : Int32} (h0 : gHas sh.1 0 (gsh_OT kl)) {m : gM} : ∀ x, f_OT_gain x1 x2 x3 x4 x5 x6 m = some x → gR gmi gdf gcd d 136 [.ref 0, .int x1, .int x2, .int x3, .int x4, .int x5, .int x6] (sh, m) ((gri x).1, (sh, (gri x).2)) := by
  obtain ⟨d, rfl⟩ : ∃ e, d = e + 1 := ⟨d - 1, by omega⟩
  refine gR_of (mx := 7) (code := gcx_136) rfl rfl (Nat.le_of_ble_eq_true rfl) ?_
  show gEx d gcx_136 sh gri 0 [some (.ref 0), some (.int x1), some (.int x2), some (.int x3), some (.int x4), some (.int x5), some (.int x6)] [] m (f_OT_gain x1 x2 x3 x4 x5 x6 m)
  unfold f_OT_gain
  refine gEx.aload rfl rfl rfl ?_
  refine gEx.iload rfl rfl rfl ?_
  refine gEx.iload rfl rfl rfl ?_
  refine gEx.iload rfl rfl rfl ?_
  refine gEx.iload rfl rfl rfl ?_
  refine gEx.callVi rfl rfl rfl rfl (h0 0 _ rfl) rfl (fun _ h => (t_OT_isRace (by omega) h0) _ h) (fun r1 => ?_)
  refine gEx.if_eq (tn := 36) rfl rfl rfl ?_ ?_
  · refine gEx.lab (ls' := [some (.ref 0), none, none, none, none, none, none]) rfl rfl ?_
    refine gEx.iconst rfl rfl ?_
    exact gEx.reti rfl rfl
  · refine gEx.iload rfl rfl rfl ?_
    refine gEx.if_lt (tn := 36) rfl rfl rfl ?_ ?_
    · refine gEx.lab (ls' := [some (.ref 0), none, none, none, none, none, none]) rfl rfl ?_
      refine gEx.iconst rfl rfl ?_
      exact gEx.reti rfl rfl
    · refine gEx.iload rfl rfl rfl ?_
      refine gEx.iconst rfl rfl ?_
      refine gEx.iload rfl rfl rfl ?_
      refine gEx.ishl rfl rfl ?_
      refine gEx.icmp_ge (tn := 36) rfl rfl rfl ?_ ?_
      · refine gEx.iload rfl rfl rfl ?_
        refine gEx.if_lt (tn := 36) rfl rfl rfl ?_ ?_
        · refine gEx.lab (ls' := [some (.ref 0), none, none, none, none, none, none]) rfl rfl ?_
          refine gEx.iconst rfl rfl ?_
          exact gEx.reti rfl rfl
        · refine gEx.iload rfl rfl rfl ?_
          refine gEx.iload rfl rfl rfl ?_
          refine gEx.icmp_lt (tn := 40) rfl rfl rfl ?_ ?_
          · refine gEx.aload rfl rfl rfl ?_
            refine gEx.iload rfl rfl rfl ?_
            refine gEx.callVi rfl rfl rfl rfl (h0 0 _ rfl) rfl (fun _ h => (t_OT_haveSpots (by omega) h0) _ h) (fun r2 => ?_)
            refine gEx.if_ne (tn := 52) rfl rfl rfl ?_ ?_
            · refine gEx.iconst rfl rfl ?_
              exact gEx.reti rfl rfl
            · refine gEx.aload rfl rfl rfl ?_
              refine gEx.getR rfl rfl (h0 0 _ rfl) rfl ?_
              refine gEx.iload rfl rfl rfl ?_
              refine gEx.iload rfl rfl rfl ?_
              refine gEx.iload rfl rfl rfl ?_
              refine gEx.iload rfl rfl rfl ?_
              refine gEx.callVv rfl rfl rfl rfl (h0 54 _ rfl) rfl (fun _ h => (t_Race_prepare (by omega) (gsub_OT_54 h0)) _ h) (fun r3 => ?_)
              refine gEx.aload rfl rfl rfl ?_
              refine gEx.getR rfl rfl (h0 0 _ rfl) rfl ?_
              refine gEx.aload rfl rfl rfl ?_
              refine gEx.getR rfl rfl (h0 0 _ rfl) rfl ?_
              refine gEx.aload rfl rfl rfl ?_
              refine gEx.getR rfl rfl (h0 0 _ rfl) rfl ?_
              refine gEx.iload rfl rfl rfl ?_
              refine gEx.callVv rfl rfl rfl rfl (h0 54 _ rfl) rfl (fun _ h => (t_Race_run (by omega) (gsub_OT_54 h0) (gsub_OT_1 h0) (h0 33 _ rfl)) _ h) (fun r4 => ?_)
              refine gEx.aload rfl rfl rfl ?_
              refine gEx.getR rfl rfl (h0 0 _ rfl) rfl ?_
              refine gEx.iload rfl rfl rfl ?_
              refine gEx.iload rfl rfl rfl ?_
              refine gEx.callVi rfl rfl rfl rfl (h0 54 _ rfl) rfl (fun _ h => (t_Race_gainOf (by omega) (gsub_OT_54 h0)) _ h) (fun r5 => ?_)
              exact gEx.reti rfl rfl
          · refine gEx.lab (ls' := [some (.ref 0), none, none, none, none, none, none]) rfl rfl ?_
            refine gEx.iconst rfl rfl ?_
            exact gEx.reti rfl rfl
      · refine gEx.lab (ls' := [some (.ref 0), none, none, none, none, none, none]) rfl rfl ?_
        refine gEx.iconst rfl rfl ?_
        exact gEx.reti rfl rfl
abbrev gcx_137 : gC := glook (gco_137_0)
set_option maxRecDepth 100000 in
set_option maxHeartbeats 4000000 in
theorem t_OT_steady {d : Nat} (hd : 7 ≤ d) {sh : gH} {kl : List (Option Nat)} {x1 : Int32} {x2 : Int32} {x3 : Int32} {x4 : Int32} {x5 : Int32} (h0 : gHas sh.1 0 (gsh_OT kl)) {m : gM} : ∀ x, f_OT_steady x1 x2 x3 x4 x5 m = some x → gR gmi gdf gcd d 137 [.ref 0, .int x1, .int x2, .int x3, .int x4, .int x5] (sh, m) ((gri x).1, (sh, (gri x).2)) := by
  obtain ⟨d, rfl⟩ : ∃ e, d = e + 1 := ⟨d - 1, by omega⟩
  refine gR_of (mx := 6) (code := gcx_137) rfl rfl (Nat.le_of_ble_eq_true rfl) ?_
  show gEx d gcx_137 sh gri 0 [some (.ref 0), some (.int x1), some (.int x2), some (.int x3), some (.int x4), some (.int x5)] [] m (f_OT_steady x1 x2 x3 x4 x5 m)
  unfold f_OT_steady
  refine gEx.aload rfl rfl rfl ?_
  refine gEx.iload rfl rfl rfl ?_
  refine gEx.iload rfl rfl rfl ?_
  refine gEx.iload rfl rfl rfl ?_
  refine gEx.iload rfl rfl rfl ?_
  refine gEx.callVi rfl rfl rfl rfl (h0 0 _ rfl) rfl (fun _ h => (t_OT_isRace (by omega) h0) _ h) (fun r1 => ?_)
  refine gEx.if_eq (tn := 23) rfl rfl rfl ?_ ?_
  · refine gEx.lab (ls' := [some (.ref 0), none, none, none, none, none]) rfl rfl ?_
    refine gEx.iconst rfl rfl ?_
    exact gEx.reti rfl rfl
  · refine gEx.iload rfl rfl rfl ?_
    refine gEx.if_lt (tn := 23) rfl rfl rfl ?_ ?_
    · refine gEx.lab (ls' := [some (.ref 0), none, none, none, none, none]) rfl rfl ?_
      refine gEx.iconst rfl rfl ?_
      exact gEx.reti rfl rfl
    · refine gEx.iload rfl rfl rfl ?_
      refine gEx.iconst rfl rfl ?_
      refine gEx.icmp_le (tn := 25) rfl rfl rfl ?_ ?_
      · refine gEx.lab (ls' := [some (.ref 0), none, none, none, none, none]) rfl rfl ?_
        refine gEx.iconst rfl rfl ?_
        exact gEx.reti rfl rfl
      · refine gEx.aload rfl rfl rfl ?_
        refine gEx.iload rfl rfl rfl ?_
        refine gEx.callVi rfl rfl rfl rfl (h0 0 _ rfl) rfl (fun _ h => (t_OT_haveSpots (by omega) h0) _ h) (fun r2 => ?_)
        refine gEx.if_ne (tn := 36) rfl rfl rfl ?_ ?_
        · refine gEx.iconst rfl rfl ?_
          exact gEx.reti rfl rfl
        · refine gEx.aload rfl rfl rfl ?_
          refine gEx.getR rfl rfl (h0 0 _ rfl) rfl ?_
          refine gEx.iload rfl rfl rfl ?_
          refine gEx.iload rfl rfl rfl ?_
          refine gEx.iload rfl rfl rfl ?_
          refine gEx.iload rfl rfl rfl ?_
          refine gEx.callVv rfl rfl rfl rfl (h0 54 _ rfl) rfl (fun _ h => (t_Race_prepare (by omega) (gsub_OT_54 h0)) _ h) (fun r3 => ?_)
          refine gEx.aload rfl rfl rfl ?_
          refine gEx.getR rfl rfl (h0 0 _ rfl) rfl ?_
          refine gEx.aload rfl rfl rfl ?_
          refine gEx.getR rfl rfl (h0 0 _ rfl) rfl ?_
          refine gEx.aload rfl rfl rfl ?_
          refine gEx.getR rfl rfl (h0 0 _ rfl) rfl ?_
          refine gEx.callVv rfl rfl rfl rfl (h0 54 _ rfl) rfl (fun _ h => (t_Race_runAll (by omega) (gsub_OT_54 h0) (gsub_OT_1 h0) (h0 33 _ rfl)) _ h) (fun r4 => ?_)
          refine gEx.iload rfl rfl rfl ?_
          refine gEx.sw (dft := 117) (ps := #[(0, 92), (1, 100), (2, 108)]) rfl rfl [(0, (f_Race_steadySets 54 r4).bind fun (r5 : Int32 × gM) => some (r5.1, r5.2)), (1, (f_Race_leastSteady 54 r4).bind fun (r6 : Int32 × gM) => some (r6.1, r6.2)), (2, (f_Race_richest 54 1 r4).bind fun (r7 : Int32 × gM) => some (r7.1, r7.2))] ((f_Race_richest 54 0 r4).bind fun (r8 : Int32 × gM) => some (r8.1, r8.2)) ⟨rfl, ?_, ⟨rfl, ?_, ⟨rfl, ?_, trivial⟩⟩⟩ ?_
          · show gEx d gcx_137 sh gri 92 _ _ _ _
            refine gEx.aload rfl rfl rfl ?_
            refine gEx.getR rfl rfl (h0 0 _ rfl) rfl ?_
            refine gEx.callVi rfl rfl rfl rfl (h0 54 _ rfl) rfl (fun _ h => (t_Race_steadySets (by omega) (gsub_OT_54 h0)) _ h) (fun r5 => ?_)
            exact gEx.reti rfl rfl
          · show gEx d gcx_137 sh gri 100 _ _ _ _
            refine gEx.aload rfl rfl rfl ?_
            refine gEx.getR rfl rfl (h0 0 _ rfl) rfl ?_
            refine gEx.callVi rfl rfl rfl rfl (h0 54 _ rfl) rfl (fun _ h => (t_Race_leastSteady (by omega) (gsub_OT_54 h0)) _ h) (fun r6 => ?_)
            exact gEx.reti rfl rfl
          · show gEx d gcx_137 sh gri 108 _ _ _ _
            refine gEx.aload rfl rfl rfl ?_
            refine gEx.getR rfl rfl (h0 0 _ rfl) rfl ?_
            refine gEx.iconst rfl rfl ?_
            refine gEx.callVi rfl rfl rfl rfl (h0 54 _ rfl) rfl (fun _ h => (t_Race_richest (by omega) (gsub_OT_54 h0)) _ h) (fun r7 => ?_)
            exact gEx.reti rfl rfl
          · show gEx d gcx_137 sh gri 117 _ _ _ _
            refine gEx.aload rfl rfl rfl ?_
            refine gEx.getR rfl rfl (h0 0 _ rfl) rfl ?_
            refine gEx.iconst rfl rfl ?_
            refine gEx.callVi rfl rfl rfl rfl (h0 54 _ rfl) rfl (fun _ h => (t_Race_richest (by omega) (gsub_OT_54 h0)) _ h) (fun r8 => ?_)
            exact gEx.reti rfl rfl
abbrev gcx_138 : gC := glook (gco_138_0)
set_option maxRecDepth 100000 in
set_option maxHeartbeats 4000000 in
theorem t_OT_must {d : Nat} (hd : 7 ≤ d) {sh : gH} {kl : List (Option Nat)} {x1 : Int32} {x2 : Int32} {x3 : Int32} {x4 : Int32} {x5 : Int32} (h0 : gHas sh.1 0 (gsh_OT kl)) {m : gM} : ∀ x, f_OT_must x1 x2 x3 x4 x5 m = some x → gR gmi gdf gcd d 138 [.ref 0, .int x1, .int x2, .int x3, .int x4, .int x5] (sh, m) ((gri x).1, (sh, (gri x).2)) := by
  obtain ⟨d, rfl⟩ : ∃ e, d = e + 1 := ⟨d - 1, by omega⟩
  refine gR_of (mx := 6) (code := gcx_138) rfl rfl (Nat.le_of_ble_eq_true rfl) ?_
  show gEx d gcx_138 sh gri 0 [some (.ref 0), some (.int x1), some (.int x2), some (.int x3), some (.int x4), some (.int x5)] [] m (f_OT_must x1 x2 x3 x4 x5 m)
  unfold f_OT_must
  refine gEx.aload rfl rfl rfl ?_
  refine gEx.iload rfl rfl rfl ?_
  refine gEx.iload rfl rfl rfl ?_
  refine gEx.iload rfl rfl rfl ?_
  refine gEx.iload rfl rfl rfl ?_
  refine gEx.callVi rfl rfl rfl rfl (h0 0 _ rfl) rfl (fun _ h => (t_OT_isRace (by omega) h0) _ h) (fun r1 => ?_)
  refine gEx.if_eq (tn := 23) rfl rfl rfl ?_ ?_
  · refine gEx.lab (ls' := [some (.ref 0), none, none, none, none, none]) rfl rfl ?_
    refine gEx.iconst rfl rfl ?_
    exact gEx.reti rfl rfl
  · refine gEx.iload rfl rfl rfl ?_
    refine gEx.if_lt (tn := 23) rfl rfl rfl ?_ ?_
    · refine gEx.lab (ls' := [some (.ref 0), none, none, none, none, none]) rfl rfl ?_
      refine gEx.iconst rfl rfl ?_
      exact gEx.reti rfl rfl
    · refine gEx.iload rfl rfl rfl ?_
      refine gEx.iload rfl rfl rfl ?_
      refine gEx.icmp_lt (tn := 25) rfl rfl rfl ?_ ?_
      · refine gEx.aload rfl rfl rfl ?_
        refine gEx.iload rfl rfl rfl ?_
        refine gEx.callVi rfl rfl rfl rfl (h0 0 _ rfl) rfl (fun _ h => (t_OT_haveSpots (by omega) h0) _ h) (fun r2 => ?_)
        refine gEx.if_ne (tn := 36) rfl rfl rfl ?_ ?_
        · refine gEx.iconst rfl rfl ?_
          exact gEx.reti rfl rfl
        · refine gEx.aload rfl rfl rfl ?_
          refine gEx.getR rfl rfl (h0 0 _ rfl) rfl ?_
          refine gEx.iload rfl rfl rfl ?_
          refine gEx.iload rfl rfl rfl ?_
          refine gEx.iload rfl rfl rfl ?_
          refine gEx.iload rfl rfl rfl ?_
          refine gEx.callVv rfl rfl rfl rfl (h0 54 _ rfl) rfl (fun _ h => (t_Race_prepare (by omega) (gsub_OT_54 h0)) _ h) (fun r3 => ?_)
          refine gEx.aload rfl rfl rfl ?_
          refine gEx.getR rfl rfl (h0 0 _ rfl) rfl ?_
          refine gEx.aload rfl rfl rfl ?_
          refine gEx.getR rfl rfl (h0 0 _ rfl) rfl ?_
          refine gEx.aload rfl rfl rfl ?_
          refine gEx.getR rfl rfl (h0 0 _ rfl) rfl ?_
          refine gEx.callVv rfl rfl rfl rfl (h0 54 _ rfl) rfl (fun _ h => (t_Race_runAll (by omega) (gsub_OT_54 h0) (gsub_OT_1 h0) (h0 33 _ rfl)) _ h) (fun r4 => ?_)
          refine gEx.aload rfl rfl rfl ?_
          refine gEx.getR rfl rfl (h0 0 _ rfl) rfl ?_
          refine gEx.iload rfl rfl rfl ?_
          refine gEx.callVi rfl rfl rfl rfl (h0 54 _ rfl) rfl (fun _ h => (t_Race_urgeOf (by omega) (gsub_OT_54 h0)) _ h) (fun r5 => ?_)
          exact gEx.reti rfl rfl
      · refine gEx.lab (ls' := [some (.ref 0), none, none, none, none, none]) rfl rfl ?_
        refine gEx.iconst rfl rfl ?_
        exact gEx.reti rfl rfl
abbrev gcx_148 : gC := glook (gco_148_0)
set_option maxRecDepth 100000 in
set_option maxHeartbeats 4000000 in
theorem t_OT_isSheet {d : Nat} (hd : 1 ≤ d) {sh : gH} {x0 : Int32}  {m : gM} : ∀ x, f_OT_isSheet x0 m = some x → gR gmi gdf gcd d 148 [.int x0] (sh, m) ((gri x).1, (sh, (gri x).2)) := by
  obtain ⟨d, rfl⟩ : ∃ e, d = e + 1 := ⟨d - 1, by omega⟩
  refine gR_of (mx := 1) (code := gcx_148) rfl rfl (Nat.le_of_ble_eq_true rfl) ?_
  show gEx d gcx_148 sh gri 0 [some (.int x0)] [] m (f_OT_isSheet x0 m)
  unfold f_OT_isSheet
  refine gEx.iload rfl rfl rfl ?_
  refine gEx.if_lt (tn := 13) rfl rfl rfl ?_ ?_
  · refine gEx.lab (ls' := [some (.int x0)]) rfl rfl ?_
    refine gEx.iconst rfl rfl ?_
    refine gEx.lab (ls' := [some (.int x0)]) rfl rfl ?_
    exact gEx.retz0 (by decide) rfl rfl
  · refine gEx.iload rfl rfl rfl ?_
    refine gEx.iconst rfl rfl ?_
    refine gEx.icmp_ge (tn := 13) rfl rfl rfl ?_ ?_
    · refine gEx.iconst rfl rfl ?_
      refine gEx.goto (tn := 14) rfl rfl rfl ?_
      refine gEx.lab (ls' := [some (.int x0)]) rfl rfl ?_
      exact gEx.retz0 (by decide) rfl rfl
    · refine gEx.lab (ls' := [some (.int x0)]) rfl rfl ?_
      refine gEx.iconst rfl rfl ?_
      refine gEx.lab (ls' := [some (.int x0)]) rfl rfl ?_
      exact gEx.retz0 (by decide) rfl rfl
abbrev gcx_149 : gC := glook (gco_149_0)
set_option maxRecDepth 100000 in
set_option maxHeartbeats 4000000 in
theorem t_OT_isLane {d : Nat} (hd : 1 ≤ d) {sh : gH} {x0 : Int32}  {m : gM} : ∀ x, f_OT_isLane x0 m = some x → gR gmi gdf gcd d 149 [.int x0] (sh, m) ((gri x).1, (sh, (gri x).2)) := by
  obtain ⟨d, rfl⟩ : ∃ e, d = e + 1 := ⟨d - 1, by omega⟩
  refine gR_of (mx := 1) (code := gcx_149) rfl rfl (Nat.le_of_ble_eq_true rfl) ?_
  show gEx d gcx_149 sh gri 0 [some (.int x0)] [] m (f_OT_isLane x0 m)
  unfold f_OT_isLane
  refine gEx.iload rfl rfl rfl ?_
  refine gEx.if_lt (tn := 13) rfl rfl rfl ?_ ?_
  · refine gEx.lab (ls' := [some (.int x0)]) rfl rfl ?_
    refine gEx.iconst rfl rfl ?_
    refine gEx.lab (ls' := [some (.int x0)]) rfl rfl ?_
    exact gEx.retz0 (by decide) rfl rfl
  · refine gEx.iload rfl rfl rfl ?_
    refine gEx.iconst rfl rfl ?_
    refine gEx.icmp_gt (tn := 13) rfl rfl rfl ?_ ?_
    · refine gEx.lab (ls' := [some (.int x0)]) rfl rfl ?_
      refine gEx.iconst rfl rfl ?_
      refine gEx.lab (ls' := [some (.int x0)]) rfl rfl ?_
      exact gEx.retz0 (by decide) rfl rfl
    · refine gEx.iconst rfl rfl ?_
      refine gEx.goto (tn := 14) rfl rfl rfl ?_
      refine gEx.lab (ls' := [some (.int x0)]) rfl rfl ?_
      exact gEx.retz0 (by decide) rfl rfl
abbrev gcx_141 : gC := glook (gco_141_0)
set_option maxRecDepth 100000 in
set_option maxHeartbeats 4000000 in
theorem t_OT_sheet {d : Nat} (hd : 3 ≤ d) {sh : gH} {kl : List (Option Nat)} {x1 : Int32} {x2 : Int32} {x3 : Int32} (h0 : gHas sh.1 0 (gsh_OT kl)) {m : gM} : ∀ x, f_OT_sheet x1 x2 x3 m = some x → gR gmi gdf gcd d 141 [.ref 0, .int x1, .int x2, .int x3] (sh, m) ((gri x).1, (sh, (gri x).2)) := by
  obtain ⟨d, rfl⟩ : ∃ e, d = e + 1 := ⟨d - 1, by omega⟩
  refine gR_of (mx := 4) (code := gcx_141) rfl rfl (Nat.le_of_ble_eq_true rfl) ?_
  show gEx d gcx_141 sh gri 0 [some (.ref 0), some (.int x1), some (.int x2), some (.int x3)] [] m (f_OT_sheet x1 x2 x3 m)
  unfold f_OT_sheet
  refine gEx.iload rfl rfl rfl ?_
  refine gEx.callSi rfl rfl rfl rfl rfl (fun _ h => (t_OT_isSheet (by omega) ) _ h) (fun r1 => ?_)
  refine gEx.if_eq (tn := 20) rfl rfl rfl ?_ ?_
  · refine gEx.lab (ls' := [some (.ref 0), none, none, none]) rfl rfl ?_
    refine gEx.iconst rfl rfl ?_
    exact gEx.reti rfl rfl
  · refine gEx.iload rfl rfl rfl ?_
    refine gEx.callSi rfl rfl rfl rfl rfl (fun _ h => (t_OT_isLane (by omega) ) _ h) (fun r2 => ?_)
    refine gEx.if_eq (tn := 20) rfl rfl rfl ?_ ?_
    · refine gEx.lab (ls' := [some (.ref 0), none, none, none]) rfl rfl ?_
      refine gEx.iconst rfl rfl ?_
      exact gEx.reti rfl rfl
    · refine gEx.iload rfl rfl rfl ?_
      refine gEx.iconst rfl rfl ?_
      refine gEx.icmp_le (tn := 22) rfl rfl rfl ?_ ?_
      · refine gEx.lab (ls' := [some (.ref 0), none, none, none]) rfl rfl ?_
        refine gEx.iconst rfl rfl ?_
        exact gEx.reti rfl rfl
      · refine gEx.iload rfl rfl rfl ?_
        refine gEx.if_ge (tn := 29) rfl rfl rfl ?_ ?_
        · refine gEx.iconst rfl rfl ?_
          exact gEx.reti rfl rfl
        · refine gEx.aload rfl rfl rfl ?_
          refine gEx.getR rfl rfl (h0 0 _ rfl) rfl ?_
          refine gEx.iload rfl rfl rfl ?_
          refine gEx.aald (t := fun j => 73 + 2 * j) rfl rfl (h0 72 _ rfl) rfl (by decide) (fun hlt => ?_)
          have hsheet := gsheet h0 hlt
          refine gEx.iload rfl rfl rfl ?_
          refine gEx.iload rfl rfl rfl ?_
          refine gEx.callVv rfl rfl rfl rfl (hsheet 0 _ rfl) rfl (fun _ h => (t_Sheet_becomeNew (by omega) hsheet) _ h) (fun r3 => ?_)
          refine gEx.iconst rfl rfl ?_
          exact gEx.reti rfl rfl
abbrev gcx_142 : gC := glook (gco_142_0)
set_option maxRecDepth 100000 in
set_option maxHeartbeats 4000000 in
theorem t_OT_write {d : Nat} (hd : 2 ≤ d) {sh : gH} {kl : List (Option Nat)} {x1 : Int32} {x2 : Int32} {x3 : Int32} (h0 : gHas sh.1 0 (gsh_OT kl)) {m : gM} : ∀ x, f_OT_write x1 x2 x3 m = some x → gR gmi gdf gcd d 142 [.ref 0, .int x1, .int x2, .int x3] (sh, m) ((gri x).1, (sh, (gri x).2)) := by
  obtain ⟨d, rfl⟩ : ∃ e, d = e + 1 := ⟨d - 1, by omega⟩
  refine gR_of (mx := 5) (code := gcx_142) rfl rfl (Nat.le_of_ble_eq_true rfl) ?_
  show gEx d gcx_142 sh gri 0 [some (.ref 0), some (.int x1), some (.int x2), some (.int x3), none] [] m (f_OT_write x1 x2 x3 m)
  unfold f_OT_write
  refine gEx.iload rfl rfl rfl ?_
  refine gEx.callSi rfl rfl rfl rfl rfl (fun _ h => (t_OT_isSheet (by omega) ) _ h) (fun r1 => ?_)
  refine gEx.if_ne (tn := 9) rfl rfl rfl ?_ ?_
  · refine gEx.iconst rfl rfl ?_
    exact gEx.reti rfl rfl
  · refine gEx.aload rfl rfl rfl ?_
    refine gEx.getR rfl rfl (h0 0 _ rfl) rfl ?_
    refine gEx.iload rfl rfl rfl ?_
    refine gEx.aald (t := fun j => 73 + 2 * j) rfl rfl (h0 72 _ rfl) rfl (by decide) (fun hlt => ?_)
    have hsheet := gsheet h0 hlt
    refine gEx.astore (ls' := [some (.ref 0), some (.int x1), some (.int x2), some (.int x3), some (.ref (73 + 2 * x1.toNatClampNeg))]) rfl rfl rfl ?_
    refine gEx.aload rfl rfl rfl ?_
    refine gEx.getI rfl rfl (hsheet 0 _ rfl) rfl ?_
    refine gEx.iconst rfl rfl ?_
    refine gEx.icmp_ne (tn := 30) rfl rfl rfl ?_ ?_
    · refine gEx.iconst rfl rfl ?_
      exact gEx.reti rfl rfl
    · refine gEx.iload rfl rfl rfl ?_
      refine gEx.if_lt (tn := 43) rfl rfl rfl ?_ ?_
      · refine gEx.lab (ls' := [some (.ref 0), none, none, none, none]) rfl rfl ?_
        refine gEx.iconst rfl rfl ?_
        exact gEx.reti rfl rfl
      · refine gEx.iload rfl rfl rfl ?_
        refine gEx.aload rfl rfl rfl ?_
        refine gEx.getI rfl rfl (hsheet 0 _ rfl) rfl ?_
        refine gEx.icmp_lt (tn := 46) rfl rfl rfl ?_ ?_
        · refine gEx.aload rfl rfl rfl ?_
          refine gEx.iload rfl rfl rfl ?_
          refine gEx.iload rfl rfl rfl ?_
          refine gEx.callVv rfl rfl rfl rfl (hsheet 0 _ rfl) rfl (fun _ h => (t_Sheet_put (by omega) hsheet) _ h) (fun r2 => ?_)
          refine gEx.iconst rfl rfl ?_
          exact gEx.reti rfl rfl
        · refine gEx.lab (ls' := [some (.ref 0), none, none, none, none]) rfl rfl ?_
          refine gEx.iconst rfl rfl ?_
          exact gEx.reti rfl rfl
abbrev gcx_155 : gC := glook (gco_155_0)
set_option maxRecDepth 100000 in
set_option maxHeartbeats 4000000 in
theorem t_OT_tellOilFrom {d : Nat} (hd : 2 ≤ d) {sh : gH} {kl : List (Option Nat)} {p1 : Nat} {x2 : Int32} (h0 : gHas sh.1 0 (gsh_OT kl)) (h1 : gHas sh.1 p1 (gsh_Sheet p1)) {m : gM} : ∀ x, f_OT_tellOilFrom p1 x2 m = some x → gR gmi gdf gcd d 155 [.ref 0, .ref p1, .int x2] (sh, m) ((grv x).1, (sh, (grv x).2)) := by
  obtain ⟨d, rfl⟩ : ∃ e, d = e + 1 := ⟨d - 1, by omega⟩
  refine gR_of (mx := 5) (code := gcx_155) rfl rfl (Nat.le_of_ble_eq_true rfl) ?_
  show gEx d gcx_155 sh grv 0 [some (.ref 0), some (.ref p1), some (.int x2), none, none] [] m (f_OT_tellOilFrom p1 x2 m)
  unfold f_OT_tellOilFrom
  refine gEx.aload rfl rfl rfl ?_
  refine gEx.getR rfl rfl (h0 0 _ rfl) rfl ?_
  refine gEx.getR rfl rfl (h0 1 _ rfl) rfl ?_
  refine gEx.getR rfl rfl (h0 2 _ rfl) rfl ?_
  refine gEx.getI rfl rfl (h0 3 _ rfl) rfl ?_
  refine gEx.istoreL (ls' := fun v1 => [some (.ref 0), some (.ref p1), some (.int x2), some (.int v1), none]) rfl rfl (fun _ => rfl) (fun v1 => ?_)
  refine gEx.iconst rfl rfl ?_
  refine gEx.istore (ls' := [some (.ref 0), some (.ref p1), some (.int x2), some (.int v1), some (.int 0)]) rfl rfl rfl ?_
  have hL_17 : ∀ (n : Nat) (v2 : Int32) (m1 : gM), gEx d gcx_155 sh grv 17 [some (.ref 0), some (.ref p1), some (.int x2), some (.int v1), some (.int v2)] [] m1 (L_OT_tellOilFrom_17 p1 x2 v1 n v2 m1) := by
    refine gfix_ind (P := fun (f : Int32 → gM → Option (gM)) => ∀ (v2 : Int32) (m1 : gM), gEx d gcx_155 sh grv 17 [some (.ref 0), some (.ref p1), some (.int x2), some (.int v1), some (.int v2)] [] m1 (f v2 m1)) (fun _ _ => gEx.none) (fun rec_17 hrec_17 => ?_)
    intro v2 m1
    refine gEx.iload rfl rfl rfl ?_
    refine gEx.iload rfl rfl rfl ?_
    refine gEx.icmp_ge (tn := 50) rfl rfl rfl ?_ ?_
    · refine gEx.aload rfl rfl rfl ?_
      refine gEx.getR rfl rfl (h0 0 _ rfl) rfl ?_
      refine gEx.getR rfl rfl (h0 1 _ rfl) rfl ?_
      refine gEx.iload rfl rfl rfl ?_
      refine gEx.aload rfl rfl rfl ?_
      refine gEx.getR rfl rfl (h1 0 _ rfl) rfl ?_
      refine gEx.iload rfl rfl rfl ?_
      refine gEx.iload rfl rfl rfl ?_
      refine gEx.iadd rfl rfl ?_
      refine gEx.iald rfl rfl (h1 1 _ rfl) ?_
      refine gEx.callVv rfl rfl rfl rfl (h0 2 _ rfl) rfl (fun _ h => (t_Ground_tellOil (by omega) (gsub_OT_2 h0)) _ h) (fun r1 => ?_)
      refine gEx.iinc (ls' := [some (.ref 0), some (.ref p1), some (.int x2), some (.int v1), some (.int (v2 + 1))]) rfl rfl rfl rfl ?_
      refine gEx.goto (tn := 17) rfl rfl rfl ?_
      exact gEx.lab rfl rfl (hrec_17 (v2 + 1) r1)
    · exact gEx.retv rfl rfl
  exact gEx.lab rfl rfl (hL_17 1000 0 m)
abbrev gcx_143 : gC := glook (gco_143_0)
set_option maxRecDepth 100000 in
set_option maxHeartbeats 4000000 in
theorem t_OT_scan {d : Nat} (hd : 3 ≤ d) {sh : gH} {kl : List (Option Nat)} {x1 : Int32} {x2 : Int32} {x3 : Int32} (h0 : gHas sh.1 0 (gsh_OT kl)) {m : gM} : ∀ x, f_OT_scan x1 x2 x3 m = some x → gR gmi gdf gcd d 143 [.ref 0, .int x1, .int x2, .int x3] (sh, m) ((gri x).1, (sh, (gri x).2)) := by
  obtain ⟨d, rfl⟩ : ∃ e, d = e + 1 := ⟨d - 1, by omega⟩
  refine gR_of (mx := 6) (code := gcx_143) rfl rfl (Nat.le_of_ble_eq_true rfl) ?_
  show gEx d gcx_143 sh gri 0 [some (.ref 0), some (.int x1), some (.int x2), some (.int x3), none, none] [] m (f_OT_scan x1 x2 x3 m)
  unfold f_OT_scan
  refine gEx.iload rfl rfl rfl ?_
  refine gEx.callSi rfl rfl rfl rfl rfl (fun _ h => (t_OT_isSheet (by omega) ) _ h) (fun r1 => ?_)
  refine gEx.if_eq (tn := 14) rfl rfl rfl ?_ ?_
  · refine gEx.lab (ls' := [some (.ref 0), none, none, none, none, none]) rfl rfl ?_
    refine gEx.iconst rfl rfl ?_
    exact gEx.reti rfl rfl
  · refine gEx.iload rfl rfl rfl ?_
    refine gEx.callSi rfl rfl rfl rfl rfl (fun _ h => (t_OT_isLane (by omega) ) _ h) (fun r2 => ?_)
    refine gEx.if_ne (tn := 16) rfl rfl rfl ?_ ?_
    · refine gEx.lab (ls' := [some (.ref 0), none, none, none, none, none]) rfl rfl ?_
      refine gEx.iconst rfl rfl ?_
      exact gEx.reti rfl rfl
    · refine gEx.aload rfl rfl rfl ?_
      refine gEx.getR rfl rfl (h0 0 _ rfl) rfl ?_
      refine gEx.iload rfl rfl rfl ?_
      refine gEx.aald (t := fun j => 73 + 2 * j) rfl rfl (h0 72 _ rfl) rfl (by decide) (fun hlt => ?_)
      have hsheet := gsheet h0 hlt
      refine gEx.astore (ls' := [some (.ref 0), some (.int x1), some (.int x2), some (.int x3), some (.ref (73 + 2 * x1.toNatClampNeg)), none]) rfl rfl rfl ?_
      refine gEx.aload rfl rfl rfl ?_
      refine gEx.getI rfl rfl (hsheet 0 _ rfl) rfl ?_
      refine gEx.iconst rfl rfl ?_
      refine gEx.icmp_ne (tn := 37) rfl rfl rfl ?_ ?_
      · refine gEx.iconst rfl rfl ?_
        exact gEx.reti rfl rfl
      · refine gEx.aload rfl rfl rfl ?_
        refine gEx.getI rfl rfl (hsheet 0 _ rfl) rfl ?_
        refine gEx.iload rfl rfl rfl ?_
        refine gEx.icmp_eq (tn := 49) rfl rfl rfl ?_ ?_
        · refine gEx.aload rfl rfl rfl ?_
          refine gEx.iload rfl rfl rfl ?_
          refine gEx.aload rfl rfl rfl ?_
          refine gEx.getR rfl rfl (h0 0 _ rfl) rfl ?_
          refine gEx.getR rfl rfl (h0 1 _ rfl) rfl ?_
          refine gEx.getR rfl rfl (h0 2 _ rfl) rfl ?_
          refine gEx.getI rfl rfl (h0 3 _ rfl) rfl ?_
          refine gEx.callVi rfl rfl rfl rfl (hsheet 0 _ rfl) rfl (fun _ h => (t_Sheet_sumOf (by omega) hsheet) _ h) (fun r3 => ?_)
          refine gEx.istore (ls' := [some (.ref 0), some (.int x1), some (.int x2), some (.int x3), some (.ref (73 + 2 * x1.toNatClampNeg)), some (.int r3.1)]) rfl rfl rfl ?_
          refine gEx.iload rfl rfl rfl ?_
          refine gEx.if_lt (tn := 82) rfl rfl rfl ?_ ?_
          · refine gEx.lab (ls' := [some (.ref 0), some (.int x1), some (.int x2), some (.int x3), some (.ref (73 + 2 * x1.toNatClampNeg)), some (.int r3.1)]) rfl rfl ?_
            refine gEx.iload rfl rfl rfl ?_
            exact gEx.reti rfl rfl
          · refine gEx.aload rfl rfl rfl ?_
            refine gEx.aload rfl rfl rfl ?_
            refine gEx.iload rfl rfl rfl ?_
            refine gEx.callVv rfl rfl rfl rfl (h0 0 _ rfl) rfl (fun _ h => (t_OT_tellOilFrom (by omega) h0 hsheet) _ h) (fun r4 => ?_)
            refine gEx.lab (ls' := [some (.ref 0), some (.int x1), some (.int x2), some (.int x3), some (.ref (73 + 2 * x1.toNatClampNeg)), some (.int r3.1)]) rfl rfl ?_
            refine gEx.iload rfl rfl rfl ?_
            exact gEx.reti rfl rfl
        · refine gEx.iconst rfl rfl ?_
          exact gEx.reti rfl rfl
abbrev gcx_144 : gC := glook (gco_144_0 ++ (gco_144_1))
set_option maxRecDepth 100000 in
set_option maxHeartbeats 4000000 in
theorem t_OT_count {d : Nat} (hd : 7 ≤ d) {sh : gH} {kl : List (Option Nat)} {x1 : Int32} (h0 : gHas sh.1 0 (gsh_OT kl)) {m : gM} : ∀ x, f_OT_count x1 m = some x → gR gmi gdf gcd d 144 [.ref 0, .int x1] (sh, m) ((gri x).1, (sh, (gri x).2)) := by
  obtain ⟨d, rfl⟩ : ∃ e, d = e + 1 := ⟨d - 1, by omega⟩
  refine gR_of (mx := 2) (code := gcx_144) rfl rfl (Nat.le_of_ble_eq_true rfl) ?_
  show gEx d gcx_144 sh gri 0 [some (.ref 0), some (.int x1)] [] m (f_OT_count x1 m)
  unfold f_OT_count
  refine gEx.iload rfl rfl rfl ?_
  refine gEx.sw (dft := 233) (ps := #[(0, 72), (1, 86), (2, 100), (3, 114), (4, 119), (5, 130), (6, 141), (7, 149), (8, 157), (9, 168), (10, 179), (11, 191), (12, 196), (13, 204)]) rfl rfl [(0, some (gfd m 3 2, m)), (1, (f_Pool_allOil 3 m).bind fun (r1 : Int32 × gM) => some (r1.1, r1.2)), (2, (f_Pool_allWater 3 m).bind fun (r2 : Int32 × gM) => some (r2.1, r2.2)), (3, some (gfd m 0 3, m)), (4, some (gfd m 12 1, m)), (5, some (gfd m 18 0, m)), (6, some (gfd m 41 0, m)), (7, some (gfd m 1 4, m)), (8, (f_Books_allInTanks 27 m).bind fun (r3 : Int32 × gM) => some (r3.1, r3.2)), (9, (f_Books_allSold 27 m).bind fun (r4 : Int32 × gM) => some (r4.1, r4.2)), (10, (f_Orders_hotOfAll 41 1 m).bind fun (r5 : Int32 × gM) => some (r5.1, r5.2)), (11, some (gfd m 0 2, m)), (12, some (gfd m 34 0, m)), (13, gok (gib 0 4) (if (gfd m 73 0) = (-4) then (some ((-4), m)) else (gok (gib 0 4) (some (gfd m 73 1, m)))))] (some ((-1), m)) ⟨rfl, ?_, ⟨rfl, ?_, ⟨rfl, ?_, ⟨rfl, ?_, ⟨rfl, ?_, ⟨rfl, ?_, ⟨rfl, ?_, ⟨rfl, ?_, ⟨rfl, ?_, ⟨rfl, ?_, ⟨rfl, ?_, ⟨rfl, ?_, ⟨rfl, ?_, ⟨rfl, ?_, trivial⟩⟩⟩⟩⟩⟩⟩⟩⟩⟩⟩⟩⟩⟩ ?_
  · show gEx d gcx_144 sh gri 72 _ _ _ _
    refine gEx.aload rfl rfl rfl ?_
    refine gEx.getR rfl rfl (h0 0 _ rfl) rfl ?_
    refine gEx.getR rfl rfl (h0 1 _ rfl) rfl ?_
    refine gEx.getR rfl rfl (h0 2 _ rfl) rfl ?_
    refine gEx.getI rfl rfl (h0 3 _ rfl) rfl ?_
    exact gEx.reti rfl rfl
  · show gEx d gcx_144 sh gri 86 _ _ _ _
    refine gEx.aload rfl rfl rfl ?_
    refine gEx.getR rfl rfl (h0 0 _ rfl) rfl ?_
    refine gEx.getR rfl rfl (h0 1 _ rfl) rfl ?_
    refine gEx.getR rfl rfl (h0 2 _ rfl) rfl ?_
    refine gEx.callVi rfl rfl rfl rfl (h0 3 _ rfl) rfl (fun _ h => (t_Pool_allOil (by omega) (gsub_OT_3 h0)) _ h) (fun r1 => ?_)
    exact gEx.reti rfl rfl
  · show gEx d gcx_144 sh gri 100 _ _ _ _
    refine gEx.aload rfl rfl rfl ?_
    refine gEx.getR rfl rfl (h0 0 _ rfl) rfl ?_
    refine gEx.getR rfl rfl (h0 1 _ rfl) rfl ?_
    refine gEx.getR rfl rfl (h0 2 _ rfl) rfl ?_
    refine gEx.callVi rfl rfl rfl rfl (h0 3 _ rfl) rfl (fun _ h => (t_Pool_allWater (by omega) (gsub_OT_3 h0)) _ h) (fun r2 => ?_)
    exact gEx.reti rfl rfl
  · show gEx d gcx_144 sh gri 114 _ _ _ _
    refine gEx.aload rfl rfl rfl ?_
    refine gEx.getI rfl rfl (h0 0 _ rfl) rfl ?_
    exact gEx.reti rfl rfl
  · show gEx d gcx_144 sh gri 119 _ _ _ _
    refine gEx.aload rfl rfl rfl ?_
    refine gEx.getR rfl rfl (h0 0 _ rfl) rfl ?_
    refine gEx.getR rfl rfl (h0 1 _ rfl) rfl ?_
    refine gEx.getI rfl rfl (h0 12 _ rfl) rfl ?_
    exact gEx.reti rfl rfl
  · show gEx d gcx_144 sh gri 130 _ _ _ _
    refine gEx.aload rfl rfl rfl ?_
    refine gEx.getR rfl rfl (h0 0 _ rfl) rfl ?_
    refine gEx.getR rfl rfl (h0 1 _ rfl) rfl ?_
    refine gEx.getI rfl rfl (h0 18 _ rfl) rfl ?_
    exact gEx.reti rfl rfl
  · show gEx d gcx_144 sh gri 141 _ _ _ _
    refine gEx.aload rfl rfl rfl ?_
    refine gEx.getR rfl rfl (h0 0 _ rfl) rfl ?_
    refine gEx.getI rfl rfl (h0 41 _ rfl) rfl ?_
    exact gEx.reti rfl rfl
  · show gEx d gcx_144 sh gri 149 _ _ _ _
    refine gEx.aload rfl rfl rfl ?_
    refine gEx.getR rfl rfl (h0 0 _ rfl) rfl ?_
    refine gEx.getI rfl rfl (h0 1 _ rfl) rfl ?_
    exact gEx.reti rfl rfl
  · show gEx d gcx_144 sh gri 157 _ _ _ _
    refine gEx.aload rfl rfl rfl ?_
    refine gEx.getR rfl rfl (h0 0 _ rfl) rfl ?_
    refine gEx.getR rfl rfl (h0 1 _ rfl) rfl ?_
    refine gEx.callVi rfl rfl rfl rfl (h0 27 _ rfl) rfl (fun _ h => (t_Books_allInTanks (by omega) (gsub_OT_27 h0)) _ h) (fun r3 => ?_)
    exact gEx.reti rfl rfl
  · show gEx d gcx_144 sh gri 168 _ _ _ _
    refine gEx.aload rfl rfl rfl ?_
    refine gEx.getR rfl rfl (h0 0 _ rfl) rfl ?_
    refine gEx.getR rfl rfl (h0 1 _ rfl) rfl ?_
    refine gEx.callVi rfl rfl rfl rfl (h0 27 _ rfl) rfl (fun _ h => (t_Books_allSold (by omega) (gsub_OT_27 h0)) _ h) (fun r4 => ?_)
    exact gEx.reti rfl rfl
  · show gEx d gcx_144 sh gri 179 _ _ _ _
    refine gEx.aload rfl rfl rfl ?_
    refine gEx.getR rfl rfl (h0 0 _ rfl) rfl ?_
    refine gEx.aload rfl rfl rfl ?_
    refine gEx.getR rfl rfl (h0 0 _ rfl) rfl ?_
    refine gEx.callVi rfl rfl rfl rfl (h0 41 _ rfl) rfl (fun _ h => (t_Orders_hotOfAll (by omega) (gsub_OT_41 h0) (gsub_OT_1 h0)) _ h) (fun r5 => ?_)
    exact gEx.reti rfl rfl
  · show gEx d gcx_144 sh gri 191 _ _ _ _
    refine gEx.aload rfl rfl rfl ?_
    refine gEx.getI rfl rfl (h0 0 _ rfl) rfl ?_
    exact gEx.reti rfl rfl
  · show gEx d gcx_144 sh gri 196 _ _ _ _
    refine gEx.aload rfl rfl rfl ?_
    refine gEx.getR rfl rfl (h0 0 _ rfl) rfl ?_
    refine gEx.getI rfl rfl (h0 34 _ rfl) rfl ?_
    exact gEx.reti rfl rfl
  · show gEx d gcx_144 sh gri 204 _ _ _ _
    refine gEx.aload rfl rfl rfl ?_
    refine gEx.getR rfl rfl (h0 0 _ rfl) rfl ?_
    refine gEx.iconst rfl rfl ?_
    refine gEx.aald (t := fun j => 73 + 2 * j) rfl rfl (h0 72 _ rfl) rfl (by decide) (fun hlt => ?_)
    refine gEx.getI rfl rfl (h0 73 _ rfl) rfl ?_
    refine gEx.iconst rfl rfl ?_
    refine gEx.icmp_ne (tn := 223) rfl rfl rfl ?_ ?_
    · refine gEx.iconst rfl rfl ?_
      refine gEx.goto (tn := 232) rfl rfl rfl ?_
      refine gEx.lab (ls' := [some (.ref 0), none]) rfl rfl ?_
      exact gEx.reti rfl rfl
    · refine gEx.aload rfl rfl rfl ?_
      refine gEx.getR rfl rfl (h0 0 _ rfl) rfl ?_
      refine gEx.iconst rfl rfl ?_
      refine gEx.aald (t := fun j => 73 + 2 * j) rfl rfl (h0 72 _ rfl) rfl (by decide) (fun hlt => ?_)
      refine gEx.getI rfl rfl (h0 73 _ rfl) rfl ?_
      refine gEx.lab (ls' := [some (.ref 0), none]) rfl rfl ?_
      exact gEx.reti rfl rfl
  · show gEx d gcx_144 sh gri 233 _ _ _ _
    refine gEx.iconst rfl rfl ?_
    exact gEx.reti rfl rfl
abbrev gcx_157 : gC := glook (gco_157_0)
set_option maxRecDepth 100000 in
set_option maxHeartbeats 4000000 in
theorem t_MO_in {d : Nat} (hd : 1 ≤ d) {sh : gH} {y0 : Int64} {y2 : Int64} {y4 : Int64}  {m : gM} : ∀ x, f_MO_in y0 y2 y4 m = some x → gR gmi gdf gcd d 157 [.long y0, .long y2, .long y4] (sh, m) ((gri x).1, (sh, (gri x).2)) := by
  obtain ⟨d, rfl⟩ : ∃ e, d = e + 1 := ⟨d - 1, by omega⟩
  refine gR_of (mx := 6) (code := gcx_157) rfl rfl (Nat.le_of_ble_eq_true rfl) ?_
  show gEx d gcx_157 sh gri 0 [some (.long y0), none, some (.long y2), none, some (.long y4), none] [] m (f_MO_in y0 y2 y4 m)
  unfold f_MO_in
  refine gEx.lload rfl rfl rfl ?_
  refine gEx.lload rfl rfl rfl ?_
  refine gEx.lcmp rfl rfl ?_
  refine gEx.if_lt (tn := 17) rfl rfl rfl ?_ ?_
  · refine gEx.lab (ls' := [some (.long y0), none, none, none, none, none]) rfl rfl ?_
    refine gEx.iconst rfl rfl ?_
    refine gEx.lab (ls' := [some (.long y0), none, none, none, none, none]) rfl rfl ?_
    exact gEx.retz0 (by decide) rfl rfl
  · refine gEx.lload rfl rfl rfl ?_
    refine gEx.lload rfl rfl rfl ?_
    refine gEx.lcmp rfl rfl ?_
    refine gEx.if_gt (tn := 17) rfl rfl rfl ?_ ?_
    · refine gEx.lab (ls' := [some (.long y0), none, none, none, none, none]) rfl rfl ?_
      refine gEx.iconst rfl rfl ?_
      refine gEx.lab (ls' := [some (.long y0), none, none, none, none, none]) rfl rfl ?_
      exact gEx.retz0 (by decide) rfl rfl
    · refine gEx.iconst rfl rfl ?_
      refine gEx.goto (tn := 18) rfl rfl rfl ?_
      refine gEx.lab (ls' := [some (.long y0), none, none, none, none, none]) rfl rfl ?_
      exact gEx.retz0 (by decide) rfl rfl
abbrev gcx_158 : gC := glook (gco_158_0)
set_option maxRecDepth 100000 in
set_option maxHeartbeats 4000000 in
theorem t_MO_cells {d : Nat} (hd : 1 ≤ d) {sh : gH}  (h0 : gHas sh.1 81 gsh_MO) {m : gM} : ∀ x, f_MO_cells  m = some x → gR gmi gdf gcd d 158 [.ref 81] (sh, m) ((gri x).1, (sh, (gri x).2)) := by
  obtain ⟨d, rfl⟩ : ∃ e, d = e + 1 := ⟨d - 1, by omega⟩
  refine gR_of (mx := 1) (code := gcx_158) rfl rfl (Nat.le_of_ble_eq_true rfl) ?_
  show gEx d gcx_158 sh gri 0 [some (.ref 81)] [] m (f_MO_cells  m)
  unfold f_MO_cells
  refine gEx.aload rfl rfl rfl ?_
  refine gEx.getI rfl rfl (h0 0 _ rfl) rfl ?_
  refine gEx.aload rfl rfl rfl ?_
  refine gEx.getI rfl rfl (h0 0 _ rfl) rfl ?_
  refine gEx.imul rfl rfl ?_
  exact gEx.reti rfl rfl
abbrev gcx_159 : gC := glook (gco_159_0)
set_option maxRecDepth 100000 in
set_option maxHeartbeats 4000000 in
theorem t_MO_isCell {d : Nat} (hd : 2 ≤ d) {sh : gH} {x1 : Int32} (h0 : gHas sh.1 81 gsh_MO) {m : gM} : ∀ x, f_MO_isCell x1 m = some x → gR gmi gdf gcd d 159 [.ref 81, .int x1] (sh, m) ((gri x).1, (sh, (gri x).2)) := by
  obtain ⟨d, rfl⟩ : ∃ e, d = e + 1 := ⟨d - 1, by omega⟩
  refine gR_of (mx := 2) (code := gcx_159) rfl rfl (Nat.le_of_ble_eq_true rfl) ?_
  show gEx d gcx_159 sh gri 0 [some (.ref 81), some (.int x1)] [] m (f_MO_isCell x1 m)
  unfold f_MO_isCell
  refine gEx.iload rfl rfl rfl ?_
  refine gEx.i2l rfl rfl ?_
  refine gEx.lconst rfl rfl ?_
  refine gEx.aload rfl rfl rfl ?_
  refine gEx.callVi rfl rfl rfl rfl (h0 0 _ rfl) rfl (fun _ h => (t_MO_cells (by omega) h0) _ h) (fun r1 => ?_)
  refine gEx.iconst rfl rfl ?_
  refine gEx.isub rfl rfl ?_
  refine gEx.i2l rfl rfl ?_
  refine gEx.callSi rfl rfl rfl rfl rfl (fun _ h => (t_MO_in (by omega) ) _ h) (fun r2 => ?_)
  exact gEx.retz rfl rfl
abbrev gcx_160 : gC := glook (gco_160_0)
set_option maxRecDepth 100000 in
set_option maxHeartbeats 4000000 in
theorem t_MO_isLot {d : Nat} (hd : 2 ≤ d) {sh : gH} {x0 : Int32}  {m : gM} : ∀ x, f_MO_isLot x0 m = some x → gR gmi gdf gcd d 160 [.int x0] (sh, m) ((gri x).1, (sh, (gri x).2)) := by
  obtain ⟨d, rfl⟩ : ∃ e, d = e + 1 := ⟨d - 1, by omega⟩
  refine gR_of (mx := 1) (code := gcx_160) rfl rfl (Nat.le_of_ble_eq_true rfl) ?_
  show gEx d gcx_160 sh gri 0 [some (.int x0)] [] m (f_MO_isLot x0 m)
  unfold f_MO_isLot
  refine gEx.iload rfl rfl rfl ?_
  refine gEx.i2l rfl rfl ?_
  refine gEx.lconst rfl rfl ?_
  refine gEx.lconst rfl rfl ?_
  refine gEx.callSi rfl rfl rfl rfl rfl (fun _ h => (t_MO_in (by omega) ) _ h) (fun r1 => ?_)
  exact gEx.retz rfl rfl
abbrev gcx_161 : gC := glook (gco_161_0)
set_option maxRecDepth 100000 in
set_option maxHeartbeats 4000000 in
theorem t_MO_isPerson {d : Nat} (hd : 2 ≤ d) {sh : gH} {x1 : Int32} (h0 : gHas sh.1 81 gsh_MO) {m : gM} : ∀ x, f_MO_isPerson x1 m = some x → gR gmi gdf gcd d 161 [.ref 81, .int x1] (sh, m) ((gri x).1, (sh, (gri x).2)) := by
  obtain ⟨d, rfl⟩ : ∃ e, d = e + 1 := ⟨d - 1, by omega⟩
  refine gR_of (mx := 2) (code := gcx_161) rfl rfl (Nat.le_of_ble_eq_true rfl) ?_
  show gEx d gcx_161 sh gri 0 [some (.ref 81), some (.int x1)] [] m (f_MO_isPerson x1 m)
  unfold f_MO_isPerson
  refine gEx.iload rfl rfl rfl ?_
  refine gEx.i2l rfl rfl ?_
  refine gEx.lconst rfl rfl ?_
  refine gEx.aload rfl rfl rfl ?_
  refine gEx.getI rfl rfl (h0 0 _ rfl) rfl ?_
  refine gEx.iconst rfl rfl ?_
  refine gEx.isub rfl rfl ?_
  refine gEx.i2l rfl rfl ?_
  refine gEx.callSi rfl rfl rfl rfl rfl (fun _ h => (t_MO_in (by omega) ) _ h) (fun r1 => ?_)
  exact gEx.retz rfl rfl
abbrev gcx_162 : gC := glook (gco_162_0)
set_option maxRecDepth 100000 in
set_option maxHeartbeats 4000000 in
theorem t_MO_isWell {d : Nat} (hd : 2 ≤ d) {sh : gH} {x1 : Int32} (h0 : gHas sh.1 81 gsh_MO) {m : gM} : ∀ x, f_MO_isWell x1 m = some x → gR gmi gdf gcd d 162 [.ref 81, .int x1] (sh, m) ((gri x).1, (sh, (gri x).2)) := by
  obtain ⟨d, rfl⟩ : ∃ e, d = e + 1 := ⟨d - 1, by omega⟩
  refine gR_of (mx := 2) (code := gcx_162) rfl rfl (Nat.le_of_ble_eq_true rfl) ?_
  show gEx d gcx_162 sh gri 0 [some (.ref 81), some (.int x1)] [] m (f_MO_isWell x1 m)
  unfold f_MO_isWell
  refine gEx.iload rfl rfl rfl ?_
  refine gEx.i2l rfl rfl ?_
  refine gEx.lconst rfl rfl ?_
  refine gEx.aload rfl rfl rfl ?_
  refine gEx.getI rfl rfl (h0 0 _ rfl) rfl ?_
  refine gEx.iconst rfl rfl ?_
  refine gEx.isub rfl rfl ?_
  refine gEx.i2l rfl rfl ?_
  refine gEx.callSi rfl rfl rfl rfl rfl (fun _ h => (t_MO_in (by omega) ) _ h) (fun r1 => ?_)
  exact gEx.retz rfl rfl
abbrev gcx_163 : gC := glook (gco_163_0)
set_option maxRecDepth 100000 in
set_option maxHeartbeats 4000000 in
theorem t_MO_shift {d : Nat} (hd : 1 ≤ d) {sh : gH}  (h0 : gHas sh.1 81 gsh_MO) {m : gM} : ∀ x, f_MO_shift  m = some x → gR gmi gdf gcd d 163 [.ref 81] (sh, m) ((gri x).1, (sh, (gri x).2)) := by
  obtain ⟨d, rfl⟩ : ∃ e, d = e + 1 := ⟨d - 1, by omega⟩
  refine gR_of (mx := 1) (code := gcx_163) rfl rfl (Nat.le_of_ble_eq_true rfl) ?_
  show gEx d gcx_163 sh gri 0 [some (.ref 81)] [] m (f_MO_shift  m)
  unfold f_MO_shift
  refine gEx.aload rfl rfl rfl ?_
  refine gEx.getI rfl rfl (h0 0 _ rfl) rfl ?_
  refine gEx.iconst rfl rfl ?_
  refine gEx.idiv rfl rfl ?_
  exact gEx.reti rfl rfl
