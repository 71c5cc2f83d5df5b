/-! ===== the methods' runs follow the pure functions (by program) ===== -/
abbrev gcx_97 : gC := glook (gco_97_0)
set_option maxRecDepth 100000 in
set_option maxHeartbeats 4000000 in
theorem t_Town_wellsOn {d : Nat} (hd : 1 ≤ d) {sh : gH} {a : Nat} {x1 : Int32} (h0 : gHas sh.1 a (gsh_Town a)) {m : gM} : ∀ x, f_Town_wellsOn a x1 m = some x → gR gmi gdf gcd d 97 [.ref a, .int x1] (sh, m) ((gri x).1, (sh, (gri x).2)) := by
  obtain ⟨d, rfl⟩ : ∃ e, d = e + 1 := ⟨d - 1, by omega⟩
  refine gR_of (mx := 4) (code := gcx_97) rfl rfl (Nat.le_of_ble_eq_true rfl) ?_
  show gEx d gcx_97 sh gri 0 [some (.ref a), some (.int x1), none, none] [] m (f_Town_wellsOn a x1 m)
  unfold f_Town_wellsOn
  refine gEx.iconst rfl rfl ?_
  refine gEx.istore (ls' := [some (.ref a), some (.int x1), some (.int 0), none]) rfl rfl rfl ?_
  refine gEx.iconst rfl rfl ?_
  refine gEx.istore (ls' := [some (.ref a), some (.int x1), some (.int 0), some (.int 0)]) rfl rfl rfl ?_
  have hL_4 : ∀ (n : Nat) (v1 : Int32) (v2 : Int32), gEx d gcx_97 sh gri 4 [some (.ref a), some (.int x1), some (.int v1), some (.int v2)] [] m (L_Town_wellsOn_4 a x1 m n v1 v2) := by
    refine gfix_ind (P := fun (f : Int32 → Int32 → Option (Int32 × gM)) => ∀ (v1 : Int32) (v2 : Int32), gEx d gcx_97 sh gri 4 [some (.ref a), some (.int x1), some (.int v1), some (.int v2)] [] m (f v1 v2)) (fun _ _ => gEx.none) (fun rec_4 hrec_4 => ?_)
    have hJ_39 : ∀ (v3 : Int32) (v4 : Int32), gEx d gcx_97 sh gri 39 [some (.ref a), some (.int x1), some (.int v3), some (.int v4)] [] m (J_Town_wellsOn_39 rec_4 v3 v4) := by
      intro v3 v4
      unfold J_Town_wellsOn_39
      refine gEx.iinc (ls' := [some (.ref a), some (.int x1), some (.int v3), some (.int (v4 + 1))]) rfl rfl rfl rfl ?_
      refine gEx.goto (tn := 4) rfl rfl rfl ?_
      exact gEx.lab rfl rfl (hrec_4 v3 (v4 + 1))
    intro v1 v2
    refine gEx.iload rfl rfl rfl ?_
    refine gEx.aload rfl rfl rfl ?_
    refine gEx.getR rfl rfl (h0 0 _ rfl) rfl ?_
    refine gEx.getI rfl rfl (h0 17 _ rfl) rfl ?_
    refine gEx.icmp_ge (tn := 45) rfl rfl rfl ?_ ?_
    · refine gEx.aload rfl rfl rfl ?_
      refine gEx.getR rfl rfl (h0 0 _ rfl) rfl ?_
      refine gEx.getR rfl rfl (h0 1 _ rfl) rfl ?_
      refine gEx.aload rfl rfl rfl ?_
      refine gEx.getR rfl rfl (h0 0 _ rfl) rfl ?_
      refine gEx.getR rfl rfl (h0 17 _ rfl) rfl ?_
      refine gEx.iload rfl rfl rfl ?_
      refine gEx.iald rfl rfl (h0 19 _ rfl) ?_
      refine gEx.iald rfl rfl (h0 9 _ rfl) ?_
      refine gEx.iload rfl rfl rfl ?_
      refine gEx.icmp_ne (tn := 39) rfl rfl rfl ?_ ?_
      · refine gEx.iinc (ls' := [some (.ref a), some (.int x1), some (.int (v1 + 1)), some (.int v2)]) rfl rfl rfl rfl ?_
        exact gEx.lab rfl rfl (hJ_39 (v1 + 1) v2)
      · exact gEx.lab rfl rfl (hJ_39 v1 v2)
    · refine gEx.iload rfl rfl rfl ?_
      exact gEx.reti rfl rfl
  exact gEx.lab rfl rfl (hL_4 1000 0 0)
abbrev gcx_99 : gC := glook (gco_99_0)
set_option maxRecDepth 100000 in
set_option maxHeartbeats 4000000 in
theorem t_Town_shareByAcres {d : Nat} (hd : 2 ≤ d) {sh : gH} {a : Nat} {x1 : Int32} {x2 : Int32} (h0 : gHas sh.1 a (gsh_Town a)) {m : gM} : ∀ x, f_Town_shareByAcres a x1 x2 m = some x → gR gmi gdf gcd d 99 [.ref a, .int x1, .int x2] (sh, m) ((gri x).1, (sh, (gri x).2)) := by
  obtain ⟨d, rfl⟩ : ∃ e, d = e + 1 := ⟨d - 1, by omega⟩
  refine gR_of (mx := 5) (code := gcx_99) rfl rfl (Nat.le_of_ble_eq_true rfl) ?_
  have hJ_33 : ∀ (v1 : Int32) (v2 : Int32) (m1 : gM), gEx d gcx_99 sh gri 33 [some (.ref a), some (.int x1), some (.int x2), some (.int v1), none] [.int v2] m1 (J_Town_shareByAcres_33 a x2 v1 v2 m1) := by
    intro v1 v2 m1
    unfold J_Town_shareByAcres_33
    refine gEx.istore (ls' := [some (.ref a), some (.int x1), some (.int x2), some (.int v1), some (.int v2)]) rfl rfl rfl ?_
    refine gEx.iload rfl rfl rfl ?_
    refine gEx.if_gt (tn := 44) rfl rfl rfl ?_ ?_
    · refine gEx.iload rfl rfl rfl ?_
      refine gEx.aload rfl rfl rfl ?_
      refine gEx.getR rfl rfl (h0 0 _ rfl) rfl ?_
      refine gEx.iload rfl rfl rfl ?_
      refine gEx.callVi rfl rfl rfl rfl (h0 1 _ rfl) rfl (fun _ h => (t_Ground_cellsOf (by omega) (gsub_Town_1 h0)) _ h) (fun r1 => ?_)
      refine gEx.imul rfl rfl ?_
      refine gEx.iload rfl rfl rfl ?_
      refine gEx.idiv rfl rfl ?_
      refine gEx.lab (ls' := [some (.ref a), none, none, none, none]) rfl rfl ?_
      exact gEx.reti rfl rfl
    · refine gEx.iconst rfl rfl ?_
      refine gEx.goto (tn := 57) rfl rfl rfl ?_
      refine gEx.lab (ls' := [some (.ref a), none, none, none, none]) rfl rfl ?_
      exact gEx.reti rfl rfl
  show gEx d gcx_99 sh gri 0 [some (.ref a), some (.int x1), some (.int x2), none, none] [] m (f_Town_shareByAcres a x1 x2 m)
  unfold f_Town_shareByAcres
  refine gEx.aload rfl rfl rfl ?_
  refine gEx.getR rfl rfl (h0 0 _ rfl) rfl ?_
  refine gEx.getR rfl rfl (h0 1 _ rfl) rfl ?_
  refine gEx.aload rfl rfl rfl ?_
  refine gEx.getR rfl rfl (h0 0 _ rfl) rfl ?_
  refine gEx.getR rfl rfl (h0 17 _ rfl) rfl ?_
  refine gEx.iload rfl rfl rfl ?_
  refine gEx.iald rfl rfl (h0 19 _ rfl) ?_
  refine gEx.iald rfl rfl (h0 9 _ rfl) ?_
  refine gEx.istoreL (ls' := fun v3 => [some (.ref a), some (.int x1), some (.int x2), some (.int v3), none]) rfl rfl (fun _ => rfl) (fun v3 => ?_)
  refine gEx.iload rfl rfl rfl ?_
  refine gEx.iconst rfl rfl ?_
  refine gEx.icmp_ne (tn := 28) rfl rfl rfl ?_ ?_
  · refine gEx.iconst rfl rfl ?_
    refine gEx.goto (tn := 33) rfl rfl rfl ?_
    exact gEx.lab rfl rfl (hJ_33 v3 0 m)
  · refine gEx.aload rfl rfl rfl ?_
    refine gEx.iload rfl rfl rfl ?_
    refine gEx.callVi rfl rfl rfl rfl (h0 0 _ rfl) rfl (fun _ h => (t_Town_wellsOn (by omega) h0) _ h) (fun r2 => ?_)
    exact gEx.lab rfl rfl (hJ_33 v3 r2.1 r2.2)
abbrev gcx_37 : gC := glook (gco_37_0)
set_option maxRecDepth 100000 in
set_option maxHeartbeats 4000000 in
theorem t_Orders_letOf {d : Nat} (hd : 3 ≤ d) {sh : gH} {a : Nat} {p1 : Nat} {x2 : Int32} {x3 : Int32} (h0 : gHas sh.1 a (gsh_Orders a)) (h1 : gHas sh.1 p1 (gsh_Town p1)) {m : gM} : ∀ x, f_Orders_letOf a p1 x2 x3 m = some x → gR gmi gdf gcd d 37 [.ref a, .ref p1, .int x2, .int x3] (sh, m) ((gri x).1, (sh, (gri x).2)) := by
  obtain ⟨d, rfl⟩ : ∃ e, d = e + 1 := ⟨d - 1, by omega⟩
  refine gR_of (mx := 7) (code := gcx_37) rfl rfl (Nat.le_of_ble_eq_true rfl) ?_
  show gEx d gcx_37 sh gri 0 [some (.ref a), some (.ref p1), some (.int x2), some (.int x3), none, none, none] [] m (f_Orders_letOf a p1 x2 x3 m)
  unfold f_Orders_letOf
  refine gEx.aload rfl rfl rfl ?_
  refine gEx.iconst rfl rfl ?_
  refine gEx.iload rfl rfl rfl ?_
  refine gEx.callVi rfl rfl rfl rfl (h0 0 _ rfl) rfl (fun _ h => (t_Orders_lineIn (by omega) h0) _ h) (fun r1 => ?_)
  refine gEx.iconst rfl rfl ?_
  refine gEx.icmp_eq (tn := 13) rfl rfl rfl ?_ ?_
  · refine gEx.aload rfl rfl rfl ?_
    refine gEx.iconst rfl rfl ?_
    refine gEx.iload rfl rfl rfl ?_
    refine gEx.callVi rfl rfl rfl rfl (h0 0 _ rfl) rfl (fun _ h => (t_Orders_lineIn (by omega) h0) _ h) (fun r2 => ?_)
    refine gEx.istore (ls' := [some (.ref a), some (.ref p1), some (.int x2), some (.int x3), some (.int r2.1), none, none]) rfl rfl rfl ?_
    refine gEx.aload rfl rfl rfl ?_
    refine gEx.iconst rfl rfl ?_
    refine gEx.iload rfl rfl rfl ?_
    refine gEx.callVi rfl rfl rfl rfl (h0 0 _ rfl) rfl (fun _ h => (t_Orders_lineIn (by omega) h0) _ h) (fun r3 => ?_)
    refine gEx.istore (ls' := [some (.ref a), some (.ref p1), some (.int x2), some (.int x3), some (.int r2.1), some (.int r3.1), none]) rfl rfl rfl ?_
    refine gEx.iload rfl rfl rfl ?_
    refine gEx.iconst rfl rfl ?_
    refine gEx.icmp_ne (tn := 56) rfl rfl rfl ?_ ?_
    · refine gEx.iload rfl rfl rfl ?_
      refine gEx.iconst rfl rfl ?_
      refine gEx.icmp_ne (tn := 48) rfl rfl rfl ?_ ?_
      · refine gEx.iconst rfl rfl ?_
        refine gEx.goto (tn := 55) rfl rfl rfl ?_
        refine gEx.lab (ls' := [some (.ref a), none, none, none, none, none, none]) rfl rfl ?_
        exact gEx.reti rfl rfl
      · refine gEx.aload rfl rfl rfl ?_
        refine gEx.getR rfl rfl (h0 0 _ rfl) rfl ?_
        refine gEx.iload rfl rfl rfl ?_
        refine gEx.iald rfl rfl (h0 3 _ rfl) ?_
        refine gEx.lab (ls' := [some (.ref a), none, none, none, none, none, none]) rfl rfl ?_
        exact gEx.reti rfl rfl
    · refine gEx.aload rfl rfl rfl ?_
      refine gEx.iload rfl rfl rfl ?_
      refine gEx.aload rfl rfl rfl ?_
      refine gEx.getR rfl rfl (h0 0 _ rfl) rfl ?_
      refine gEx.iload rfl rfl rfl ?_
      refine gEx.iald rfl rfl (h0 3 _ rfl) ?_
      refine gEx.callVi rfl rfl rfl rfl (h1 0 _ rfl) rfl (fun _ h => (t_Town_shareByAcres (by omega) h1) _ h) (fun r4 => ?_)
      refine gEx.istore (ls' := [some (.ref a), some (.ref p1), some (.int x2), some (.int x3), some (.int r2.1), some (.int r3.1), some (.int r4.1)]) rfl rfl rfl ?_
      refine gEx.iload rfl rfl rfl ?_
      refine gEx.iconst rfl rfl ?_
      refine gEx.icmp_ne (tn := 82) rfl rfl rfl ?_ ?_
      · refine gEx.iload rfl rfl rfl ?_
        refine gEx.goto (tn := 94) rfl rfl rfl ?_
        refine gEx.lab (ls' := [some (.ref a), none, none, none, none, none, none]) rfl rfl ?_
        exact gEx.reti rfl rfl
      · refine gEx.aload rfl rfl rfl ?_
        refine gEx.getR rfl rfl (h0 0 _ rfl) rfl ?_
        refine gEx.iload rfl rfl rfl ?_
        refine gEx.iald rfl rfl (h0 3 _ rfl) ?_
        refine gEx.iload rfl rfl rfl ?_
        refine gEx.mmin rfl rfl rfl ?_
        refine gEx.lab (ls' := [some (.ref a), none, none, none, none, none, none]) rfl rfl ?_
        exact gEx.reti rfl rfl
  · refine gEx.iconst rfl rfl ?_
    exact gEx.reti rfl rfl
abbrev gcx_38 : gC := glook (gco_38_0)
set_option maxRecDepth 100000 in
set_option maxHeartbeats 4000000 in
theorem t_Orders_hotIn {d : Nat} (hd : 4 ≤ d) {sh : gH} {a : Nat} {p1 : Nat} {x2 : Int32} {x3 : Int32} (h0 : gHas sh.1 a (gsh_Orders a)) (h1 : gHas sh.1 p1 (gsh_Town p1)) {m : gM} : ∀ x, f_Orders_hotIn a p1 x2 x3 m = some x → gR gmi gdf gcd d 38 [.ref a, .ref p1, .int x2, .int x3] (sh, m) ((gri x).1, (sh, (gri x).2)) := by
  obtain ⟨d, rfl⟩ : ∃ e, d = e + 1 := ⟨d - 1, by omega⟩
  refine gR_of (mx := 6) (code := gcx_38) rfl rfl (Nat.le_of_ble_eq_true rfl) ?_
  show gEx d gcx_38 sh gri 0 [some (.ref a), some (.ref p1), some (.int x2), some (.int x3), none, none] [] m (f_Orders_hotIn a p1 x2 x3 m)
  unfold f_Orders_hotIn
  refine gEx.aload rfl rfl rfl ?_
  refine gEx.getR rfl rfl (h1 0 _ rfl) rfl ?_
  refine gEx.getR rfl rfl (h1 17 _ rfl) rfl ?_
  refine gEx.iload rfl rfl rfl ?_
  refine gEx.iconst rfl rfl ?_
  refine gEx.imul rfl rfl ?_
  refine gEx.iload rfl rfl rfl ?_
  refine gEx.iadd rfl rfl ?_
  refine gEx.iald rfl rfl (h1 25 _ rfl) ?_
  refine gEx.istoreL (ls' := fun v1 => [some (.ref a), some (.ref p1), some (.int x2), some (.int x3), some (.int v1), none]) rfl rfl (fun _ => rfl) (fun v1 => ?_)
  refine gEx.iload rfl rfl rfl ?_
  refine gEx.if_ne (tn := 23) rfl rfl rfl ?_ ?_
  · refine gEx.iconst rfl rfl ?_
    exact gEx.reti rfl rfl
  · refine gEx.aload rfl rfl rfl ?_
    refine gEx.aload rfl rfl rfl ?_
    refine gEx.iload rfl rfl rfl ?_
    refine gEx.iload rfl rfl rfl ?_
    refine gEx.callVi rfl rfl rfl rfl (h0 0 _ rfl) rfl (fun _ h => (t_Orders_letOf (by omega) h0 h1) _ h) (fun r1 => ?_)
    refine gEx.istore (ls' := [some (.ref a), some (.ref p1), some (.int x2), some (.int x3), some (.int v1), some (.int r1.1)]) rfl rfl rfl ?_
    refine gEx.iload rfl rfl rfl ?_
    refine gEx.iconst rfl rfl ?_
    refine gEx.icmp_ne (tn := 43) rfl rfl rfl ?_ ?_
    · refine gEx.iconst rfl rfl ?_
      refine gEx.goto (tn := 52) rfl rfl rfl ?_
      refine gEx.lab (ls' := [some (.ref a), none, none, none, none, none]) rfl rfl ?_
      exact gEx.reti rfl rfl
    · refine gEx.iconst rfl rfl ?_
      refine gEx.iload rfl rfl rfl ?_
      refine gEx.iload rfl rfl rfl ?_
      refine gEx.isub rfl rfl ?_
      refine gEx.mmax rfl rfl rfl ?_
      refine gEx.lab (ls' := [some (.ref a), none, none, none, none, none]) rfl rfl ?_
      exact gEx.reti rfl rfl
abbrev gcx_39 : gC := glook (gco_39_0)
set_option maxRecDepth 100000 in
set_option maxHeartbeats 4000000 in
theorem t_Orders_hotOfWell {d : Nat} (hd : 5 ≤ d) {sh : gH} {a : Nat} {p1 : Nat} {x2 : Int32} (h0 : gHas sh.1 a (gsh_Orders a)) (h1 : gHas sh.1 p1 (gsh_Town p1)) {m : gM} : ∀ x, f_Orders_hotOfWell a p1 x2 m = some x → gR gmi gdf gcd d 39 [.ref a, .ref p1, .int x2] (sh, m) ((gri x).1, (sh, (gri x).2)) := by
  obtain ⟨d, rfl⟩ : ∃ e, d = e + 1 := ⟨d - 1, by omega⟩
  refine gR_of (mx := 5) (code := gcx_39) rfl rfl (Nat.le_of_ble_eq_true rfl) ?_
  show gEx d gcx_39 sh gri 0 [some (.ref a), some (.ref p1), some (.int x2), none, none] [] m (f_Orders_hotOfWell a p1 x2 m)
  unfold f_Orders_hotOfWell
  refine gEx.iconst rfl rfl ?_
  refine gEx.istore (ls' := [some (.ref a), some (.ref p1), some (.int x2), some (.int 0), none]) rfl rfl rfl ?_
  refine gEx.iconst rfl rfl ?_
  refine gEx.istore (ls' := [some (.ref a), some (.ref p1), some (.int x2), some (.int 0), some (.int 0)]) rfl rfl rfl ?_
  have hL_5 : ∀ (n : Nat) (v1 : Int32) (v2 : Int32) (m1 : gM), gEx d gcx_39 sh gri 5 [some (.ref a), some (.ref p1), some (.int x2), some (.int v1), some (.int v2)] [] m1 (L_Orders_hotOfWell_5 a p1 x2 n v1 v2 m1) := by
    refine gfix_ind (P := fun (f : Int32 → Int32 → gM → Option (Int32 × gM)) => ∀ (v1 : Int32) (v2 : Int32) (m1 : gM), gEx d gcx_39 sh gri 5 [some (.ref a), some (.ref p1), some (.int x2), some (.int v1), some (.int v2)] [] m1 (f v1 v2 m1)) (fun _ _ _ => gEx.none) (fun rec_5 hrec_5 => ?_)
    intro v1 v2 m1
    refine gEx.iload rfl rfl rfl ?_
    refine gEx.iconst rfl rfl ?_
    refine gEx.icmp_ge (tn := 29) rfl rfl rfl ?_ ?_
    · refine gEx.iload rfl rfl rfl ?_
      refine gEx.aload rfl rfl rfl ?_
      refine gEx.aload rfl rfl rfl ?_
      refine gEx.iload rfl rfl rfl ?_
      refine gEx.iload rfl rfl rfl ?_
      refine gEx.callVi rfl rfl rfl rfl (h0 0 _ rfl) rfl (fun _ h => (t_Orders_hotIn (by omega) h0 h1) _ h) (fun r1 => ?_)
      refine gEx.iadd rfl rfl ?_
      refine gEx.istoreL (ls' := fun v3 => [some (.ref a), some (.ref p1), some (.int x2), some (.int v3), some (.int v2)]) rfl rfl (fun _ => rfl) (fun v3 => ?_)
      refine gEx.iinc (ls' := [some (.ref a), some (.ref p1), some (.int x2), some (.int v3), some (.int (v2 + 1))]) rfl rfl rfl rfl ?_
      refine gEx.goto (tn := 5) rfl rfl rfl ?_
      exact gEx.lab rfl rfl (hrec_5 v3 (v2 + 1) r1.2)
    · refine gEx.iload rfl rfl rfl ?_
      exact gEx.reti rfl rfl
  exact gEx.lab rfl rfl (hL_5 1000 0 0 m)
abbrev gcx_40 : gC := glook (gco_40_0)
set_option maxRecDepth 100000 in
set_option maxHeartbeats 4000000 in
theorem t_Orders_hotOfPerson {d : Nat} (hd : 6 ≤ d) {sh : gH} {a : Nat} {p1 : Nat} {x2 : Int32} (h0 : gHas sh.1 a (gsh_Orders a)) (h1 : gHas sh.1 p1 (gsh_Town p1)) {m : gM} : ∀ x, f_Orders_hotOfPerson a p1 x2 m = some x → gR gmi gdf gcd d 40 [.ref a, .ref p1, .int x2] (sh, m) ((gri x).1, (sh, (gri x).2)) := by
  obtain ⟨d, rfl⟩ : ∃ e, d = e + 1 := ⟨d - 1, by omega⟩
  refine gR_of (mx := 5) (code := gcx_40) rfl rfl (Nat.le_of_ble_eq_true rfl) ?_
  show gEx d gcx_40 sh gri 0 [some (.ref a), some (.ref p1), some (.int x2), none, none] [] m (f_Orders_hotOfPerson a p1 x2 m)
  unfold f_Orders_hotOfPerson
  refine gEx.iconst rfl rfl ?_
  refine gEx.istore (ls' := [some (.ref a), some (.ref p1), some (.int x2), some (.int 0), none]) rfl rfl rfl ?_
  refine gEx.iconst rfl rfl ?_
  refine gEx.istore (ls' := [some (.ref a), some (.ref p1), some (.int x2), some (.int 0), some (.int 0)]) rfl rfl rfl ?_
  have hL_5 : ∀ (n : Nat) (v1 : Int32) (v2 : Int32) (m1 : gM), gEx d gcx_40 sh gri 5 [some (.ref a), some (.ref p1), some (.int x2), some (.int v1), some (.int v2)] [] m1 (L_Orders_hotOfPerson_5 a p1 x2 n v1 v2 m1) := by
    refine gfix_ind (P := fun (f : Int32 → Int32 → gM → Option (Int32 × gM)) => ∀ (v1 : Int32) (v2 : Int32) (m1 : gM), gEx d gcx_40 sh gri 5 [some (.ref a), some (.ref p1), some (.int x2), some (.int v1), some (.int v2)] [] m1 (f v1 v2 m1)) (fun _ _ _ => gEx.none) (fun rec_5 hrec_5 => ?_)
    have hJ_41 : ∀ (v3 : Int32) (v4 : Int32) (m2 : gM), gEx d gcx_40 sh gri 41 [some (.ref a), some (.ref p1), some (.int x2), some (.int v3), some (.int v4)] [] m2 (J_Orders_hotOfPerson_41 rec_5 v3 v4 m2) := by
      intro v3 v4 m2
      unfold J_Orders_hotOfPerson_41
      refine gEx.iinc (ls' := [some (.ref a), some (.ref p1), some (.int x2), some (.int v3), some (.int (v4 + 1))]) rfl rfl rfl rfl ?_
      refine gEx.goto (tn := 5) rfl rfl rfl ?_
      exact gEx.lab rfl rfl (hrec_5 v3 (v4 + 1) m2)
    intro v1 v2 m1
    refine gEx.iload rfl rfl rfl ?_
    refine gEx.aload rfl rfl rfl ?_
    refine gEx.getR rfl rfl (h1 0 _ rfl) rfl ?_
    refine gEx.getI rfl rfl (h1 17 _ rfl) rfl ?_
    refine gEx.icmp_ge (tn := 47) rfl rfl rfl ?_ ?_
    · refine gEx.aload rfl rfl rfl ?_
      refine gEx.getR rfl rfl (h1 0 _ rfl) rfl ?_
      refine gEx.getR rfl rfl (h1 17 _ rfl) rfl ?_
      refine gEx.iload rfl rfl rfl ?_
      refine gEx.iald rfl rfl (h1 18 _ rfl) ?_
      refine gEx.iload rfl rfl rfl ?_
      refine gEx.icmp_ne (tn := 41) rfl rfl rfl ?_ ?_
      · refine gEx.iload rfl rfl rfl ?_
        refine gEx.aload rfl rfl rfl ?_
        refine gEx.aload rfl rfl rfl ?_
        refine gEx.iload rfl rfl rfl ?_
        refine gEx.callVi rfl rfl rfl rfl (h0 0 _ rfl) rfl (fun _ h => (t_Orders_hotOfWell (by omega) h0 h1) _ h) (fun r1 => ?_)
        refine gEx.iadd rfl rfl ?_
        refine gEx.istoreL (ls' := fun v5 => [some (.ref a), some (.ref p1), some (.int x2), some (.int v5), some (.int v2)]) rfl rfl (fun _ => rfl) (fun v5 => ?_)
        exact gEx.lab rfl rfl (hJ_41 v5 v2 r1.2)
      · exact gEx.lab rfl rfl (hJ_41 v1 v2 m1)
    · refine gEx.iload rfl rfl rfl ?_
      exact gEx.reti rfl rfl
  exact gEx.lab rfl rfl (hL_5 1000 0 0 m)
abbrev gcx_41 : gC := glook (gco_41_0)
set_option maxRecDepth 100000 in
set_option maxHeartbeats 4000000 in
theorem t_Orders_hotOfAll {d : Nat} (hd : 6 ≤ d) {sh : gH} {a : Nat} {p1 : Nat} (h0 : gHas sh.1 a (gsh_Orders a)) (h1 : gHas sh.1 p1 (gsh_Town p1)) {m : gM} : ∀ x, f_Orders_hotOfAll a p1 m = some x → gR gmi gdf gcd d 41 [.ref a, .ref p1] (sh, m) ((gri x).1, (sh, (gri x).2)) := by
  obtain ⟨d, rfl⟩ : ∃ e, d = e + 1 := ⟨d - 1, by omega⟩
  refine gR_of (mx := 4) (code := gcx_41) rfl rfl (Nat.le_of_ble_eq_true rfl) ?_
  show gEx d gcx_41 sh gri 0 [some (.ref a), some (.ref p1), none, none] [] m (f_Orders_hotOfAll a p1 m)
  unfold f_Orders_hotOfAll
  refine gEx.iconst rfl rfl ?_
  refine gEx.istore (ls' := [some (.ref a), some (.ref p1), some (.int 0), none]) rfl rfl rfl ?_
  refine gEx.iconst rfl rfl ?_
  refine gEx.istore (ls' := [some (.ref a), some (.ref p1), some (.int 0), some (.int 0)]) rfl rfl rfl ?_
  have hL_4 : ∀ (n : Nat) (v1 : Int32) (v2 : Int32) (m1 : gM), gEx d gcx_41 sh gri 4 [some (.ref a), some (.ref p1), some (.int v1), some (.int v2)] [] m1 (L_Orders_hotOfAll_4 a p1 n v1 v2 m1) := by
    refine gfix_ind (P := fun (f : Int32 → Int32 → gM → Option (Int32 × gM)) => ∀ (v1 : Int32) (v2 : Int32) (m1 : gM), gEx d gcx_41 sh gri 4 [some (.ref a), some (.ref p1), some (.int v1), some (.int v2)] [] m1 (f v1 v2 m1)) (fun _ _ _ => gEx.none) (fun rec_4 hrec_4 => ?_)
    intro v1 v2 m1
    refine gEx.iload rfl rfl rfl ?_
    refine gEx.aload rfl rfl rfl ?_
    refine gEx.getR rfl rfl (h1 0 _ rfl) rfl ?_
    refine gEx.getI rfl rfl (h1 17 _ rfl) rfl ?_
    refine gEx.icmp_ge (tn := 30) rfl rfl rfl ?_ ?_
    · refine gEx.iload rfl rfl rfl ?_
      refine gEx.aload rfl rfl rfl ?_
      refine gEx.aload rfl rfl rfl ?_
      refine gEx.iload rfl rfl rfl ?_
      refine gEx.callVi rfl rfl rfl rfl (h0 0 _ rfl) rfl (fun _ h => (t_Orders_hotOfWell (by omega) h0 h1) _ h) (fun r1 => ?_)
      refine gEx.iadd rfl rfl ?_
      refine gEx.istoreL (ls' := fun v3 => [some (.ref a), some (.ref p1), some (.int v3), some (.int v2)]) rfl rfl (fun _ => rfl) (fun v3 => ?_)
      refine gEx.iinc (ls' := [some (.ref a), some (.ref p1), some (.int v3), some (.int (v2 + 1))]) rfl rfl rfl rfl ?_
      refine gEx.goto (tn := 4) rfl rfl rfl ?_
      exact gEx.lab rfl rfl (hrec_4 v3 (v2 + 1) r1.2)
    · refine gEx.iload rfl rfl rfl ?_
      exact gEx.reti rfl rfl
  exact gEx.lab rfl rfl (hL_4 1000 0 0 m)
abbrev gcx_45 : gC := glook (gco_45_0)
set_option maxRecDepth 100000 in
set_option maxHeartbeats 4000000 in
theorem t_Pool_has {d : Nat} (hd : 1 ≤ d) {sh : gH} {a : Nat} {x1 : Int32} (h0 : gHas sh.1 a (gsh_Pool a)) {m : gM} : ∀ x, f_Pool_has a x1 m = some x → gR gmi gdf gcd d 45 [.ref a, .int x1] (sh, m) ((gri x).1, (sh, (gri x).2)) := by
  obtain ⟨d, rfl⟩ : ∃ e, d = e + 1 := ⟨d - 1, by omega⟩
  refine gR_of (mx := 2) (code := gcx_45) rfl rfl (Nat.le_of_ble_eq_true rfl) ?_
  show gEx d gcx_45 sh gri 0 [some (.ref a), some (.int x1)] [] m (f_Pool_has a x1 m)
  unfold f_Pool_has
  refine gEx.iload rfl rfl rfl ?_
  refine gEx.if_lt (tn := 16) rfl rfl rfl ?_ ?_
  · refine gEx.lab (ls' := [some (.ref a), none]) rfl rfl ?_
    refine gEx.iconst rfl rfl ?_
    refine gEx.lab (ls' := [some (.ref a), none]) rfl rfl ?_
    exact gEx.retz0 (by decide) rfl rfl
  · refine gEx.iload rfl rfl rfl ?_
    refine gEx.aload rfl rfl rfl ?_
    refine gEx.getI rfl rfl (h0 0 _ rfl) rfl ?_
    refine gEx.icmp_ge (tn := 16) rfl rfl rfl ?_ ?_
    · refine gEx.iconst rfl rfl ?_
      refine gEx.goto (tn := 17) rfl rfl rfl ?_
      refine gEx.lab (ls' := [some (.ref a), none]) rfl rfl ?_
      exact gEx.retz0 (by decide) rfl rfl
    · refine gEx.lab (ls' := [some (.ref a), none]) rfl rfl ?_
      refine gEx.iconst rfl rfl ?_
      refine gEx.lab (ls' := [some (.ref a), none]) rfl rfl ?_
      exact gEx.retz0 (by decide) rfl rfl
abbrev gcx_50 : gC := glook (gco_50_0)
set_option maxRecDepth 100000 in
set_option maxHeartbeats 4000000 in
theorem t_Pool_barrelsUnder {d : Nat} (hd : 2 ≤ d) {sh : gH} {a : Nat} {x1 : Int32} {x2 : Int32} (h0 : gHas sh.1 a (gsh_Pool a)) {m : gM} : ∀ x, f_Pool_barrelsUnder a x1 x2 m = some x → gR gmi gdf gcd d 50 [.ref a, .int x1, .int x2] (sh, m) ((gri x).1, (sh, (gri x).2)) := by
  obtain ⟨d, rfl⟩ : ∃ e, d = e + 1 := ⟨d - 1, by omega⟩
  refine gR_of (mx := 3) (code := gcx_50) rfl rfl (Nat.le_of_ble_eq_true rfl) ?_
  show gEx d gcx_50 sh gri 0 [some (.ref a), some (.int x1), some (.int x2)] [] m (f_Pool_barrelsUnder a x1 x2 m)
  unfold f_Pool_barrelsUnder
  refine gEx.iload rfl rfl rfl ?_
  refine gEx.aload rfl rfl rfl ?_
  refine gEx.iload rfl rfl rfl ?_
  refine gEx.callVi rfl rfl rfl rfl (h0 0 _ rfl) rfl (fun _ h => (t_Pool_liquid (by omega) h0) _ h) (fun r1 => ?_)
  refine gEx.mmin rfl rfl rfl ?_
  exact gEx.reti rfl rfl
abbrev gcx_51 : gC := glook (gco_51_0)
set_option maxRecDepth 100000 in
set_option maxHeartbeats 4000000 in
theorem t_Pool_oilAmong {d : Nat} (hd : 2 ≤ d) {sh : gH} {a : Nat} {x1 : Int32} {x2 : Int32} (h0 : gHas sh.1 a (gsh_Pool a)) {m : gM} : ∀ x, f_Pool_oilAmong a x1 x2 m = some x → gR gmi gdf gcd d 51 [.ref a, .int x1, .int x2] (sh, m) ((gri x).1, (sh, (gri x).2)) := by
  obtain ⟨d, rfl⟩ : ∃ e, d = e + 1 := ⟨d - 1, by omega⟩
  refine gR_of (mx := 4) (code := gcx_51) rfl rfl (Nat.le_of_ble_eq_true rfl) ?_
  show gEx d gcx_51 sh gri 0 [some (.ref a), some (.int x1), some (.int x2), none] [] m (f_Pool_oilAmong a x1 x2 m)
  unfold f_Pool_oilAmong
  refine gEx.aload rfl rfl rfl ?_
  refine gEx.iload rfl rfl rfl ?_
  refine gEx.callVi rfl rfl rfl rfl (h0 0 _ rfl) rfl (fun _ h => (t_Pool_liquid (by omega) h0) _ h) (fun r1 => ?_)
  refine gEx.istore (ls' := [some (.ref a), some (.int x1), some (.int x2), some (.int r1.1)]) rfl rfl rfl ?_
  refine gEx.iload rfl rfl rfl ?_
  refine gEx.if_gt (tn := 14) rfl rfl rfl ?_ ?_
  · refine gEx.iload rfl rfl rfl ?_
    refine gEx.i2l rfl rfl ?_
    refine gEx.aload rfl rfl rfl ?_
    refine gEx.getR rfl rfl (h0 0 _ rfl) rfl ?_
    refine gEx.iload rfl rfl rfl ?_
    refine gEx.iald rfl rfl (h0 6 _ rfl) ?_
    refine gEx.i2l rfl rfl ?_
    refine gEx.lmul rfl rfl ?_
    refine gEx.iload rfl rfl rfl ?_
    refine gEx.i2l rfl rfl ?_
    refine gEx.ldiv rfl rfl ?_
    refine gEx.l2i rfl rfl ?_
    refine gEx.lab (ls' := [some (.ref a), none, none, none]) rfl rfl ?_
    exact gEx.reti rfl rfl
  · refine gEx.iconst rfl rfl ?_
    refine gEx.goto (tn := 28) rfl rfl rfl ?_
    refine gEx.lab (ls' := [some (.ref a), none, none, none]) rfl rfl ?_
    exact gEx.reti rfl rfl
abbrev gcx_54 : gC := glook (gco_54_0)
set_option maxRecDepth 100000 in
set_option maxHeartbeats 4000000 in
theorem t_Pool_sumOverCells {d : Nat} (hd : 1 ≤ d) {sh : gH} {a : Nat} {p1 : Nat} (h0 : gHas sh.1 a (gsh_Pool a)) (h1 : sh.1 p1 = some (.inl (0, 36))) {m : gM} : ∀ x, f_Pool_sumOverCells a p1 m = some x → gR gmi gdf gcd d 54 [.ref a, .ref p1] (sh, m) ((gri x).1, (sh, (gri x).2)) := by
  obtain ⟨d, rfl⟩ : ∃ e, d = e + 1 := ⟨d - 1, by omega⟩
  refine gR_of (mx := 4) (code := gcx_54) rfl rfl (Nat.le_of_ble_eq_true rfl) ?_
  show gEx d gcx_54 sh gri 0 [some (.ref a), some (.ref p1), none, none] [] m (f_Pool_sumOverCells a p1 m)
  unfold f_Pool_sumOverCells
  refine gEx.iconst rfl rfl ?_
  refine gEx.istore (ls' := [some (.ref a), some (.ref p1), some (.int 0), none]) rfl rfl rfl ?_
  refine gEx.iconst rfl rfl ?_
  refine gEx.istore (ls' := [some (.ref a), some (.ref p1), some (.int 0), some (.int 0)]) rfl rfl rfl ?_
  have hL_4 : ∀ (n : Nat) (v1 : Int32) (v2 : Int32), gEx d gcx_54 sh gri 4 [some (.ref a), some (.ref p1), some (.int v1), some (.int v2)] [] m (L_Pool_sumOverCells_4 a p1 m n v1 v2) := by
    refine gfix_ind (P := fun (f : Int32 → Int32 → Option (Int32 × gM)) => ∀ (v1 : Int32) (v2 : Int32), gEx d gcx_54 sh gri 4 [some (.ref a), some (.ref p1), some (.int v1), some (.int v2)] [] m (f v1 v2)) (fun _ _ => gEx.none) (fun rec_4 hrec_4 => ?_)
    intro v1 v2
    refine gEx.iload rfl rfl rfl ?_
    refine gEx.aload rfl rfl rfl ?_
    refine gEx.getI rfl rfl (h0 0 _ rfl) rfl ?_
    refine gEx.icmp_ge (tn := 24) rfl rfl rfl ?_ ?_
    · refine gEx.iload rfl rfl rfl ?_
      refine gEx.aload rfl rfl rfl ?_
      refine gEx.iload rfl rfl rfl ?_
      refine gEx.iald rfl rfl h1 ?_
      refine gEx.iadd rfl rfl ?_
      refine gEx.istoreL (ls' := fun v3 => [some (.ref a), some (.ref p1), some (.int v3), some (.int v2)]) rfl rfl (fun _ => rfl) (fun v3 => ?_)
      refine gEx.iinc (ls' := [some (.ref a), some (.ref p1), some (.int v3), some (.int (v2 + 1))]) rfl rfl rfl rfl ?_
      refine gEx.goto (tn := 4) rfl rfl rfl ?_
      exact gEx.lab rfl rfl (hrec_4 v3 (v2 + 1))
    · refine gEx.iload rfl rfl rfl ?_
      exact gEx.reti rfl rfl
  exact gEx.lab rfl rfl (hL_4 1000 0 0)
abbrev gcx_52 : gC := glook (gco_52_0)
set_option maxRecDepth 100000 in
set_option maxHeartbeats 4000000 in
theorem t_Pool_allOil {d : Nat} (hd : 2 ≤ d) {sh : gH} {a : Nat} (h0 : gHas sh.1 a (gsh_Pool a)) {m : gM} : ∀ x, f_Pool_allOil a m = some x → gR gmi gdf gcd d 52 [.ref a] (sh, m) ((gri x).1, (sh, (gri x).2)) := by
  obtain ⟨d, rfl⟩ : ∃ e, d = e + 1 := ⟨d - 1, by omega⟩
  refine gR_of (mx := 1) (code := gcx_52) rfl rfl (Nat.le_of_ble_eq_true rfl) ?_
  show gEx d gcx_52 sh gri 0 [some (.ref a)] [] m (f_Pool_allOil a m)
  unfold f_Pool_allOil
  refine gEx.aload rfl rfl rfl ?_
  refine gEx.aload rfl rfl rfl ?_
  refine gEx.getR rfl rfl (h0 0 _ rfl) rfl ?_
  refine gEx.callVi rfl rfl rfl rfl (h0 0 _ rfl) rfl (fun _ h => (t_Pool_sumOverCells (by omega) h0 (h0 6 _ rfl)) _ h) (fun r1 => ?_)
  exact gEx.reti rfl rfl
abbrev gcx_53 : gC := glook (gco_53_0)
set_option maxRecDepth 100000 in
set_option maxHeartbeats 4000000 in
theorem t_Pool_allWater {d : Nat} (hd : 2 ≤ d) {sh : gH} {a : Nat} (h0 : gHas sh.1 a (gsh_Pool a)) {m : gM} : ∀ x, f_Pool_allWater a m = some x → gR gmi gdf gcd d 53 [.ref a] (sh, m) ((gri x).1, (sh, (gri x).2)) := by
  obtain ⟨d, rfl⟩ : ∃ e, d = e + 1 := ⟨d - 1, by omega⟩
  refine gR_of (mx := 1) (code := gcx_53) rfl rfl (Nat.le_of_ble_eq_true rfl) ?_
  show gEx d gcx_53 sh gri 0 [some (.ref a)] [] m (f_Pool_allWater a m)
  unfold f_Pool_allWater
  refine gEx.aload rfl rfl rfl ?_
  refine gEx.aload rfl rfl rfl ?_
  refine gEx.getR rfl rfl (h0 0 _ rfl) rfl ?_
  refine gEx.callVi rfl rfl rfl rfl (h0 0 _ rfl) rfl (fun _ h => (t_Pool_sumOverCells (by omega) h0 (h0 5 _ rfl)) _ h) (fun r1 => ?_)
  exact gEx.reti rfl rfl
abbrev gcx_56 : gC := glook (gco_56_0)
set_option maxRecDepth 100000 in
set_option maxHeartbeats 4000000 in
theorem t_Race_prepare {d : Nat} (hd : 1 ≤ d) {sh : gH} {a : Nat} {x1 : Int32} {x2 : Int32} {x3 : Int32} {x4 : Int32} (h0 : gHas sh.1 a (gsh_Race a)) {m : gM} : ∀ x, f_Race_prepare a x1 x2 x3 x4 m = some x → gR gmi gdf gcd d 56 [.ref a, .int x1, .int x2, .int x3, .int x4] (sh, m) ((grv x).1, (sh, (grv x).2)) := by
  obtain ⟨d, rfl⟩ : ∃ e, d = e + 1 := ⟨d - 1, by omega⟩
  refine gR_of (mx := 5) (code := gcx_56) rfl rfl (Nat.le_of_ble_eq_true rfl) ?_
  show gEx d gcx_56 sh grv 0 [some (.ref a), some (.int x1), some (.int x2), some (.int x3), some (.int x4)] [] m (f_Race_prepare a x1 x2 x3 x4 m)
  unfold f_Race_prepare
  refine gEx.aload rfl rfl rfl ?_
  refine gEx.iload rfl rfl rfl ?_
  refine gEx.putI rfl rfl (h0 0 _ rfl) rfl rfl rfl (fun m1 => ?_)
  refine gEx.aload rfl rfl rfl ?_
  refine gEx.iload rfl rfl rfl ?_
  refine gEx.putI rfl rfl (h0 0 _ rfl) rfl rfl rfl (fun m2 => ?_)
  refine gEx.aload rfl rfl rfl ?_
  refine gEx.iload rfl rfl rfl ?_
  refine gEx.putI rfl rfl (h0 0 _ rfl) rfl rfl rfl (fun m3 => ?_)
  refine gEx.aload rfl rfl rfl ?_
  refine gEx.iload rfl rfl rfl ?_
  refine gEx.putI rfl rfl (h0 0 _ rfl) rfl rfl rfl (fun m4 => ?_)
  exact gEx.retv rfl rfl
abbrev gcx_60 : gC := glook (gco_60_0)
set_option maxRecDepth 100000 in
set_option maxHeartbeats 4000000 in
theorem t_Race_drawFrom {d : Nat} (hd : 3 ≤ d) {sh : gH} {a : Nat} {x1 : Int32} {x2 : Int32} (h0 : gHas sh.1 a (gsh_Race a)) {m : gM} : ∀ x, f_Race_drawFrom a x1 x2 m = some x → gR gmi gdf gcd d 60 [.ref a, .int x1, .int x2] (sh, m) ((gri x).1, (sh, (gri x).2)) := by
  obtain ⟨d, rfl⟩ : ∃ e, d = e + 1 := ⟨d - 1, by omega⟩
  refine gR_of (mx := 5) (code := gcx_60) rfl rfl (Nat.le_of_ble_eq_true rfl) ?_
  show gEx d gcx_60 sh gri 0 [some (.ref a), some (.int x1), some (.int x2), none, none] [] m (f_Race_drawFrom a x1 x2 m)
  unfold f_Race_drawFrom
  refine gEx.aload rfl rfl rfl ?_
  refine gEx.getR rfl rfl (h0 0 _ rfl) rfl ?_
  refine gEx.iload rfl rfl rfl ?_
  refine gEx.iload rfl rfl rfl ?_
  refine gEx.callVi rfl rfl rfl rfl (h0 1 _ rfl) rfl (fun _ h => (t_Pool_barrelsUnder (by omega) (gsub_Race_1 h0)) _ h) (fun r1 => ?_)
  refine gEx.istore (ls' := [some (.ref a), some (.int x1), some (.int x2), some (.int r1.1), none]) rfl rfl rfl ?_
  refine gEx.aload rfl rfl rfl ?_
  refine gEx.getR rfl rfl (h0 0 _ rfl) rfl ?_
  refine gEx.iload rfl rfl rfl ?_
  refine gEx.iload rfl rfl rfl ?_
  refine gEx.callVi rfl rfl rfl rfl (h0 1 _ rfl) rfl (fun _ h => (t_Pool_oilAmong (by omega) (gsub_Race_1 h0)) _ h) (fun r2 => ?_)
  refine gEx.istore (ls' := [some (.ref a), some (.int x1), some (.int x2), some (.int r1.1), some (.int r2.1)]) rfl rfl rfl ?_
  refine gEx.aload rfl rfl rfl ?_
  refine gEx.getR rfl rfl (h0 0 _ rfl) rfl ?_
  refine gEx.getR rfl rfl (h0 1 _ rfl) rfl ?_
  refine gEx.iload rfl rfl rfl ?_
  refine gEx.dup2 rfl rfl ?_
  refine gEx.iald rfl rfl (h0 7 _ rfl) ?_
  refine gEx.iload rfl rfl rfl ?_
  refine gEx.isub rfl rfl ?_
  refine gEx.iast rfl rfl (h0 7 _ rfl) (fun m1 => ?_)
  refine gEx.aload rfl rfl rfl ?_
  refine gEx.getR rfl rfl (h0 0 _ rfl) rfl ?_
  refine gEx.getR rfl rfl (h0 1 _ rfl) rfl ?_
  refine gEx.iload rfl rfl rfl ?_
  refine gEx.dup2 rfl rfl ?_
  refine gEx.iald rfl rfl (h0 6 _ rfl) ?_
  refine gEx.iload rfl rfl rfl ?_
  refine gEx.iload rfl rfl rfl ?_
  refine gEx.isub rfl rfl ?_
  refine gEx.isub rfl rfl ?_
  refine gEx.iast rfl rfl (h0 6 _ rfl) (fun m2 => ?_)
  refine gEx.iload rfl rfl rfl ?_
  exact gEx.reti rfl rfl
abbrev gcx_61 : gC := glook (gco_61_0)
set_option maxRecDepth 100000 in
set_option maxHeartbeats 4000000 in
theorem t_Race_drills {d : Nat} (hd : 1 ≤ d) {sh : gH} {x0 : Int32} {x1 : Int32}  {m : gM} : ∀ x, f_Race_drills x0 x1 m = some x → gR gmi gdf gcd d 61 [.int x0, .int x1] (sh, m) ((gri x).1, (sh, (gri x).2)) := by
  obtain ⟨d, rfl⟩ : ∃ e, d = e + 1 := ⟨d - 1, by omega⟩
  refine gR_of (mx := 2) (code := gcx_61) rfl rfl (Nat.le_of_ble_eq_true rfl) ?_
  show gEx d gcx_61 sh gri 0 [some (.int x0), some (.int x1)] [] m (f_Race_drills x0 x1 m)
  unfold f_Race_drills
  refine gEx.iload rfl rfl rfl ?_
  refine gEx.iload rfl rfl rfl ?_
  refine gEx.ishr rfl rfl ?_
  refine gEx.iconst rfl rfl ?_
  refine gEx.iand rfl rfl ?_
  refine gEx.iconst rfl rfl ?_
  refine gEx.icmp_ne (tn := 13) rfl rfl rfl ?_ ?_
  · refine gEx.iconst rfl rfl ?_
    refine gEx.goto (tn := 14) rfl rfl rfl ?_
    refine gEx.lab (ls' := [some (.int x0), none]) rfl rfl ?_
    exact gEx.retz0 (by decide) rfl rfl
  · refine gEx.iconst rfl rfl ?_
    refine gEx.lab (ls' := [some (.int x0), none]) rfl rfl ?_
    exact gEx.retz0 (by decide) rfl rfl
abbrev gcx_59 : gC := glook (gco_59_0)
set_option maxRecDepth 100000 in
set_option maxHeartbeats 4000000 in
theorem t_Race_drawAll {d : Nat} (hd : 4 ≤ d) {sh : gH} {a : Nat} {p1 : Nat} {p2 : Nat} {x3 : Int32} (h0 : gHas sh.1 a (gsh_Race a)) (h1 : gHas sh.1 p1 (gsh_Wells p1)) (h2 : sh.1 p2 = some (.inl (0, 6))) {m : gM} : ∀ x, f_Race_drawAll a p1 p2 x3 m = some x → gR gmi gdf gcd d 59 [.ref a, .ref p1, .ref p2, .int x3] (sh, m) ((grv x).1, (sh, (grv x).2)) := by
  obtain ⟨d, rfl⟩ : ∃ e, d = e + 1 := ⟨d - 1, by omega⟩
  refine gR_of (mx := 5) (code := gcx_59) rfl rfl (Nat.le_of_ble_eq_true rfl) ?_
  have hJ_61 : ∀ (v1 : Int32) (m1 : gM), gEx d gcx_59 sh grv 61 [some (.ref a), some (.ref p1), some (.ref p2), some (.int x3), some (.int v1)] [] m1 (J_Race_drawAll_61 a p2 x3 v1 m1) := by
    intro v1 m1
    unfold J_Race_drawAll_61
    refine gEx.iconst rfl rfl ?_
    refine gEx.istore (ls' := [some (.ref a), some (.ref p1), some (.ref p2), some (.int x3), some (.int 0)]) rfl rfl rfl ?_
    have hL_64 : ∀ (n : Nat) (v2 : Int32) (m2 : gM), gEx d gcx_59 sh grv 64 [some (.ref a), some (.ref p1), some (.ref p2), some (.int x3), some (.int v2)] [] m2 (L_Race_drawAll_64 a p2 x3 n v2 m2) := by
      refine gfix_ind (P := fun (f : Int32 → gM → Option (gM)) => ∀ (v2 : Int32) (m2 : gM), gEx d gcx_59 sh grv 64 [some (.ref a), some (.ref p1), some (.ref p2), some (.int x3), some (.int v2)] [] m2 (f v2 m2)) (fun _ _ => gEx.none) (fun rec_64 hrec_64 => ?_)
      have hJ_104 : ∀ (v3 : Int32) (m3 : gM), gEx d gcx_59 sh grv 104 [some (.ref a), some (.ref p1), some (.ref p2), some (.int x3), some (.int v3)] [] m3 (J_Race_drawAll_104 rec_64 v3 m3) := by
        intro v3 m3
        unfold J_Race_drawAll_104
        refine gEx.iinc (ls' := [some (.ref a), some (.ref p1), some (.ref p2), some (.int x3), some (.int (v3 + 1))]) rfl rfl rfl rfl ?_
        refine gEx.goto (tn := 64) rfl rfl rfl ?_
        exact gEx.lab rfl rfl (hrec_64 (v3 + 1) m3)
      intro v2 m2
      refine gEx.iload rfl rfl rfl ?_
      refine gEx.aload rfl rfl rfl ?_
      refine gEx.getI rfl rfl (h0 0 _ rfl) rfl ?_
      refine gEx.icmp_ge (tn := 110) rfl rfl rfl ?_ ?_
      · refine gEx.iload rfl rfl rfl ?_
        refine gEx.iload rfl rfl rfl ?_
        refine gEx.callSi rfl rfl rfl rfl rfl (fun _ h => (t_Race_drills (by omega) ) _ h) (fun r1 => ?_)
        refine gEx.if_eq (tn := 104) rfl rfl rfl ?_ ?_
        · exact gEx.lab rfl rfl (hJ_104 v2 r1.2)
        · refine gEx.aload rfl rfl rfl ?_
          refine gEx.getR rfl rfl (h0 0 _ rfl) rfl ?_
          refine gEx.iload rfl rfl rfl ?_
          refine gEx.dup2 rfl rfl ?_
          refine gEx.iald rfl rfl (h0 16 _ rfl) ?_
          refine gEx.aload rfl rfl rfl ?_
          refine gEx.aload rfl rfl rfl ?_
          refine gEx.iload rfl rfl rfl ?_
          refine gEx.iald rfl rfl h2 ?_
          refine gEx.aload rfl rfl rfl ?_
          refine gEx.getI rfl rfl (h0 0 _ rfl) rfl ?_
          refine gEx.callVi rfl rfl rfl rfl (h0 0 _ rfl) rfl (fun _ h => (t_Race_drawFrom (by omega) h0) _ h) (fun r2 => ?_)
          refine gEx.iadd rfl rfl ?_
          refine gEx.iast rfl rfl (h0 16 _ rfl) (fun m4 => ?_)
          exact gEx.lab rfl rfl (hJ_104 v2 m4)
      · exact gEx.retv rfl rfl
    exact gEx.lab rfl rfl (hL_64 1000 0 m1)
  show gEx d gcx_59 sh grv 0 [some (.ref a), some (.ref p1), some (.ref p2), some (.int x3), none] [] m (f_Race_drawAll a p1 p2 x3 m)
  unfold f_Race_drawAll
  refine gEx.iconst rfl rfl ?_
  refine gEx.istore (ls' := [some (.ref a), some (.ref p1), some (.ref p2), some (.int x3), some (.int 0)]) rfl rfl rfl ?_
  have hL_3 : ∀ (n : Nat) (v4 : Int32) (m5 : gM), gEx d gcx_59 sh grv 3 [some (.ref a), some (.ref p1), some (.ref p2), some (.int x3), some (.int v4)] [] m5 (L_Race_drawAll_3 a p1 (fun v4 m5 => J_Race_drawAll_61 a p2 x3 v4 m5) n v4 m5) := by
    refine gfix_ind (P := fun (f : Int32 → gM → Option (gM)) => ∀ (v4 : Int32) (m5 : gM), gEx d gcx_59 sh grv 3 [some (.ref a), some (.ref p1), some (.ref p2), some (.int x3), some (.int v4)] [] m5 (f v4 m5)) (fun _ _ => gEx.none) (fun rec_3 hrec_3 => ?_)
    have hJ_55 : ∀ (v5 : Int32) (m6 : gM), gEx d gcx_59 sh grv 55 [some (.ref a), some (.ref p1), some (.ref p2), some (.int x3), some (.int v5)] [] m6 (J_Race_drawAll_55 rec_3 v5 m6) := by
      intro v5 m6
      unfold J_Race_drawAll_55
      refine gEx.iinc (ls' := [some (.ref a), some (.ref p1), some (.ref p2), some (.int x3), some (.int (v5 + 1))]) rfl rfl rfl rfl ?_
      refine gEx.goto (tn := 3) rfl rfl rfl ?_
      exact gEx.lab rfl rfl (hrec_3 (v5 + 1) m6)
    intro v4 m5
    refine gEx.iload rfl rfl rfl ?_
    refine gEx.aload rfl rfl rfl ?_
    refine gEx.getI rfl rfl (h1 0 _ rfl) rfl ?_
    refine gEx.icmp_ge (tn := 61) rfl rfl rfl ?_ ?_
    · refine gEx.aload rfl rfl rfl ?_
      refine gEx.getR rfl rfl (h1 0 _ rfl) rfl ?_
      refine gEx.iload rfl rfl rfl ?_
      refine gEx.bald rfl rfl (h1 4 _ rfl) ?_
      refine gEx.if_eq (tn := 55) rfl rfl rfl ?_ ?_
      · exact gEx.lab rfl rfl (hJ_55 v4 m5)
      · refine gEx.aload rfl rfl rfl ?_
        refine gEx.getR rfl rfl (h0 0 _ rfl) rfl ?_
        refine gEx.aload rfl rfl rfl ?_
        refine gEx.getR rfl rfl (h1 0 _ rfl) rfl ?_
        refine gEx.iload rfl rfl rfl ?_
        refine gEx.iald rfl rfl (h1 1 _ rfl) ?_
        refine gEx.dup2 rfl rfl ?_
        refine gEx.iald rfl rfl (h0 16 _ rfl) ?_
        refine gEx.aload rfl rfl rfl ?_
        refine gEx.aload rfl rfl rfl ?_
        refine gEx.getR rfl rfl (h1 0 _ rfl) rfl ?_
        refine gEx.iload rfl rfl rfl ?_
        refine gEx.iald rfl rfl (h1 2 _ rfl) ?_
        refine gEx.aload rfl rfl rfl ?_
        refine gEx.getR rfl rfl (h1 0 _ rfl) rfl ?_
        refine gEx.iload rfl rfl rfl ?_
        refine gEx.iald rfl rfl (h1 3 _ rfl) ?_
        refine gEx.callVi rfl rfl rfl rfl (h0 0 _ rfl) rfl (fun _ h => (t_Race_drawFrom (by omega) h0) _ h) (fun r3 => ?_)
        refine gEx.iadd rfl rfl ?_
        refine gEx.iast rfl rfl (h0 16 _ rfl) (fun m7 => ?_)
        exact gEx.lab rfl rfl (hJ_55 v4 m7)
    · exact gEx.lab rfl rfl (hJ_61 v4 m5)
  exact gEx.lab rfl rfl (hL_3 1000 0 m)
abbrev gcx_58 : gC := glook (gco_58_0 ++ (gco_58_1))
set_option maxRecDepth 100000 in
set_option maxHeartbeats 4000000 in
theorem t_Race_run {d : Nat} (hd : 5 ≤ d) {sh : gH} {a : Nat} {p1 : Nat} {p2 : Nat} {x3 : Int32} (h0 : gHas sh.1 a (gsh_Race a)) (h1 : gHas sh.1 p1 (gsh_Town p1)) (h2 : sh.1 p2 = some (.inl (0, 6))) {m : gM} : ∀ x, f_Race_run a p1 p2 x3 m = some x → gR gmi gdf gcd d 58 [.ref a, .ref p1, .ref p2, .int x3] (sh, m) ((grv x).1, (sh, (grv x).2)) := by
  obtain ⟨d, rfl⟩ : ∃ e, d = e + 1 := ⟨d - 1, by omega⟩
  refine gR_of (mx := 5) (code := gcx_58) rfl rfl (Nat.le_of_ble_eq_true rfl) ?_
  have hJ_72 : ∀ (v1 : Int32) (m1 : gM), gEx d gcx_58 sh grv 72 [some (.ref a), some (.ref p1), some (.ref p2), some (.int x3), some (.int v1)] [] m1 (J_Race_run_72 a x3 v1 m1) := by
    intro v1 m1
    unfold J_Race_run_72
    refine gEx.iconst rfl rfl ?_
    refine gEx.istore (ls' := [some (.ref a), some (.ref p1), some (.ref p2), some (.int x3), some (.int 0)]) rfl rfl rfl ?_
    have hL_75 : ∀ (n : Nat) (v2 : Int32) (m2 : gM), gEx d gcx_58 sh grv 75 [some (.ref a), some (.ref p1), some (.ref p2), some (.int x3), some (.int v2)] [] m2 (L_Race_run_75 a x3 n v2 m2) := by
      refine gfix_ind (P := fun (f : Int32 → gM → Option (gM)) => ∀ (v2 : Int32) (m2 : gM), gEx d gcx_58 sh grv 75 [some (.ref a), some (.ref p1), some (.ref p2), some (.int x3), some (.int v2)] [] m2 (f v2 m2)) (fun _ _ => gEx.none) (fun rec_75 hrec_75 => ?_)
      have hJ_118 : ∀ (v3 : Int32) (v4 : Int32) (v5 : Int32) (v6 : Int32) (m3 : gM), gEx d gcx_58 sh grv 118 [some (.ref a), some (.ref p1), some (.ref p2), some (.int x3), some (.int v3)] [.int v6, .int v5, .int v4, .ref (a + 17)] m3 (J_Race_run_118 a rec_75 v3 v4 v5 v6 m3) := by
        intro v3 v4 v5 v6 m3
        unfold J_Race_run_118
        refine gEx.isub rfl rfl ?_
        refine gEx.iast rfl rfl (h0 17 _ rfl) (fun m4 => ?_)
        refine gEx.iinc (ls' := [some (.ref a), some (.ref p1), some (.ref p2), some (.int x3), some (.int (v3 + 1))]) rfl rfl rfl rfl ?_
        refine gEx.goto (tn := 75) rfl rfl rfl ?_
        exact gEx.lab rfl rfl (hrec_75 (v3 + 1) m4)
      intro v2 m2
      refine gEx.iload rfl rfl rfl ?_
      refine gEx.aload rfl rfl rfl ?_
      refine gEx.getI rfl rfl (h0 0 _ rfl) rfl ?_
      refine gEx.icmp_ge (tn := 126) rfl rfl rfl ?_ ?_
      · refine gEx.aload rfl rfl rfl ?_
        refine gEx.getR rfl rfl (h0 0 _ rfl) rfl ?_
        refine gEx.iload rfl rfl rfl ?_
        refine gEx.iconst rfl rfl ?_
        refine gEx.imul rfl rfl ?_
        refine gEx.iload rfl rfl rfl ?_
        refine gEx.iadd rfl rfl ?_
        refine gEx.aload rfl rfl rfl ?_
        refine gEx.getR rfl rfl (h0 0 _ rfl) rfl ?_
        refine gEx.iload rfl rfl rfl ?_
        refine gEx.iald rfl rfl (h0 16 _ rfl) ?_
        refine gEx.iload rfl rfl rfl ?_
        refine gEx.iload rfl rfl rfl ?_
        refine gEx.callSi rfl rfl rfl rfl rfl (fun _ h => (t_Race_drills (by omega) ) _ h) (fun r1 => ?_)
        refine gEx.if_eq (tn := 117) rfl rfl rfl ?_ ?_
        · refine gEx.iconst rfl rfl ?_
          exact gEx.lab rfl rfl (hJ_118 v2 ((x3 * 4) + v2) (grd m2 (a + 16) v2) 0 r1.2)
        · refine gEx.aload rfl rfl rfl ?_
          refine gEx.getI rfl rfl (h0 0 _ rfl) rfl ?_
          refine gEx.goto (tn := 118) rfl rfl rfl ?_
          exact gEx.lab rfl rfl (hJ_118 v2 ((x3 * 4) + v2) (grd m2 (a + 16) v2) (gfd r1.2 a 6) r1.2)
      · exact gEx.retv rfl rfl
    exact gEx.lab rfl rfl (hL_75 1000 0 m1)
  show gEx d gcx_58 sh grv 0 [some (.ref a), some (.ref p1), some (.ref p2), some (.int x3), none] [] m (f_Race_run a p1 p2 x3 m)
  unfold f_Race_run
  refine gEx.aload rfl rfl rfl ?_
  refine gEx.getR rfl rfl (h0 0 _ rfl) rfl ?_
  refine gEx.aload rfl rfl rfl ?_
  refine gEx.getR rfl rfl (h1 0 _ rfl) rfl ?_
  refine gEx.getR rfl rfl (h1 1 _ rfl) rfl ?_
  refine gEx.callVv rfl rfl rfl rfl (h0 1 _ rfl) rfl (fun _ h => (t_Pool_copyFrom (by omega) (gsub_Race_1 h0) (gsub_Town_2 h1)) _ h) (fun r2 => ?_)
  refine gEx.aload rfl rfl rfl ?_
  refine gEx.getR rfl rfl (h0 0 _ rfl) rfl ?_
  refine gEx.iconst rfl rfl ?_
  refine gEx.callSv rfl rfl rfl rfl rfl (fun _ h => (t_fill (by omega) (h0 16 _ rfl)) _ h) (fun r3 => ?_)
  refine gEx.iconst rfl rfl ?_
  refine gEx.istore (ls' := [some (.ref a), some (.ref p1), some (.ref p2), some (.int x3), some (.int 0)]) rfl rfl rfl ?_
  have hL_25 : ∀ (n : Nat) (v7 : Int32) (m5 : gM), gEx d gcx_58 sh grv 25 [some (.ref a), some (.ref p1), some (.ref p2), some (.int x3), some (.int v7)] [] m5 (L_Race_run_25 a p1 p2 x3 (fun v7 m5 => J_Race_run_72 a x3 v7 m5) n v7 m5) := by
    refine gfix_ind (P := fun (f : Int32 → gM → Option (gM)) => ∀ (v7 : Int32) (m5 : gM), gEx d gcx_58 sh grv 25 [some (.ref a), some (.ref p1), some (.ref p2), some (.int x3), some (.int v7)] [] m5 (f v7 m5)) (fun _ _ => gEx.none) (fun rec_25 hrec_25 => ?_)
    intro v7 m5
    refine gEx.iload rfl rfl rfl ?_
    refine gEx.aload rfl rfl rfl ?_
    refine gEx.getI rfl rfl (h0 0 _ rfl) rfl ?_
    refine gEx.icmp_ge (tn := 72) rfl rfl rfl ?_ ?_
    · refine gEx.aload rfl rfl rfl ?_
      refine gEx.aload rfl rfl rfl ?_
      refine gEx.getR rfl rfl (h1 0 _ rfl) rfl ?_
      refine gEx.aload rfl rfl rfl ?_
      refine gEx.iload rfl rfl rfl ?_
      refine gEx.callVv rfl rfl rfl rfl (h0 0 _ rfl) rfl (fun _ h => (t_Race_drawAll (by omega) h0 (gsub_Town_17 h1) h2) _ h) (fun r4 => ?_)
      refine gEx.aload rfl rfl rfl ?_
      refine gEx.getR rfl rfl (h0 0 _ rfl) rfl ?_
      refine gEx.aload rfl rfl rfl ?_
      refine gEx.getR rfl rfl (h0 0 _ rfl) rfl ?_
      refine gEx.callVv rfl rfl rfl rfl (h0 8 _ rfl) rfl (fun _ h => (t_Currents_measure (by omega) (gsub_Race_8 h0) (gsub_Race_1 h0)) _ h) (fun r5 => ?_)
      refine gEx.aload rfl rfl rfl ?_
      refine gEx.getR rfl rfl (h0 0 _ rfl) rfl ?_
      refine gEx.aload rfl rfl rfl ?_
      refine gEx.getR rfl rfl (h0 0 _ rfl) rfl ?_
      refine gEx.callVv rfl rfl rfl rfl (h0 8 _ rfl) rfl (fun _ h => (t_Currents_movePool (by omega) (gsub_Race_8 h0) (gsub_Race_1 h0)) _ h) (fun r6 => ?_)
      refine gEx.iinc (ls' := [some (.ref a), some (.ref p1), some (.ref p2), some (.int x3), some (.int (v7 + 1))]) rfl rfl rfl rfl ?_
      refine gEx.goto (tn := 25) rfl rfl rfl ?_
      exact gEx.lab rfl rfl (hrec_25 (v7 + 1) r6)
    · exact gEx.lab rfl rfl (hJ_72 v7 m5)
  exact gEx.lab rfl rfl (hL_25 1000 0 r3)
abbrev gcx_57 : gC := glook (gco_57_0)
set_option maxRecDepth 100000 in
set_option maxHeartbeats 4000000 in
theorem t_Race_runAll {d : Nat} (hd : 6 ≤ d) {sh : gH} {a : Nat} {p1 : Nat} {p2 : Nat} (h0 : gHas sh.1 a (gsh_Race a)) (h1 : gHas sh.1 p1 (gsh_Town p1)) (h2 : sh.1 p2 = some (.inl (0, 6))) {m : gM} : ∀ x, f_Race_runAll a p1 p2 m = some x → gR gmi gdf gcd d 57 [.ref a, .ref p1, .ref p2] (sh, m) ((grv x).1, (sh, (grv x).2)) := by
  obtain ⟨d, rfl⟩ : ∃ e, d = e + 1 := ⟨d - 1, by omega⟩
  refine gR_of (mx := 4) (code := gcx_57) rfl rfl (Nat.le_of_ble_eq_true rfl) ?_
  show gEx d gcx_57 sh grv 0 [some (.ref a), some (.ref p1), some (.ref p2), none] [] m (f_Race_runAll a p1 p2 m)
  unfold f_Race_runAll
  refine gEx.iconst rfl rfl ?_
  refine gEx.istore (ls' := [some (.ref a), some (.ref p1), some (.ref p2), some (.int 0)]) rfl rfl rfl ?_
  have hL_2 : ∀ (n : Nat) (v1 : Int32) (m1 : gM), gEx d gcx_57 sh grv 2 [some (.ref a), some (.ref p1), some (.ref p2), some (.int v1)] [] m1 (L_Race_runAll_2 a p1 p2 n v1 m1) := by
    refine gfix_ind (P := fun (f : Int32 → gM → Option (gM)) => ∀ (v1 : Int32) (m1 : gM), gEx d gcx_57 sh grv 2 [some (.ref a), some (.ref p1), some (.ref p2), some (.int v1)] [] m1 (f v1 m1)) (fun _ _ => gEx.none) (fun rec_2 hrec_2 => ?_)
    intro v1 m1
    refine gEx.iload rfl rfl rfl ?_
    refine gEx.iconst rfl rfl ?_
    refine gEx.aload rfl rfl rfl ?_
    refine gEx.getI rfl rfl (h0 0 _ rfl) rfl ?_
    refine gEx.ishl rfl rfl ?_
    refine gEx.icmp_ge (tn := 25) rfl rfl rfl ?_ ?_
    · refine gEx.aload rfl rfl rfl ?_
      refine gEx.aload rfl rfl rfl ?_
      refine gEx.aload rfl rfl rfl ?_
      refine gEx.iload rfl rfl rfl ?_
      refine gEx.callVv rfl rfl rfl rfl (h0 0 _ rfl) rfl (fun _ h => (t_Race_run (by omega) h0 h1 h2) _ h) (fun r1 => ?_)
      refine gEx.iinc (ls' := [some (.ref a), some (.ref p1), some (.ref p2), some (.int (v1 + 1))]) rfl rfl rfl rfl ?_
      refine gEx.goto (tn := 2) rfl rfl rfl ?_
      exact gEx.lab rfl rfl (hrec_2 (v1 + 1) r1)
    · exact gEx.retv rfl rfl
  exact gEx.lab rfl rfl (hL_2 1000 0 m)
abbrev gcx_62 : gC := glook (gco_62_0)
set_option maxRecDepth 100000 in
set_option maxHeartbeats 4000000 in
theorem t_Race_gainOf {d : Nat} (hd : 1 ≤ d) {sh : gH} {a : Nat} {x1 : Int32} {x2 : Int32} (h0 : gHas sh.1 a (gsh_Race a)) {m : gM} : ∀ x, f_Race_gainOf a x1 x2 m = some x → gR gmi gdf gcd d 62 [.ref a, .int x1, .int x2] (sh, m) ((gri x).1, (sh, (gri x).2)) := by
  obtain ⟨d, rfl⟩ : ∃ e, d = e + 1 := ⟨d - 1, by omega⟩
  refine gR_of (mx := 3) (code := gcx_62) rfl rfl (Nat.le_of_ble_eq_true rfl) ?_
  show gEx d gcx_62 sh gri 0 [some (.ref a), some (.int x1), some (.int x2)] [] m (f_Race_gainOf a x1 x2 m)
  unfold f_Race_gainOf
  refine gEx.aload rfl rfl rfl ?_
  refine gEx.getR rfl rfl (h0 0 _ rfl) rfl ?_
  refine gEx.iload rfl rfl rfl ?_
  refine gEx.iconst rfl rfl ?_
  refine gEx.imul rfl rfl ?_
  refine gEx.iload rfl rfl rfl ?_
  refine gEx.iadd rfl rfl ?_
  refine gEx.iald rfl rfl (h0 17 _ rfl) ?_
  exact gEx.reti rfl rfl
abbrev gcx_63 : gC := glook (gco_63_0)
set_option maxRecDepth 100000 in
set_option maxHeartbeats 4000000 in
theorem t_Race_sumOf {d : Nat} (hd : 2 ≤ d) {sh : gH} {a : Nat} {x1 : Int32} (h0 : gHas sh.1 a (gsh_Race a)) {m : gM} : ∀ x, f_Race_sumOf a x1 m = some x → gR gmi gdf gcd d 63 [.ref a, .int x1] (sh, m) ((gri x).1, (sh, (gri x).2)) := by
  obtain ⟨d, rfl⟩ : ∃ e, d = e + 1 := ⟨d - 1, by omega⟩
  refine gR_of (mx := 4) (code := gcx_63) rfl rfl (Nat.le_of_ble_eq_true rfl) ?_
  show gEx d gcx_63 sh gri 0 [some (.ref a), some (.int x1), none, none] [] m (f_Race_sumOf a x1 m)
  unfold f_Race_sumOf
  refine gEx.iconst rfl rfl ?_
  refine gEx.istore (ls' := [some (.ref a), some (.int x1), some (.int 0), none]) rfl rfl rfl ?_
  refine gEx.iconst rfl rfl ?_
  refine gEx.istore (ls' := [some (.ref a), some (.int x1), some (.int 0), some (.int 0)]) rfl rfl rfl ?_
  have hL_4 : ∀ (n : Nat) (v1 : Int32) (v2 : Int32) (m1 : gM), gEx d gcx_63 sh gri 4 [some (.ref a), some (.int x1), some (.int v1), some (.int v2)] [] m1 (L_Race_sumOf_4 a x1 n v1 v2 m1) := by
    refine gfix_ind (P := fun (f : Int32 → Int32 → gM → Option (Int32 × gM)) => ∀ (v1 : Int32) (v2 : Int32) (m1 : gM), gEx d gcx_63 sh gri 4 [some (.ref a), some (.int x1), some (.int v1), some (.int v2)] [] m1 (f v1 v2 m1)) (fun _ _ _ => gEx.none) (fun rec_4 hrec_4 => ?_)
    intro v1 v2 m1
    refine gEx.iload rfl rfl rfl ?_
    refine gEx.aload rfl rfl rfl ?_
    refine gEx.getI rfl rfl (h0 0 _ rfl) rfl ?_
    refine gEx.icmp_ge (tn := 27) rfl rfl rfl ?_ ?_
    · refine gEx.iload rfl rfl rfl ?_
      refine gEx.aload rfl rfl rfl ?_
      refine gEx.iload rfl rfl rfl ?_
      refine gEx.iload rfl rfl rfl ?_
      refine gEx.callVi rfl rfl rfl rfl (h0 0 _ rfl) rfl (fun _ h => (t_Race_gainOf (by omega) h0) _ h) (fun r1 => ?_)
      refine gEx.iadd rfl rfl ?_
      refine gEx.istoreL (ls' := fun v3 => [some (.ref a), some (.int x1), some (.int v3), some (.int v2)]) rfl rfl (fun _ => rfl) (fun v3 => ?_)
      refine gEx.iinc (ls' := [some (.ref a), some (.int x1), some (.int v3), some (.int (v2 + 1))]) rfl rfl rfl rfl ?_
      refine gEx.goto (tn := 4) rfl rfl rfl ?_
      exact gEx.lab rfl rfl (hrec_4 v3 (v2 + 1) r1.2)
    · refine gEx.iload rfl rfl rfl ?_
      exact gEx.reti rfl rfl
  exact gEx.lab rfl rfl (hL_4 1000 0 0 m)
abbrev gcx_64 : gC := glook (gco_64_0)
set_option maxRecDepth 100000 in
set_option maxHeartbeats 4000000 in
theorem t_Race_isSteady {d : Nat} (hd : 2 ≤ d) {sh : gH} {a : Nat} {x1 : Int32} (h0 : gHas sh.1 a (gsh_Race a)) {m : gM} : ∀ x, f_Race_isSteady a x1 m = some x → gR gmi gdf gcd d 64 [.ref a, .int x1] (sh, m) ((gri x).1, (sh, (gri x).2)) := by
  obtain ⟨d, rfl⟩ : ∃ e, d = e + 1 := ⟨d - 1, by omega⟩
  refine gR_of (mx := 3) (code := gcx_64) rfl rfl (Nat.le_of_ble_eq_true rfl) ?_
  show gEx d gcx_64 sh gri 0 [some (.ref a), some (.int x1), none] [] m (f_Race_isSteady a x1 m)
  unfold f_Race_isSteady
  refine gEx.iconst rfl rfl ?_
  refine gEx.istore (ls' := [some (.ref a), some (.int x1), some (.int 0)]) rfl rfl rfl ?_
  have hL_2 : ∀ (n : Nat) (v1 : Int32) (m1 : gM), gEx d gcx_64 sh gri 2 [some (.ref a), some (.int x1), some (.int v1)] [] m1 (L_Race_isSteady_2 a x1 n v1 m1) := by
    refine gfix_ind (P := fun (f : Int32 → gM → Option (Int32 × gM)) => ∀ (v1 : Int32) (m1 : gM), gEx d gcx_64 sh gri 2 [some (.ref a), some (.int x1), some (.int v1)] [] m1 (f v1 m1)) (fun _ _ => gEx.none) (fun rec_2 hrec_2 => ?_)
    intro v1 m1
    refine gEx.iload rfl rfl rfl ?_
    refine gEx.aload rfl rfl rfl ?_
    refine gEx.getI rfl rfl (h0 0 _ rfl) rfl ?_
    refine gEx.icmp_ge (tn := 37) rfl rfl rfl ?_ ?_
    · refine gEx.aload rfl rfl rfl ?_
      refine gEx.iload rfl rfl rfl ?_
      refine gEx.iconst rfl rfl ?_
      refine gEx.iload rfl rfl rfl ?_
      refine gEx.ishl rfl rfl ?_
      refine gEx.ixor rfl rfl ?_
      refine gEx.iload rfl rfl rfl ?_
      refine gEx.callVi rfl rfl rfl rfl (h0 0 _ rfl) rfl (fun _ h => (t_Race_gainOf (by omega) h0) _ h) (fun r1 => ?_)
      refine gEx.aload rfl rfl rfl ?_
      refine gEx.iload rfl rfl rfl ?_
      refine gEx.iload rfl rfl rfl ?_
      refine gEx.callVi rfl rfl rfl rfl (h0 0 _ rfl) rfl (fun _ h => (t_Race_gainOf (by omega) h0) _ h) (fun r2 => ?_)
      refine gEx.icmp_le (tn := 31) rfl rfl rfl ?_ ?_
      · refine gEx.iconst rfl rfl ?_
        exact gEx.retz0 (by decide) rfl rfl
      · refine gEx.iinc (ls' := [some (.ref a), some (.int x1), some (.int (v1 + 1))]) rfl rfl rfl rfl ?_
        refine gEx.goto (tn := 2) rfl rfl rfl ?_
        exact gEx.lab rfl rfl (hrec_2 (v1 + 1) r2.2)
    · refine gEx.iconst rfl rfl ?_
      exact gEx.retz0 (by decide) rfl rfl
  exact gEx.lab rfl rfl (hL_2 1000 0 m)
abbrev gcx_65 : gC := glook (gco_65_0)
set_option maxRecDepth 100000 in
set_option maxHeartbeats 4000000 in
theorem t_Race_steadySets {d : Nat} (hd : 3 ≤ d) {sh : gH} {a : Nat} (h0 : gHas sh.1 a (gsh_Race a)) {m : gM} : ∀ x, f_Race_steadySets a m = some x → gR gmi gdf gcd d 65 [.ref a] (sh, m) ((gri x).1, (sh, (gri x).2)) := by
  obtain ⟨d, rfl⟩ : ∃ e, d = e + 1 := ⟨d - 1, by omega⟩
  refine gR_of (mx := 3) (code := gcx_65) rfl rfl (Nat.le_of_ble_eq_true rfl) ?_
  show gEx d gcx_65 sh gri 0 [some (.ref a), none, none] [] m (f_Race_steadySets a m)
  unfold f_Race_steadySets
  refine gEx.iconst rfl rfl ?_
  refine gEx.istore (ls' := [some (.ref a), some (.int 0), none]) rfl rfl rfl ?_
  refine gEx.iconst rfl rfl ?_
  refine gEx.istore (ls' := [some (.ref a), some (.int 0), some (.int 0)]) rfl rfl rfl ?_
  have hL_4 : ∀ (n : Nat) (v1 : Int32) (v2 : Int32) (m1 : gM), gEx d gcx_65 sh gri 4 [some (.ref a), some (.int v1), some (.int v2)] [] m1 (L_Race_steadySets_4 a n v1 v2 m1) := by
    refine gfix_ind (P := fun (f : Int32 → Int32 → gM → Option (Int32 × gM)) => ∀ (v1 : Int32) (v2 : Int32) (m1 : gM), gEx d gcx_65 sh gri 4 [some (.ref a), some (.int v1), some (.int v2)] [] m1 (f v1 v2 m1)) (fun _ _ _ => gEx.none) (fun rec_4 hrec_4 => ?_)
    have hJ_25 : ∀ (v3 : Int32) (v4 : Int32) (m2 : gM), gEx d gcx_65 sh gri 25 [some (.ref a), some (.int v3), some (.int v4)] [] m2 (J_Race_steadySets_25 rec_4 v3 v4 m2) := by
      intro v3 v4 m2
      unfold J_Race_steadySets_25
      refine gEx.iinc (ls' := [some (.ref a), some (.int v3), some (.int (v4 + 1))]) rfl rfl rfl rfl ?_
      refine gEx.goto (tn := 4) rfl rfl rfl ?_
      exact gEx.lab rfl rfl (hrec_4 v3 (v4 + 1) m2)
    intro v1 v2 m1
    refine gEx.iload rfl rfl rfl ?_
    refine gEx.iconst rfl rfl ?_
    refine gEx.aload rfl rfl rfl ?_
    refine gEx.getI rfl rfl (h0 0 _ rfl) rfl ?_
    refine gEx.ishl rfl rfl ?_
    refine gEx.icmp_ge (tn := 31) rfl rfl rfl ?_ ?_
    · refine gEx.aload rfl rfl rfl ?_
      refine gEx.iload rfl rfl rfl ?_
      refine gEx.callVi rfl rfl rfl rfl (h0 0 _ rfl) rfl (fun _ h => (t_Race_isSteady (by omega) h0) _ h) (fun r1 => ?_)
      refine gEx.if_eq (tn := 25) rfl rfl rfl ?_ ?_
      · exact gEx.lab rfl rfl (hJ_25 v1 v2 r1.2)
      · refine gEx.iinc (ls' := [some (.ref a), some (.int (v1 + 1)), some (.int v2)]) rfl rfl rfl rfl ?_
        exact gEx.lab rfl rfl (hJ_25 (v1 + 1) v2 r1.2)
    · refine gEx.iload rfl rfl rfl ?_
      exact gEx.reti rfl rfl
  exact gEx.lab rfl rfl (hL_4 1000 0 0 m)
abbrev gcx_66 : gC := glook (gco_66_0)
set_option maxRecDepth 100000 in
set_option maxHeartbeats 4000000 in
theorem t_Race_leastSteady {d : Nat} (hd : 3 ≤ d) {sh : gH} {a : Nat} (h0 : gHas sh.1 a (gsh_Race a)) {m : gM} : ∀ x, f_Race_leastSteady a m = some x → gR gmi gdf gcd d 66 [.ref a] (sh, m) ((gri x).1, (sh, (gri x).2)) := by
  obtain ⟨d, rfl⟩ : ∃ e, d = e + 1 := ⟨d - 1, by omega⟩
  refine gR_of (mx := 2) (code := gcx_66) rfl rfl (Nat.le_of_ble_eq_true rfl) ?_
  show gEx d gcx_66 sh gri 0 [some (.ref a), none] [] m (f_Race_leastSteady a m)
  unfold f_Race_leastSteady
  refine gEx.iconst rfl rfl ?_
  refine gEx.istore (ls' := [some (.ref a), some (.int 0)]) rfl rfl rfl ?_
  have hL_2 : ∀ (n : Nat) (v1 : Int32) (m1 : gM), gEx d gcx_66 sh gri 2 [some (.ref a), some (.int v1)] [] m1 (L_Race_leastSteady_2 a n v1 m1) := by
    refine gfix_ind (P := fun (f : Int32 → gM → Option (Int32 × gM)) => ∀ (v1 : Int32) (m1 : gM), gEx d gcx_66 sh gri 2 [some (.ref a), some (.int v1)] [] m1 (f v1 m1)) (fun _ _ => gEx.none) (fun rec_2 hrec_2 => ?_)
    intro v1 m1
    refine gEx.iload rfl rfl rfl ?_
    refine gEx.iconst rfl rfl ?_
    refine gEx.aload rfl rfl rfl ?_
    refine gEx.getI rfl rfl (h0 0 _ rfl) rfl ?_
    refine gEx.ishl rfl rfl ?_
    refine gEx.icmp_ge (tn := 28) rfl rfl rfl ?_ ?_
    · refine gEx.aload rfl rfl rfl ?_
      refine gEx.iload rfl rfl rfl ?_
      refine gEx.callVi rfl rfl rfl rfl (h0 0 _ rfl) rfl (fun _ h => (t_Race_isSteady (by omega) h0) _ h) (fun r1 => ?_)
      refine gEx.if_eq (tn := 22) rfl rfl rfl ?_ ?_
      · refine gEx.iinc (ls' := [some (.ref a), some (.int (v1 + 1))]) rfl rfl rfl rfl ?_
        refine gEx.goto (tn := 2) rfl rfl rfl ?_
        exact gEx.lab rfl rfl (hrec_2 (v1 + 1) r1.2)
      · refine gEx.iload rfl rfl rfl ?_
        exact gEx.reti rfl rfl
    · refine gEx.iconst rfl rfl ?_
      exact gEx.reti rfl rfl
  exact gEx.lab rfl rfl (hL_2 1000 0 m)
abbrev gcx_67 : gC := glook (gco_67_0)
set_option maxRecDepth 100000 in
set_option maxHeartbeats 4000000 in
theorem t_Race_richest {d : Nat} (hd : 3 ≤ d) {sh : gH} {a : Nat} {x1 : Int32} (h0 : gHas sh.1 a (gsh_Race a)) {m : gM} : ∀ x, f_Race_richest a x1 m = some x → gR gmi gdf gcd d 67 [.ref a, .int x1] (sh, m) ((gri x).1, (sh, (gri x).2)) := by
  obtain ⟨d, rfl⟩ : ∃ e, d = e + 1 := ⟨d - 1, by omega⟩
  refine gR_of (mx := 4) (code := gcx_67) rfl rfl (Nat.le_of_ble_eq_true rfl) ?_
  show gEx d gcx_67 sh gri 0 [some (.ref a), some (.int x1), none, none] [] m (f_Race_richest a x1 m)
  unfold f_Race_richest
  refine gEx.iconst rfl rfl ?_
  refine gEx.istore (ls' := [some (.ref a), some (.int x1), some (.int (-4)), none]) rfl rfl rfl ?_
  refine gEx.iconst rfl rfl ?_
  refine gEx.istore (ls' := [some (.ref a), some (.int x1), some (.int (-4)), some (.int 0)]) rfl rfl rfl ?_
  have hL_5 : ∀ (n : Nat) (v1 : Int32) (v2 : Int32) (m1 : gM), gEx d gcx_67 sh gri 5 [some (.ref a), some (.int x1), some (.int v1), some (.int v2)] [] m1 (L_Race_richest_5 a x1 n v1 v2 m1) := by
    refine gfix_ind (P := fun (f : Int32 → Int32 → gM → Option (Int32 × gM)) => ∀ (v1 : Int32) (v2 : Int32) (m1 : gM), gEx d gcx_67 sh gri 5 [some (.ref a), some (.int x1), some (.int v1), some (.int v2)] [] m1 (f v1 v2 m1)) (fun _ _ _ => gEx.none) (fun rec_5 hrec_5 => ?_)
    have hJ_48 : ∀ (v3 : Int32) (v4 : Int32) (m2 : gM), gEx d gcx_67 sh gri 48 [some (.ref a), some (.int x1), some (.int v3), some (.int v4)] [] m2 (J_Race_richest_48 rec_5 v3 v4 m2) := by
      intro v3 v4 m2
      unfold J_Race_richest_48
      refine gEx.iinc (ls' := [some (.ref a), some (.int x1), some (.int v3), some (.int (v4 + 1))]) rfl rfl rfl rfl ?_
      refine gEx.goto (tn := 5) rfl rfl rfl ?_
      exact gEx.lab rfl rfl (hrec_5 v3 (v4 + 1) m2)
    have hJ_46 : ∀ (v5 : Int32) (v6 : Int32) (m3 : gM), gEx d gcx_67 sh gri 46 [some (.ref a), some (.int x1), some (.int v5), some (.int v6)] [] m3 (J_Race_richest_46 rec_5 v5 v6 m3) := by
      intro v5 v6 m3
      unfold J_Race_richest_46
      refine gEx.iload rfl rfl rfl ?_
      refine gEx.istore (ls' := [some (.ref a), some (.int x1), some (.int v6), some (.int v6)]) rfl rfl rfl ?_
      exact gEx.lab rfl rfl (hJ_48 v6 v6 m3)
    have hJ_27 : ∀ (v7 : Int32) (v8 : Int32) (m4 : gM), gEx d gcx_67 sh gri 27 [some (.ref a), some (.int x1), some (.int v7), some (.int v8)] [] m4 (J_Race_richest_27 a rec_5 v7 v8 m4) := by
      intro v7 v8 m4
      unfold J_Race_richest_27
      refine gEx.iload rfl rfl rfl ?_
      refine gEx.iconst rfl rfl ?_
      refine gEx.icmp_eq (tn := 46) rfl rfl rfl ?_ ?_
      · exact gEx.lab rfl rfl (hJ_46 v7 v8 m4)
      · refine gEx.aload rfl rfl rfl ?_
        refine gEx.iload rfl rfl rfl ?_
        refine gEx.callVi rfl rfl rfl rfl (h0 0 _ rfl) rfl (fun _ h => (t_Race_sumOf (by omega) h0) _ h) (fun r1 => ?_)
        refine gEx.aload rfl rfl rfl ?_
        refine gEx.iload rfl rfl rfl ?_
        refine gEx.callVi rfl rfl rfl rfl (h0 0 _ rfl) rfl (fun _ h => (t_Race_sumOf (by omega) h0) _ h) (fun r2 => ?_)
        refine gEx.icmp_le (tn := 48) rfl rfl rfl ?_ ?_
        · exact gEx.lab rfl rfl (hJ_46 v7 v8 r2.2)
        · exact gEx.lab rfl rfl (hJ_48 v7 v8 r2.2)
    intro v1 v2 m1
    refine gEx.iload rfl rfl rfl ?_
    refine gEx.iconst rfl rfl ?_
    refine gEx.aload rfl rfl rfl ?_
    refine gEx.getI rfl rfl (h0 0 _ rfl) rfl ?_
    refine gEx.ishl rfl rfl ?_
    refine gEx.icmp_ge (tn := 54) rfl rfl rfl ?_ ?_
    · refine gEx.iload rfl rfl rfl ?_
      refine gEx.if_eq (tn := 27) rfl rfl rfl ?_ ?_
      · exact gEx.lab rfl rfl (hJ_27 v1 v2 m1)
      · refine gEx.aload rfl rfl rfl ?_
        refine gEx.iload rfl rfl rfl ?_
        refine gEx.callVi rfl rfl rfl rfl (h0 0 _ rfl) rfl (fun _ h => (t_Race_isSteady (by omega) h0) _ h) (fun r3 => ?_)
        refine gEx.if_eq (tn := 48) rfl rfl rfl ?_ ?_
        · exact gEx.lab rfl rfl (hJ_48 v1 v2 r3.2)
        · exact gEx.lab rfl rfl (hJ_27 v1 v2 r3.2)
    · refine gEx.iload rfl rfl rfl ?_
      exact gEx.reti rfl rfl
  exact gEx.lab rfl rfl (hL_5 1000 (-4) 0 m)
abbrev gcx_68 : gC := glook (gco_68_0 ++ (gco_68_1))
set_option maxRecDepth 100000 in
set_option maxHeartbeats 4000000 in
theorem t_Race_urgeOf {d : Nat} (hd : 2 ≤ d) {sh : gH} {a : Nat} {x1 : Int32} (h0 : gHas sh.1 a (gsh_Race a)) {m : gM} : ∀ x, f_Race_urgeOf a x1 m = some x → gR gmi gdf gcd d 68 [.ref a, .int x1] (sh, m) ((gri x).1, (sh, (gri x).2)) := by
  obtain ⟨d, rfl⟩ : ∃ e, d = e + 1 := ⟨d - 1, by omega⟩
  refine gR_of (mx := 6) (code := gcx_68) rfl rfl (Nat.le_of_ble_eq_true rfl) ?_
  have hJ_91 : ∀ (v1 : Int32) (v2 : Int32) (v3 : Int32) (m1 : gM), gEx d gcx_68 sh gri 91 [some (.ref a), some (.int x1), some (.int v1), some (.int v2), some (.int v3), none] [] m1 (J_Race_urgeOf_91 v1 v2 v3 m1) := by
    intro v1 v2 v3 m1
    unfold J_Race_urgeOf_91
    refine gEx.iload rfl rfl rfl ?_
    refine gEx.if_eq (tn := 99) rfl rfl rfl ?_ ?_
    · refine gEx.iload rfl rfl rfl ?_
      refine gEx.if_eq (tn := 107) rfl rfl rfl ?_ ?_
      · refine gEx.iconst rfl rfl ?_
        refine gEx.lab (ls' := [some (.ref a), none, none, none, none, none]) rfl rfl ?_
        exact gEx.reti rfl rfl
      · refine gEx.iconst rfl rfl ?_
        refine gEx.goto (tn := 108) rfl rfl rfl ?_
        refine gEx.lab (ls' := [some (.ref a), none, none, none, none, none]) rfl rfl ?_
        exact gEx.reti rfl rfl
    · refine gEx.iconst rfl rfl ?_
      refine gEx.goto (tn := 108) rfl rfl rfl ?_
      refine gEx.lab (ls' := [some (.ref a), none, none, none, none, none]) rfl rfl ?_
      exact gEx.reti rfl rfl
  show gEx d gcx_68 sh gri 0 [some (.ref a), some (.int x1), none, none, none, none] [] m (f_Race_urgeOf a x1 m)
  unfold f_Race_urgeOf
  refine gEx.iconst rfl rfl ?_
  refine gEx.istore (ls' := [some (.ref a), some (.int x1), some (.int 1), none, none, none]) rfl rfl rfl ?_
  refine gEx.iconst rfl rfl ?_
  refine gEx.istore (ls' := [some (.ref a), some (.int x1), some (.int 1), some (.int 0), none, none]) rfl rfl rfl ?_
  refine gEx.iconst rfl rfl ?_
  refine gEx.istore (ls' := [some (.ref a), some (.int x1), some (.int 1), some (.int 0), some (.int 0), none]) rfl rfl rfl ?_
  have hL_7 : ∀ (n : Nat) (v4 : Int32) (v5 : Int32) (v6 : Int32) (m2 : gM), gEx d gcx_68 sh gri 7 [some (.ref a), some (.int x1), some (.int v4), some (.int v5), some (.int v6), none] [] m2 (L_Race_urgeOf_7 a x1 (fun v4 v5 v6 m2 => J_Race_urgeOf_91 v4 v5 v6 m2) n v4 v5 v6 m2) := by
    refine gfix_ind (P := fun (f : Int32 → Int32 → Int32 → gM → Option (Int32 × gM)) => ∀ (v4 : Int32) (v5 : Int32) (v6 : Int32) (m2 : gM), gEx d gcx_68 sh gri 7 [some (.ref a), some (.int x1), some (.int v4), some (.int v5), some (.int v6), none] [] m2 (f v4 v5 v6 m2)) (fun _ _ _ _ => gEx.none) (fun rec_7 hrec_7 => ?_)
    have hJ_85 : ∀ (v7 : Int32) (v8 : Int32) (v9 : Int32) (m3 : gM), gEx d gcx_68 sh gri 85 [some (.ref a), some (.int x1), some (.int v7), some (.int v8), some (.int v9), none] [] m3 (J_Race_urgeOf_85 rec_7 v7 v8 v9 m3) := by
      intro v7 v8 v9 m3
      unfold J_Race_urgeOf_85
      refine gEx.iinc (ls' := [some (.ref a), some (.int x1), some (.int v7), some (.int v8), some (.int (v9 + 1)), none]) rfl rfl rfl rfl ?_
      refine gEx.goto (tn := 7) rfl rfl rfl ?_
      exact gEx.lab rfl rfl (hrec_7 v7 v8 (v9 + 1) m3)
    have hJ_84 : ∀ (v10 : Int32) (v11 : Int32) (v12 : Int32) (v13 : Int32) (m4 : gM), gEx d gcx_68 sh gri 84 [some (.ref a), some (.int x1), some (.int v10), some (.int v11), some (.int v12), none] [.int v13] m4 (J_Race_urgeOf_84 rec_7 v10 v11 v12 v13 m4) := by
      intro v10 v11 v12 v13 m4
      unfold J_Race_urgeOf_84
      refine gEx.istore (ls' := [some (.ref a), some (.int x1), some (.int v10), some (.int v13), some (.int v12), none]) rfl rfl rfl ?_
      exact gEx.lab rfl rfl (hJ_85 v10 v13 v12 m4)
    have hJ_79 : ∀ (v14 : Int32) (v15 : Int32) (v16 : Int32) (m5 : gM), gEx d gcx_68 sh gri 79 [some (.ref a), some (.int x1), some (.int v14), some (.int v15), some (.int v16), none] [] m5 (J_Race_urgeOf_79 rec_7 v14 v15 v16 m5) := by
      intro v14 v15 v16 m5
      unfold J_Race_urgeOf_79
      refine gEx.iconst rfl rfl ?_
      refine gEx.goto (tn := 84) rfl rfl rfl ?_
      exact gEx.lab rfl rfl (hJ_84 v14 v15 v16 1 m5)
    have hJ_69 : ∀ (v17 : Int32) (v18 : Int32) (v19 : Int32) (v20 : Int32) (v21 : Int32) (m6 : gM), gEx d gcx_68 sh gri 69 [some (.ref a), some (.int x1), some (.int v17), some (.int v18), some (.int v19), some (.int v20)] [.int v21] m6 (J_Race_urgeOf_69 rec_7 v17 v18 v19 v20 v21 m6) := by
      intro v17 v18 v19 v20 v21 m6
      unfold J_Race_urgeOf_69
      refine gEx.istore (ls' := [some (.ref a), some (.int x1), some (.int v21), some (.int v18), some (.int v19), some (.int v20)]) rfl rfl rfl ?_
      refine gEx.iload rfl rfl rfl ?_
      refine gEx.if_ne (tn := 79) rfl rfl rfl ?_ ?_
      · refine gEx.iload rfl rfl rfl ?_
        refine gEx.if_le (tn := 83) rfl rfl rfl ?_ ?_
        · exact gEx.lab rfl rfl (hJ_79 v21 v18 v19 m6)
        · refine gEx.iconst rfl rfl ?_
          exact gEx.lab rfl rfl (hJ_84 v21 v18 v19 0 m6)
      · exact gEx.lab rfl rfl (hJ_79 v21 v18 v19 m6)
    have hJ_68 : ∀ (v22 : Int32) (v23 : Int32) (v24 : Int32) (v25 : Int32) (m7 : gM), gEx d gcx_68 sh gri 68 [some (.ref a), some (.int x1), some (.int v22), some (.int v23), some (.int v24), some (.int v25)] [] m7 (J_Race_urgeOf_68 rec_7 v22 v23 v24 v25 m7) := by
      intro v22 v23 v24 v25 m7
      unfold J_Race_urgeOf_68
      refine gEx.iconst rfl rfl ?_
      exact gEx.lab rfl rfl (hJ_69 v22 v23 v24 v25 0 m7)
    intro v4 v5 v6 m2
    refine gEx.iload rfl rfl rfl ?_
    refine gEx.iconst rfl rfl ?_
    refine gEx.aload rfl rfl rfl ?_
    refine gEx.getI rfl rfl (h0 0 _ rfl) rfl ?_
    refine gEx.ishl rfl rfl ?_
    refine gEx.icmp_ge (tn := 91) rfl rfl rfl ?_ ?_
    · refine gEx.iload rfl rfl rfl ?_
      refine gEx.iload rfl rfl rfl ?_
      refine gEx.callSi rfl rfl rfl rfl rfl (fun _ h => (t_Race_drills (by omega) ) _ h) (fun r1 => ?_)
      refine gEx.if_ne (tn := 85) rfl rfl rfl ?_ ?_
      · refine gEx.aload rfl rfl rfl ?_
        refine gEx.iload rfl rfl rfl ?_
        refine gEx.iconst rfl rfl ?_
        refine gEx.iload rfl rfl rfl ?_
        refine gEx.ishl rfl rfl ?_
        refine gEx.ior rfl rfl ?_
        refine gEx.iload rfl rfl rfl ?_
        refine gEx.callVi rfl rfl rfl rfl (h0 0 _ rfl) rfl (fun _ h => (t_Race_gainOf (by omega) h0) _ h) (fun r2 => ?_)
        refine gEx.aload rfl rfl rfl ?_
        refine gEx.iload rfl rfl rfl ?_
        refine gEx.iload rfl rfl rfl ?_
        refine gEx.callVi rfl rfl rfl rfl (h0 0 _ rfl) rfl (fun _ h => (t_Race_gainOf (by omega) h0) _ h) (fun r3 => ?_)
        refine gEx.isub rfl rfl ?_
        refine gEx.istoreL (ls' := fun v26 => [some (.ref a), some (.int x1), some (.int v4), some (.int v5), some (.int v6), some (.int v26)]) rfl rfl (fun _ => rfl) (fun v26 => ?_)
        refine gEx.iload rfl rfl rfl ?_
        refine gEx.if_ge (tn := 55) rfl rfl rfl ?_ ?_
        · refine gEx.iconst rfl rfl ?_
          exact gEx.reti rfl rfl
        · refine gEx.iload rfl rfl rfl ?_
          refine gEx.if_eq (tn := 68) rfl rfl rfl ?_ ?_
          · exact gEx.lab rfl rfl (hJ_68 v4 v5 v6 v26 r3.2)
          · refine gEx.iload rfl rfl rfl ?_
            refine gEx.if_le (tn := 68) rfl rfl rfl ?_ ?_
            · refine gEx.iconst rfl rfl ?_
              refine gEx.goto (tn := 69) rfl rfl rfl ?_
              exact gEx.lab rfl rfl (hJ_69 v4 v5 v6 v26 1 r3.2)
            · exact gEx.lab rfl rfl (hJ_68 v4 v5 v6 v26 r3.2)
      · exact gEx.lab rfl rfl (hJ_85 v4 v5 v6 r1.2)
    · exact gEx.lab rfl rfl (hJ_91 v4 v5 v6 m2)
  exact gEx.lab rfl rfl (hL_7 1000 1 0 0 m)
abbrev gcx_70 : gC := glook (gco_70_0)
set_option maxRecDepth 100000 in
set_option maxHeartbeats 4000000 in
theorem t_Sheet_becomeNew {d : Nat} (hd : 2 ≤ d) {sh : gH} {a : Nat} {x1 : Int32} {x2 : Int32} (h0 : gHas sh.1 a (gsh_Sheet a)) {m : gM} : ∀ x, f_Sheet_becomeNew a x1 x2 m = some x → gR gmi gdf gcd d 70 [.ref a, .int x1, .int x2] (sh, m) ((grv x).1, (sh, (grv x).2)) := by
  obtain ⟨d, rfl⟩ : ∃ e, d = e + 1 := ⟨d - 1, by omega⟩
  refine gR_of (mx := 3) (code := gcx_70) rfl rfl (Nat.le_of_ble_eq_true rfl) ?_
  show gEx d gcx_70 sh grv 0 [some (.ref a), some (.int x1), some (.int x2)] [] m (f_Sheet_becomeNew a x1 x2 m)
  unfold f_Sheet_becomeNew
  refine gEx.aload rfl rfl rfl ?_
  refine gEx.iload rfl rfl rfl ?_
  refine gEx.putI rfl rfl (h0 0 _ rfl) rfl rfl rfl (fun m1 => ?_)
  refine gEx.aload rfl rfl rfl ?_
  refine gEx.iload rfl rfl rfl ?_
  refine gEx.putI rfl rfl (h0 0 _ rfl) rfl rfl rfl (fun m2 => ?_)
  refine gEx.aload rfl rfl rfl ?_
  refine gEx.getR rfl rfl (h0 0 _ rfl) rfl ?_
  refine gEx.iconst rfl rfl ?_
  refine gEx.callSv rfl rfl rfl rfl rfl (fun _ h => (t_fill (by omega) (h0 1 _ rfl)) _ h) (fun r1 => ?_)
  exact gEx.retv rfl rfl
abbrev gcx_71 : gC := glook (gco_71_0)
set_option maxRecDepth 100000 in
set_option maxHeartbeats 4000000 in
theorem t_Sheet_put {d : Nat} (hd : 1 ≤ d) {sh : gH} {a : Nat} {x1 : Int32} {x2 : Int32} (h0 : gHas sh.1 a (gsh_Sheet a)) {m : gM} : ∀ x, f_Sheet_put a x1 x2 m = some x → gR gmi gdf gcd d 71 [.ref a, .int x1, .int x2] (sh, m) ((grv x).1, (sh, (grv x).2)) := by
  obtain ⟨d, rfl⟩ : ∃ e, d = e + 1 := ⟨d - 1, by omega⟩
  refine gR_of (mx := 3) (code := gcx_71) rfl rfl (Nat.le_of_ble_eq_true rfl) ?_
  have hJ_31 : ∀ (v1 : Int32) (v2 : Int32) (m1 : gM), gEx d gcx_71 sh grv 31 [some (.ref a), none, none] [.int v2, .int v1, .ref (a + 1)] m1 (J_Sheet_put_31 a v1 v2 m1) := by
    intro v1 v2 m1
    unfold J_Sheet_put_31
    refine gEx.iast rfl rfl (h0 1 _ rfl) (fun m2 => ?_)
    exact gEx.retv rfl rfl
  show gEx d gcx_71 sh grv 0 [some (.ref a), some (.int x1), some (.int x2)] [] m (f_Sheet_put a x1 x2 m)
  unfold f_Sheet_put
  refine gEx.aload rfl rfl rfl ?_
  refine gEx.getR rfl rfl (h0 0 _ rfl) rfl ?_
  refine gEx.iload rfl rfl rfl ?_
  refine gEx.aload rfl rfl rfl ?_
  refine gEx.getI rfl rfl (h0 0 _ rfl) rfl ?_
  refine gEx.if_ne (tn := 17) rfl rfl rfl ?_ ?_
  · refine gEx.iload rfl rfl rfl ?_
    refine gEx.i2b rfl rfl ?_
    refine gEx.goto (tn := 31) rfl rfl rfl ?_
    exact gEx.lab rfl rfl (hJ_31 x1 (Int8.toInt32 (Int32.toInt8 x2)) m)
  · refine gEx.aload rfl rfl rfl ?_
    refine gEx.getI rfl rfl (h0 0 _ rfl) rfl ?_
    refine gEx.iconst rfl rfl ?_
    refine gEx.icmp_ne (tn := 30) rfl rfl rfl ?_ ?_
    · refine gEx.iload rfl rfl rfl ?_
      refine gEx.i2s rfl rfl ?_
      refine gEx.goto (tn := 31) rfl rfl rfl ?_
      exact gEx.lab rfl rfl (hJ_31 x1 (Int16.toInt32 (Int32.toInt16 x2)) m)
    · refine gEx.iload rfl rfl rfl ?_
      exact gEx.lab rfl rfl (hJ_31 x1 x2 m)
abbrev gcx_72 : gC := glook (gco_72_0)
set_option maxRecDepth 100000 in
set_option maxHeartbeats 4000000 in
theorem t_Sheet_sumOf {d : Nat} (hd : 1 ≤ d) {sh : gH} {a : Nat} {x1 : Int32} {x2 : Int32} (h0 : gHas sh.1 a (gsh_Sheet a)) {m : gM} : ∀ x, f_Sheet_sumOf a x1 x2 m = some x → gR gmi gdf gcd d 72 [.ref a, .int x1, .int x2] (sh, m) ((gri x).1, (sh, (gri x).2)) := by
  obtain ⟨d, rfl⟩ : ∃ e, d = e + 1 := ⟨d - 1, by omega⟩
  refine gR_of (mx := 6) (code := gcx_72) rfl rfl (Nat.le_of_ble_eq_true rfl) ?_
  have hJ_53 : ∀ (v1 : Int32) (v2 : Int32), gEx d gcx_72 sh gri 53 [some (.ref a), some (.int x1), some (.int x2), some (.int v1), some (.int v2), none] [] m (J_Sheet_sumOf_53 m v1 v2) := by
    intro v1 v2
    unfold J_Sheet_sumOf_53
    refine gEx.iconst rfl rfl ?_
    refine gEx.iload rfl rfl rfl ?_
    refine gEx.isub rfl rfl ?_
    exact gEx.reti rfl rfl
  show gEx d gcx_72 sh gri 0 [some (.ref a), some (.int x1), some (.int x2), none, none, none] [] m (f_Sheet_sumOf a x1 x2 m)
  unfold f_Sheet_sumOf
  refine gEx.iconst rfl rfl ?_
  refine gEx.istore (ls' := [some (.ref a), some (.int x1), some (.int x2), some (.int 0), none, none]) rfl rfl rfl ?_
  refine gEx.iconst rfl rfl ?_
  refine gEx.istore (ls' := [some (.ref a), some (.int x1), some (.int x2), some (.int 0), some (.int 0), none]) rfl rfl rfl ?_
  have hL_5 : ∀ (n : Nat) (v3 : Int32) (v4 : Int32), gEx d gcx_72 sh gri 5 [some (.ref a), some (.int x1), some (.int x2), some (.int v3), some (.int v4), none] [] m (L_Sheet_sumOf_5 a x1 x2 m (fun v3 v4 => J_Sheet_sumOf_53 m v3 v4) n v3 v4) := by
    refine gfix_ind (P := fun (f : Int32 → Int32 → Option (Int32 × gM)) => ∀ (v3 : Int32) (v4 : Int32), gEx d gcx_72 sh gri 5 [some (.ref a), some (.int x1), some (.int x2), some (.int v3), some (.int v4), none] [] m (f v3 v4)) (fun _ _ => gEx.none) (fun rec_5 hrec_5 => ?_)
    intro v3 v4
    refine gEx.iload rfl rfl rfl ?_
    refine gEx.iload rfl rfl rfl ?_
    refine gEx.icmp_ge (tn := 70) rfl rfl rfl ?_ ?_
    · refine gEx.iload rfl rfl rfl ?_
      refine gEx.if_lt (tn := 26) rfl rfl rfl ?_ ?_
      · refine gEx.lab (ls' := [some (.ref a), none, none, none, none, none]) rfl rfl ?_
        refine gEx.iconst rfl rfl ?_
        exact gEx.reti rfl rfl
      · refine gEx.iload rfl rfl rfl ?_
        refine gEx.aload rfl rfl rfl ?_
        refine gEx.getI rfl rfl (h0 0 _ rfl) rfl ?_
        refine gEx.iload rfl rfl rfl ?_
        refine gEx.isub rfl rfl ?_
        refine gEx.icmp_lt (tn := 29) rfl rfl rfl ?_ ?_
        · refine gEx.aload rfl rfl rfl ?_
          refine gEx.getR rfl rfl (h0 0 _ rfl) rfl ?_
          refine gEx.iload rfl rfl rfl ?_
          refine gEx.iload rfl rfl rfl ?_
          refine gEx.iadd rfl rfl ?_
          refine gEx.iald rfl rfl (h0 1 _ rfl) ?_
          refine gEx.istoreL (ls' := fun v5 => [some (.ref a), some (.int x1), some (.int x2), some (.int v3), some (.int v4), some (.int v5)]) rfl rfl (fun _ => rfl) (fun v5 => ?_)
          refine gEx.iload rfl rfl rfl ?_
          refine gEx.if_lt (tn := 53) rfl rfl rfl ?_ ?_
          · exact gEx.lab rfl rfl (hJ_53 v3 v4)
          · refine gEx.iload rfl rfl rfl ?_
            refine gEx.iconst rfl rfl ?_
            refine gEx.icmp_le (tn := 59) rfl rfl rfl ?_ ?_
            · exact gEx.lab rfl rfl (hJ_53 v3 v4)
            · refine gEx.iload rfl rfl rfl ?_
              refine gEx.iload rfl rfl rfl ?_
              refine gEx.iadd rfl rfl ?_
              refine gEx.istore (ls' := [some (.ref a), some (.int x1), some (.int x2), some (.int (v3 + v5)), some (.int v4), some (.int v5)]) rfl rfl rfl ?_
              refine gEx.iinc (ls' := [some (.ref a), some (.int x1), some (.int x2), some (.int (v3 + v5)), some (.int (v4 + 1)), some (.int v5)]) rfl rfl rfl rfl ?_
              refine gEx.goto (tn := 5) rfl rfl rfl ?_
              exact gEx.lab rfl rfl (hrec_5 (v3 + v5) (v4 + 1))
        · refine gEx.lab (ls' := [some (.ref a), none, none, none, none, none]) rfl rfl ?_
          refine gEx.iconst rfl rfl ?_
          exact gEx.reti rfl rfl
    · refine gEx.iload rfl rfl rfl ?_
      exact gEx.reti rfl rfl
  exact gEx.lab rfl rfl (hL_5 1000 0 0)
abbrev gcx_74 : gC := glook (gco_74_0)
set_option maxRecDepth 100000 in
set_option maxHeartbeats 4000000 in
theorem t_Tape_add {d : Nat} (hd : 1 ≤ d) {sh : gH} {a : Nat} {y1 : Int64} (h0 : gHas sh.1 a (gsh_Tape a)) {m : gM} : ∀ x, f_Tape_add a y1 m = some x → gR gmi gdf gcd d 74 [.ref a, .long y1] (sh, m) ((gri x).1, (sh, (gri x).2)) := by
  obtain ⟨d, rfl⟩ : ∃ e, d = e + 1 := ⟨d - 1, by omega⟩
  refine gR_of (mx := 4) (code := gcx_74) rfl rfl (Nat.le_of_ble_eq_true rfl) ?_
  have hJ_55 : ∀ (v1 : Int32) (m1 : gM), gEx d gcx_74 sh gri 55 [some (.ref a), some (.long y1), none, some (.int v1)] [] m1 (J_Tape_add_55 a v1 m1) := by
    intro v1 m1
    unfold J_Tape_add_55
    refine gEx.aload rfl rfl rfl ?_
    refine gEx.dupR rfl rfl ?_
    refine gEx.getI rfl rfl (h0 0 _ rfl) rfl ?_
    refine gEx.iconst rfl rfl ?_
    refine gEx.iadd rfl rfl ?_
    refine gEx.putI rfl rfl (h0 0 _ rfl) rfl rfl rfl (fun m2 => ?_)
    refine gEx.aload rfl rfl rfl ?_
    refine gEx.getI rfl rfl (h0 0 _ rfl) rfl ?_
    exact gEx.reti rfl rfl
  show gEx d gcx_74 sh gri 0 [some (.ref a), some (.long y1), none, none] [] m (f_Tape_add a y1 m)
  unfold f_Tape_add
  refine gEx.aload rfl rfl rfl ?_
  refine gEx.getI rfl rfl (h0 0 _ rfl) rfl ?_
  refine gEx.iconst rfl rfl ?_
  refine gEx.iadd rfl rfl ?_
  refine gEx.iconst rfl rfl ?_
  refine gEx.icmp_le (tn := 16) rfl rfl rfl ?_ ?_
  · refine gEx.iconst rfl rfl ?_
    exact gEx.reti rfl rfl
  · refine gEx.iconst rfl rfl ?_
    refine gEx.istore (ls' := [some (.ref a), some (.long y1), none, some (.int 0)]) rfl rfl rfl ?_
    have hL_18 : ∀ (n : Nat) (v2 : Int32) (m3 : gM), gEx d gcx_74 sh gri 18 [some (.ref a), some (.long y1), none, some (.int v2)] [] m3 (L_Tape_add_18 a y1 (fun v2 m3 => J_Tape_add_55 a v2 m3) n v2 m3) := by
      refine gfix_ind (P := fun (f : Int32 → gM → Option (Int32 × gM)) => ∀ (v2 : Int32) (m3 : gM), gEx d gcx_74 sh gri 18 [some (.ref a), some (.long y1), none, some (.int v2)] [] m3 (f v2 m3)) (fun _ _ => gEx.none) (fun rec_18 hrec_18 => ?_)
      intro v2 m3
      refine gEx.iload rfl rfl rfl ?_
      refine gEx.iconst rfl rfl ?_
      refine gEx.icmp_ge (tn := 55) rfl rfl rfl ?_ ?_
      · refine gEx.aload rfl rfl rfl ?_
        refine gEx.getR rfl rfl (h0 0 _ rfl) rfl ?_
        refine gEx.aload rfl rfl rfl ?_
        refine gEx.getI rfl rfl (h0 0 _ rfl) rfl ?_
        refine gEx.iload rfl rfl rfl ?_
        refine gEx.iadd rfl rfl ?_
        refine gEx.lload rfl rfl rfl ?_
        refine gEx.iconst rfl rfl ?_
        refine gEx.iconst rfl rfl ?_
        refine gEx.iload rfl rfl rfl ?_
        refine gEx.imul rfl rfl ?_
        refine gEx.isub rfl rfl ?_
        refine gEx.lushr rfl rfl ?_
        refine gEx.l2i rfl rfl ?_
        refine gEx.iconst rfl rfl ?_
        refine gEx.iand rfl rfl ?_
        refine gEx.iast rfl rfl (h0 1 _ rfl) (fun m4 => ?_)
        refine gEx.iinc (ls' := [some (.ref a), some (.long y1), none, some (.int (v2 + 1))]) rfl rfl rfl rfl ?_
        refine gEx.goto (tn := 18) rfl rfl rfl ?_
        exact gEx.lab rfl rfl (hrec_18 (v2 + 1) m4)
      · exact gEx.lab rfl rfl (hJ_55 v2 m3)
    exact gEx.lab rfl rfl (hL_18 1000 0 m)
abbrev gcx_86 : gC := glook (gco_86_0)
set_option maxRecDepth 100000 in
set_option maxHeartbeats 4000000 in
theorem t_Tape_isLetter {d : Nat} (hd : 1 ≤ d) {sh : gH} {x0 : Int32}  {m : gM} : ∀ x, f_Tape_isLetter x0 m = some x → gR gmi gdf gcd d 86 [.int x0] (sh, m) ((gri x).1, (sh, (gri x).2)) := by
  obtain ⟨d, rfl⟩ : ∃ e, d = e + 1 := ⟨d - 1, by omega⟩
  refine gR_of (mx := 1) (code := gcx_86) rfl rfl (Nat.le_of_ble_eq_true rfl) ?_
  show gEx d gcx_86 sh gri 0 [some (.int x0)] [] m (f_Tape_isLetter x0 m)
  unfold f_Tape_isLetter
  refine gEx.iload rfl rfl rfl ?_
  refine gEx.iconst rfl rfl ?_
  refine gEx.icmp_lt (tn := 16) rfl rfl rfl ?_ ?_
  · refine gEx.lab (ls' := [some (.int x0)]) rfl rfl ?_
    refine gEx.iconst rfl rfl ?_
    refine gEx.lab (ls' := [some (.int x0)]) rfl rfl ?_
    exact gEx.retz0 (by decide) rfl rfl
  · refine gEx.iload rfl rfl rfl ?_
    refine gEx.iconst rfl rfl ?_
    refine gEx.icmp_gt (tn := 16) rfl rfl rfl ?_ ?_
    · refine gEx.lab (ls' := [some (.int x0)]) rfl rfl ?_
      refine gEx.iconst rfl rfl ?_
      refine gEx.lab (ls' := [some (.int x0)]) rfl rfl ?_
      exact gEx.retz0 (by decide) rfl rfl
    · refine gEx.iconst rfl rfl ?_
      refine gEx.goto (tn := 17) rfl rfl rfl ?_
      refine gEx.lab (ls' := [some (.int x0)]) rfl rfl ?_
      exact gEx.retz0 (by decide) rfl rfl
abbrev gcx_85 : gC := glook (gco_85_0)
set_option maxRecDepth 100000 in
set_option maxHeartbeats 4000000 in
theorem t_Tape_nameOf {d : Nat} (hd : 1 ≤ d) {sh : gH} {x0 : Int32}  {m : gM} : ∀ x, f_Tape_nameOf x0 m = some x → gR gmi gdf gcd d 85 [.int x0] (sh, m) ((grs x).1, (sh, (grs x).2)) := by
  obtain ⟨d, rfl⟩ : ∃ e, d = e + 1 := ⟨d - 1, by omega⟩
  refine gR_of (mx := 1) (code := gcx_85) rfl rfl (Nat.le_of_ble_eq_true rfl) ?_
  show gEx d gcx_85 sh grs 0 [some (.int x0)] [] m (f_Tape_nameOf x0 m)
  unfold f_Tape_nameOf
  refine gEx.iload rfl rfl rfl ?_
  refine gEx.sw (dft := 58) (ps := #[(0, 40), (1, 43), (2, 46), (3, 49), (4, 52), (5, 55)]) rfl rfl [(0, some (0, m)), (1, some (1, m)), (2, some (2, m)), (3, some (3, m)), (4, some (4, m)), (5, some (5, m))] (some (6, m)) ⟨rfl, ?_, ⟨rfl, ?_, ⟨rfl, ?_, ⟨rfl, ?_, ⟨rfl, ?_, ⟨rfl, ?_, trivial⟩⟩⟩⟩⟩⟩ ?_
  · show gEx d gcx_85 sh grs 40 _ _ _ _
    refine gEx.ldc rfl rfl ?_
    exact gEx.rets rfl rfl
  · show gEx d gcx_85 sh grs 43 _ _ _ _
    refine gEx.ldc rfl rfl ?_
    exact gEx.rets rfl rfl
  · show gEx d gcx_85 sh grs 46 _ _ _ _
    refine gEx.ldc rfl rfl ?_
    exact gEx.rets rfl rfl
  · show gEx d gcx_85 sh grs 49 _ _ _ _
    refine gEx.ldc rfl rfl ?_
    exact gEx.rets rfl rfl
  · show gEx d gcx_85 sh grs 52 _ _ _ _
    refine gEx.ldc rfl rfl ?_
    exact gEx.rets rfl rfl
  · show gEx d gcx_85 sh grs 55 _ _ _ _
    refine gEx.ldc rfl rfl ?_
    exact gEx.rets rfl rfl
  · show gEx d gcx_85 sh grs 58 _ _ _ _
    refine gEx.ldc rfl rfl ?_
    exact gEx.rets rfl rfl
theorem gnameOf_lt {x : Int32} {m : gM} {r : Nat × gM} (h : f_Tape_nameOf x m = some r) : r.1 < 7 := by
  unfold f_Tape_nameOf at h
  simp only [gswo] at h
  repeat' split at h
  all_goals (cases h; exact Nat.lt_of_lt_of_le (Nat.lt_succ_self _) (Nat.le_of_ble_eq_true rfl))
abbrev gcx_84 : gC := glook (gco_84_0)
set_option maxRecDepth 100000 in
set_option maxHeartbeats 4000000 in
theorem t_Tape_isSpelt {d : Nat} (hd : 5 ≤ d) {sh : gH} {a : Nat} {j1 : Nat} (h0 : gHas sh.1 a (gsh_Tape a)) (hj : j1 < 7) {m : gM} : ∀ x, f_Tape_isSpelt a j1 m = some x → gR gmi gdf gcd d 84 [.ref a, .retAddr j1] (sh, m) ((gri x).1, (sh, (gri x).2)) := by
  obtain ⟨d, rfl⟩ : ∃ e, d = e + 1 := ⟨d - 1, by omega⟩
  refine gR_of (mx := 3) (code := gcx_84) rfl rfl (Nat.le_of_ble_eq_true rfl) ?_
  show gEx d gcx_84 sh gri 0 [some (.ref a), some (.retAddr j1), none] [] m (f_Tape_isSpelt a j1 m)
  unfold f_Tape_isSpelt
  refine gEx.aload rfl rfl rfl ?_
  refine gEx.getI rfl rfl (h0 0 _ rfl) rfl ?_
  refine gEx.aload rfl rfl rfl ?_
  refine gEx.getI rfl rfl (h0 0 _ rfl) rfl ?_
  refine gEx.isub rfl rfl ?_
  refine gEx.aloadS rfl rfl rfl ?_
  refine gEx.slen hj (by omega) rfl rfl rfl ?_
  refine gEx.icmp_eq (tn := 18) rfl rfl rfl ?_ ?_
  · refine gEx.iconst rfl rfl ?_
    refine gEx.istore (ls' := [some (.ref a), some (.retAddr j1), some (.int 0)]) rfl rfl rfl ?_
    have hL_20 : ∀ (n : Nat) (v1 : Int32), gEx d gcx_84 sh gri 20 [some (.ref a), some (.retAddr j1), some (.int v1)] [] m (L_Tape_isSpelt_20 a j1 m n v1) := by
      refine gfix_ind (P := fun (f : Int32 → Option (Int32 × gM)) => ∀ (v1 : Int32), gEx d gcx_84 sh gri 20 [some (.ref a), some (.retAddr j1), some (.int v1)] [] m (f v1)) (fun _ => gEx.none) (fun rec_20 hrec_20 => ?_)
      intro v1
      refine gEx.iload rfl rfl rfl ?_
      refine gEx.aloadS rfl rfl rfl ?_
      refine gEx.slen hj (by omega) rfl rfl rfl ?_
      refine gEx.icmp_ge (tn := 55) rfl rfl rfl ?_ ?_
      · refine gEx.aload rfl rfl rfl ?_
        refine gEx.getR rfl rfl (h0 0 _ rfl) rfl ?_
        refine gEx.aload rfl rfl rfl ?_
        refine gEx.getI rfl rfl (h0 0 _ rfl) rfl ?_
        refine gEx.iload rfl rfl rfl ?_
        refine gEx.iadd rfl rfl ?_
        refine gEx.iald rfl rfl (h0 1 _ rfl) ?_
        refine gEx.aloadS rfl rfl rfl ?_
        refine gEx.iload rfl rfl rfl ?_
        refine gEx.schr hj (by omega) rfl rfl rfl ?_
        refine gEx.icmp_eq (tn := 49) rfl rfl rfl ?_ ?_
        · refine gEx.iinc (ls' := [some (.ref a), some (.retAddr j1), some (.int (v1 + 1))]) rfl rfl rfl rfl ?_
          refine gEx.goto (tn := 20) rfl rfl rfl ?_
          exact gEx.lab rfl rfl (hrec_20 (v1 + 1))
        · refine gEx.iconst rfl rfl ?_
          exact gEx.retz0 (by decide) rfl rfl
      · refine gEx.iconst rfl rfl ?_
        exact gEx.retz0 (by decide) rfl rfl
    exact gEx.lab rfl rfl (hL_20 1000 0)
  · refine gEx.iconst rfl rfl ?_
    exact gEx.retz0 (by decide) rfl rfl
abbrev gcx_80 : gC := glook (gco_80_0)
set_option maxRecDepth 100000 in
set_option maxHeartbeats 4000000 in
theorem t_Tape_fail {d : Nat} (hd : 1 ≤ d) {sh : gH} {a : Nat} {x1 : Int32} (h0 : gHas sh.1 a (gsh_Tape a)) {m : gM} : ∀ x, f_Tape_fail a x1 m = some x → gR gmi gdf gcd d 80 [.ref a, .int x1] (sh, m) ((grv x).1, (sh, (grv x).2)) := by
  obtain ⟨d, rfl⟩ : ∃ e, d = e + 1 := ⟨d - 1, by omega⟩
  refine gR_of (mx := 2) (code := gcx_80) rfl rfl (Nat.le_of_ble_eq_true rfl) ?_
  show gEx d gcx_80 sh grv 0 [some (.ref a), some (.int x1)] [] m (f_Tape_fail a x1 m)
  unfold f_Tape_fail
  refine gEx.aload rfl rfl rfl ?_
  refine gEx.getI rfl rfl (h0 0 _ rfl) rfl ?_
  refine gEx.if_ne (tn := 20) rfl rfl rfl ?_ ?_
  · refine gEx.aload rfl rfl rfl ?_
    refine gEx.iload rfl rfl rfl ?_
    refine gEx.putI rfl rfl (h0 0 _ rfl) rfl rfl rfl (fun m1 => ?_)
    refine gEx.aload rfl rfl rfl ?_
    refine gEx.aload rfl rfl rfl ?_
    refine gEx.getI rfl rfl (h0 0 _ rfl) rfl ?_
    refine gEx.putI rfl rfl (h0 0 _ rfl) rfl rfl rfl (fun m2 => ?_)
    refine gEx.lab (ls' := [some (.ref a), none]) rfl rfl ?_
    exact gEx.retv rfl rfl
  · refine gEx.lab (ls' := [some (.ref a), none]) rfl rfl ?_
    exact gEx.retv rfl rfl
abbrev gcx_82 : gC := glook (gco_82_0)
set_option maxRecDepth 100000 in
set_option maxHeartbeats 4000000 in
theorem t_Tape_readName {d : Nat} (hd : 6 ≤ d) {sh : gH} {a : Nat} (h0 : gHas sh.1 a (gsh_Tape a)) {m : gM} : ∀ x, f_Tape_readName a m = some x → gR gmi gdf gcd d 82 [.ref a] (sh, m) ((grv x).1, (sh, (grv x).2)) := by
  obtain ⟨d, rfl⟩ : ∃ e, d = e + 1 := ⟨d - 1, by omega⟩
  refine gR_of (mx := 2) (code := gcx_82) rfl rfl (Nat.le_of_ble_eq_true rfl) ?_
  have hJ_70 : ∀ (v1 : Int32) (m1 : gM), gEx d gcx_82 sh grv 70 [some (.ref a), some (.int v1)] [] m1 (J_Tape_readName_70 a v1 m1) := by
    intro v1 m1
    unfold J_Tape_readName_70
    refine gEx.aload rfl rfl rfl ?_
    refine gEx.iconst rfl rfl ?_
    refine gEx.callVv rfl rfl rfl rfl (h0 0 _ rfl) rfl (fun _ h => (t_Tape_fail (by omega) h0) _ h) (fun r1 => ?_)
    exact gEx.retv rfl rfl
  have hJ_58 : ∀ (v2 : Int32) (m2 : gM), gEx d gcx_82 sh grv 58 [some (.ref a), some (.int v2)] [] m2 (J_Tape_readName_58 a v2 m2) := by
    intro v2 m2
    unfold J_Tape_readName_58
    refine gEx.aload rfl rfl rfl ?_
    refine gEx.iload rfl rfl rfl ?_
    refine gEx.putI rfl rfl (h0 0 _ rfl) rfl rfl rfl (fun m3 => ?_)
    exact gEx.retv rfl rfl
  have hJ_39 : ∀ (m4 : gM), gEx d gcx_82 sh grv 39 [some (.ref a), none] [] m4 (J_Tape_readName_39 a m4) := by
    intro m4
    unfold J_Tape_readName_39
    refine gEx.iconst rfl rfl ?_
    refine gEx.istore (ls' := [some (.ref a), some (.int 0)]) rfl rfl rfl ?_
    have hL_41 : ∀ (n : Nat) (v3 : Int32) (m5 : gM), gEx d gcx_82 sh grv 41 [some (.ref a), some (.int v3)] [] m5 (L_Tape_readName_41 a (fun v3 m5 => J_Tape_readName_70 a v3 m5) n v3 m5) := by
      refine gfix_ind (P := fun (f : Int32 → gM → Option (gM)) => ∀ (v3 : Int32) (m5 : gM), gEx d gcx_82 sh grv 41 [some (.ref a), some (.int v3)] [] m5 (f v3 m5)) (fun _ _ => gEx.none) (fun rec_41 hrec_41 => ?_)
      intro v3 m5
      refine gEx.iload rfl rfl rfl ?_
      refine gEx.iconst rfl rfl ?_
      refine gEx.icmp_gt (tn := 70) rfl rfl rfl ?_ ?_
      · exact gEx.lab rfl rfl (hJ_70 v3 m5)
      · refine gEx.aload rfl rfl rfl ?_
        refine gEx.iload rfl rfl rfl ?_
        refine gEx.callSs rfl rfl rfl rfl rfl (fun _ h => (t_Tape_nameOf (by omega) ) _ h) (fun r2 hr2 => ?_)
        have hjs := gnameOf_lt hr2
        refine gEx.callVi rfl rfl rfl rfl (h0 0 _ rfl) rfl (fun _ h => (t_Tape_isSpelt (by omega) h0 hjs) _ h) (fun r3 => ?_)
        refine gEx.if_eq (tn := 64) rfl rfl rfl ?_ ?_
        · refine gEx.iinc (ls' := [some (.ref a), some (.int (v3 + 1))]) rfl rfl rfl rfl ?_
          refine gEx.goto (tn := 41) rfl rfl rfl ?_
          exact gEx.lab rfl rfl (hrec_41 (v3 + 1) r3.2)
        · exact gEx.lab rfl rfl (hJ_58 v3 r3.2)
    exact gEx.lab rfl rfl (hL_41 1000 0 m4)
  show gEx d gcx_82 sh grv 0 [some (.ref a), none] [] m (f_Tape_readName a m)
  unfold f_Tape_readName
  have hL_0 : ∀ (n : Nat) (m6 : gM), gEx d gcx_82 sh grv 0 [some (.ref a), none] [] m6 (L_Tape_readName_0 a (fun m6 => J_Tape_readName_39 a m6) n m6) := by
    refine gfix_ind (P := fun (f : gM → Option (gM)) => ∀ (m6 : gM), gEx d gcx_82 sh grv 0 [some (.ref a), none] [] m6 (f m6)) (fun _ => gEx.none) (fun rec_0 hrec_0 => ?_)
    intro m6
    refine gEx.aload rfl rfl rfl ?_
    refine gEx.getI rfl rfl (h0 0 _ rfl) rfl ?_
    refine gEx.aload rfl rfl rfl ?_
    refine gEx.getI rfl rfl (h0 0 _ rfl) rfl ?_
    refine gEx.icmp_ge (tn := 39) rfl rfl rfl ?_ ?_
    · refine gEx.aload rfl rfl rfl ?_
      refine gEx.getR rfl rfl (h0 0 _ rfl) rfl ?_
      refine gEx.aload rfl rfl rfl ?_
      refine gEx.getI rfl rfl (h0 0 _ rfl) rfl ?_
      refine gEx.iald rfl rfl (h0 1 _ rfl) ?_
      refine gEx.callSi rfl rfl rfl rfl rfl (fun _ h => (t_Tape_isLetter (by omega) ) _ h) (fun r4 => ?_)
      refine gEx.if_eq (tn := 39) rfl rfl rfl ?_ ?_
      · exact gEx.lab rfl rfl (hJ_39 r4.2)
      · refine gEx.aload rfl rfl rfl ?_
        refine gEx.dupR rfl rfl ?_
        refine gEx.getI rfl rfl (h0 0 _ rfl) rfl ?_
        refine gEx.iconst rfl rfl ?_
        refine gEx.iadd rfl rfl ?_
        refine gEx.putI rfl rfl (h0 0 _ rfl) rfl rfl rfl (fun m7 => ?_)
        refine gEx.goto (tn := 0) rfl rfl rfl ?_
        exact gEx.lab rfl rfl (hrec_0 m7)
    · exact gEx.lab rfl rfl (hJ_39 m6)
  exact gEx.lab rfl rfl (hL_0 1000 m)
abbrev gcx_87 : gC := glook (gco_87_0)
set_option maxRecDepth 100000 in
set_option maxHeartbeats 4000000 in
theorem t_Tape_isFigure {d : Nat} (hd : 1 ≤ d) {sh : gH} {x0 : Int32}  {m : gM} : ∀ x, f_Tape_isFigure x0 m = some x → gR gmi gdf gcd d 87 [.int x0] (sh, m) ((gri x).1, (sh, (gri x).2)) := by
  obtain ⟨d, rfl⟩ : ∃ e, d = e + 1 := ⟨d - 1, by omega⟩
  refine gR_of (mx := 1) (code := gcx_87) rfl rfl (Nat.le_of_ble_eq_true rfl) ?_
  show gEx d gcx_87 sh gri 0 [some (.int x0)] [] m (f_Tape_isFigure x0 m)
  unfold f_Tape_isFigure
  refine gEx.iload rfl rfl rfl ?_
  refine gEx.iconst rfl rfl ?_
  refine gEx.icmp_lt (tn := 16) rfl rfl rfl ?_ ?_
  · refine gEx.lab (ls' := [some (.int x0)]) rfl rfl ?_
    refine gEx.iconst rfl rfl ?_
    refine gEx.lab (ls' := [some (.int x0)]) rfl rfl ?_
    exact gEx.retz0 (by decide) rfl rfl
  · refine gEx.iload rfl rfl rfl ?_
    refine gEx.iconst rfl rfl ?_
    refine gEx.icmp_gt (tn := 16) rfl rfl rfl ?_ ?_
    · refine gEx.lab (ls' := [some (.int x0)]) rfl rfl ?_
      refine gEx.iconst rfl rfl ?_
      refine gEx.lab (ls' := [some (.int x0)]) rfl rfl ?_
      exact gEx.retz0 (by decide) rfl rfl
    · refine gEx.iconst rfl rfl ?_
      refine gEx.goto (tn := 17) rfl rfl rfl ?_
      refine gEx.lab (ls' := [some (.int x0)]) rfl rfl ?_
      exact gEx.retz0 (by decide) rfl rfl
abbrev gcx_83 : gC := glook (gco_83_0)
set_option maxRecDepth 100000 in
set_option maxHeartbeats 4000000 in
theorem t_Tape_readFigures {d : Nat} (hd : 2 ≤ d) {sh : gH} {a : Nat} (h0 : gHas sh.1 a (gsh_Tape a)) {m : gM} : ∀ x, f_Tape_readFigures a m = some x → gR gmi gdf gcd d 83 [.ref a] (sh, m) ((grv x).1, (sh, (grv x).2)) := by
  obtain ⟨d, rfl⟩ : ∃ e, d = e + 1 := ⟨d - 1, by omega⟩
  refine gR_of (mx := 1) (code := gcx_83) rfl rfl (Nat.le_of_ble_eq_true rfl) ?_
  have hJ_76 : ∀ (m1 : gM), gEx d gcx_83 sh grv 76 [some (.ref a)] [] m1 (J_Tape_readFigures_76 a m1) := by
    intro m1
    unfold J_Tape_readFigures_76
    refine gEx.aload rfl rfl rfl ?_
    refine gEx.iconst rfl rfl ?_
    refine gEx.putI rfl rfl (h0 0 _ rfl) rfl rfl rfl (fun m2 => ?_)
    refine gEx.aload rfl rfl rfl ?_
    refine gEx.getI rfl rfl (h0 0 _ rfl) rfl ?_
    refine gEx.aload rfl rfl rfl ?_
    refine gEx.getI rfl rfl (h0 0 _ rfl) rfl ?_
    refine gEx.isub rfl rfl ?_
    refine gEx.iconst rfl rfl ?_
    refine gEx.icmp_le (tn := 100) rfl rfl rfl ?_ ?_
    · refine gEx.aload rfl rfl rfl ?_
      refine gEx.iconst rfl rfl ?_
      refine gEx.callVv rfl rfl rfl rfl (h0 0 _ rfl) rfl (fun _ h => (t_Tape_fail (by omega) h0) _ h) (fun r1 => ?_)
      refine gEx.lab (ls' := [some (.ref a)]) rfl rfl ?_
      exact gEx.retv rfl rfl
    · refine gEx.lab (ls' := [some (.ref a)]) rfl rfl ?_
      exact gEx.retv rfl rfl
  show gEx d gcx_83 sh grv 0 [some (.ref a)] [] m (f_Tape_readFigures a m)
  unfold f_Tape_readFigures
  have hL_0 : ∀ (n : Nat) (m3 : gM), gEx d gcx_83 sh grv 0 [some (.ref a)] [] m3 (L_Tape_readFigures_0 a (fun m3 => J_Tape_readFigures_76 a m3) n m3) := by
    refine gfix_ind (P := fun (f : gM → Option (gM)) => ∀ (m3 : gM), gEx d gcx_83 sh grv 0 [some (.ref a)] [] m3 (f m3)) (fun _ => gEx.none) (fun rec_0 hrec_0 => ?_)
    have hJ_63 : ∀ (m4 : gM), gEx d gcx_83 sh grv 63 [some (.ref a)] [] m4 (J_Tape_readFigures_63 a rec_0 m4) := by
      intro m4
      unfold J_Tape_readFigures_63
      refine gEx.aload rfl rfl rfl ?_
      refine gEx.dupR rfl rfl ?_
      refine gEx.getI rfl rfl (h0 0 _ rfl) rfl ?_
      refine gEx.iconst rfl rfl ?_
      refine gEx.iadd rfl rfl ?_
      refine gEx.putI rfl rfl (h0 0 _ rfl) rfl rfl rfl (fun m5 => ?_)
      refine gEx.goto (tn := 0) rfl rfl rfl ?_
      exact gEx.lab rfl rfl (hrec_0 m5)
    intro m3
    refine gEx.aload rfl rfl rfl ?_
    refine gEx.getI rfl rfl (h0 0 _ rfl) rfl ?_
    refine gEx.aload rfl rfl rfl ?_
    refine gEx.getI rfl rfl (h0 0 _ rfl) rfl ?_
    refine gEx.icmp_ge (tn := 76) rfl rfl rfl ?_ ?_
    · refine gEx.aload rfl rfl rfl ?_
      refine gEx.getR rfl rfl (h0 0 _ rfl) rfl ?_
      refine gEx.aload rfl rfl rfl ?_
      refine gEx.getI rfl rfl (h0 0 _ rfl) rfl ?_
      refine gEx.iald rfl rfl (h0 1 _ rfl) ?_
      refine gEx.callSi rfl rfl rfl rfl rfl (fun _ h => (t_Tape_isFigure (by omega) ) _ h) (fun r2 => ?_)
      refine gEx.if_eq (tn := 76) rfl rfl rfl ?_ ?_
      · exact gEx.lab rfl rfl (hJ_76 r2.2)
      · refine gEx.aload rfl rfl rfl ?_
        refine gEx.getI rfl rfl (h0 0 _ rfl) rfl ?_
        refine gEx.aload rfl rfl rfl ?_
        refine gEx.getI rfl rfl (h0 0 _ rfl) rfl ?_
        refine gEx.isub rfl rfl ?_
        refine gEx.iconst rfl rfl ?_
        refine gEx.icmp_ge (tn := 63) rfl rfl rfl ?_ ?_
        · refine gEx.aload rfl rfl rfl ?_
          refine gEx.aload rfl rfl rfl ?_
          refine gEx.getI rfl rfl (h0 0 _ rfl) rfl ?_
          refine gEx.iconst rfl rfl ?_
          refine gEx.imul rfl rfl ?_
          refine gEx.aload rfl rfl rfl ?_
          refine gEx.getR rfl rfl (h0 0 _ rfl) rfl ?_
          refine gEx.aload rfl rfl rfl ?_
          refine gEx.getI rfl rfl (h0 0 _ rfl) rfl ?_
          refine gEx.iald rfl rfl (h0 1 _ rfl) ?_
          refine gEx.iadd rfl rfl ?_
          refine gEx.iconst rfl rfl ?_
          refine gEx.isub rfl rfl ?_
          refine gEx.putI rfl rfl (h0 0 _ rfl) rfl rfl rfl (fun m6 => ?_)
          exact gEx.lab rfl rfl (hJ_63 m6)
        · exact gEx.lab rfl rfl (hJ_63 r2.2)
    · exact gEx.lab rfl rfl (hJ_76 m3)
  exact gEx.lab rfl rfl (hL_0 1000 m)
abbrev gcx_81 : gC := glook (gco_81_0 ++ (gco_81_1))
set_option maxRecDepth 100000 in
set_option maxHeartbeats 4000000 in
theorem t_Tape_nextToken {d : Nat} (hd : 7 ≤ d) {sh : gH} {a : Nat} (h0 : gHas sh.1 a (gsh_Tape a)) {m : gM} : ∀ x, f_Tape_nextToken a m = some x → gR gmi gdf gcd d 81 [.ref a] (sh, m) ((grv x).1, (sh, (grv x).2)) := by
  obtain ⟨d, rfl⟩ : ∃ e, d = e + 1 := ⟨d - 1, by omega⟩
  refine gR_of (mx := 1) (code := gcx_81) rfl rfl (Nat.le_of_ble_eq_true rfl) ?_
  have hJ_46 : ∀ (m1 : gM), gEx d gcx_81 sh grv 46 [some (.ref a)] [] m1 (J_Tape_nextToken_46 a m1) := by
    intro m1
    unfold J_Tape_nextToken_46
    refine gEx.aload rfl rfl rfl ?_
    refine gEx.aload rfl rfl rfl ?_
    refine gEx.getI rfl rfl (h0 0 _ rfl) rfl ?_
    refine gEx.putI rfl rfl (h0 0 _ rfl) rfl rfl rfl (fun m2 => ?_)
    refine gEx.aload rfl rfl rfl ?_
    refine gEx.iconst rfl rfl ?_
    refine gEx.putI rfl rfl (h0 0 _ rfl) rfl rfl rfl (fun m3 => ?_)
    refine gEx.aload rfl rfl rfl ?_
    refine gEx.getI rfl rfl (h0 0 _ rfl) rfl ?_
    refine gEx.aload rfl rfl rfl ?_
    refine gEx.getI rfl rfl (h0 0 _ rfl) rfl ?_
    refine gEx.icmp_lt (tn := 79) rfl rfl rfl ?_ ?_
    · refine gEx.aload rfl rfl rfl ?_
      refine gEx.getR rfl rfl (h0 0 _ rfl) rfl ?_
      refine gEx.aload rfl rfl rfl ?_
      refine gEx.getI rfl rfl (h0 0 _ rfl) rfl ?_
      refine gEx.iald rfl rfl (h0 1 _ rfl) ?_
      refine gEx.callSi rfl rfl rfl rfl rfl (fun _ h => (t_Tape_isLetter (by omega) ) _ h) (fun r1 => ?_)
      refine gEx.if_eq (tn := 101) rfl rfl rfl ?_ ?_
      · refine gEx.aload rfl rfl rfl ?_
        refine gEx.getR rfl rfl (h0 0 _ rfl) rfl ?_
        refine gEx.aload rfl rfl rfl ?_
        refine gEx.getI rfl rfl (h0 0 _ rfl) rfl ?_
        refine gEx.iald rfl rfl (h0 1 _ rfl) ?_
        refine gEx.callSi rfl rfl rfl rfl rfl (fun _ h => (t_Tape_isFigure (by omega) ) _ h) (fun r2 => ?_)
        refine gEx.if_eq (tn := 123) rfl rfl rfl ?_ ?_
        · refine gEx.aload rfl rfl rfl ?_
          refine gEx.getR rfl rfl (h0 0 _ rfl) rfl ?_
          refine gEx.aload rfl rfl rfl ?_
          refine gEx.getI rfl rfl (h0 0 _ rfl) rfl ?_
          refine gEx.iald rfl rfl (h0 1 _ rfl) ?_
          refine gEx.iconst rfl rfl ?_
          refine gEx.icmp_ne (tn := 156) rfl rfl rfl ?_ ?_
          · refine gEx.aload rfl rfl rfl ?_
            refine gEx.iconst rfl rfl ?_
            refine gEx.putI rfl rfl (h0 0 _ rfl) rfl rfl rfl (fun m4 => ?_)
            refine gEx.aload rfl rfl rfl ?_
            refine gEx.dupR rfl rfl ?_
            refine gEx.getI rfl rfl (h0 0 _ rfl) rfl ?_
            refine gEx.iconst rfl rfl ?_
            refine gEx.iadd rfl rfl ?_
            refine gEx.putI rfl rfl (h0 0 _ rfl) rfl rfl rfl (fun m5 => ?_)
            refine gEx.goto (tn := 161) rfl rfl rfl ?_
            refine gEx.lab (ls' := [some (.ref a)]) rfl rfl ?_
            exact gEx.retv rfl rfl
          · refine gEx.aload rfl rfl rfl ?_
            refine gEx.iconst rfl rfl ?_
            refine gEx.callVv rfl rfl rfl rfl (h0 0 _ rfl) rfl (fun _ h => (t_Tape_fail (by omega) h0) _ h) (fun r3 => ?_)
            refine gEx.lab (ls' := [some (.ref a)]) rfl rfl ?_
            exact gEx.retv rfl rfl
        · refine gEx.aload rfl rfl rfl ?_
          refine gEx.callVv rfl rfl rfl rfl (h0 0 _ rfl) rfl (fun _ h => (t_Tape_readFigures (by omega) h0) _ h) (fun r4 => ?_)
          refine gEx.goto (tn := 161) rfl rfl rfl ?_
          refine gEx.lab (ls' := [some (.ref a)]) rfl rfl ?_
          exact gEx.retv rfl rfl
      · refine gEx.aload rfl rfl rfl ?_
        refine gEx.callVv rfl rfl rfl rfl (h0 0 _ rfl) rfl (fun _ h => (t_Tape_readName (by omega) h0) _ h) (fun r5 => ?_)
        refine gEx.goto (tn := 161) rfl rfl rfl ?_
        refine gEx.lab (ls' := [some (.ref a)]) rfl rfl ?_
        exact gEx.retv rfl rfl
    · refine gEx.aload rfl rfl rfl ?_
      refine gEx.iconst rfl rfl ?_
      refine gEx.putI rfl rfl (h0 0 _ rfl) rfl rfl rfl (fun m6 => ?_)
      refine gEx.goto (tn := 161) rfl rfl rfl ?_
      refine gEx.lab (ls' := [some (.ref a)]) rfl rfl ?_
      exact gEx.retv rfl rfl
  show gEx d gcx_81 sh grv 0 [some (.ref a)] [] m (f_Tape_nextToken a m)
  unfold f_Tape_nextToken
  refine gEx.aload rfl rfl rfl ?_
  refine gEx.getI rfl rfl (h0 0 _ rfl) rfl ?_
  refine gEx.if_eq (tn := 8) rfl rfl rfl ?_ ?_
  · have hL_8 : ∀ (n : Nat) (m7 : gM), gEx d gcx_81 sh grv 8 [some (.ref a)] [] m7 (L_Tape_nextToken_8 a (fun m7 => J_Tape_nextToken_46 a m7) n m7) := by
      refine gfix_ind (P := fun (f : gM → Option (gM)) => ∀ (m7 : gM), gEx d gcx_81 sh grv 8 [some (.ref a)] [] m7 (f m7)) (fun _ => gEx.none) (fun rec_8 hrec_8 => ?_)
      intro m7
      refine gEx.aload rfl rfl rfl ?_
      refine gEx.getI rfl rfl (h0 0 _ rfl) rfl ?_
      refine gEx.aload rfl rfl rfl ?_
      refine gEx.getI rfl rfl (h0 0 _ rfl) rfl ?_
      refine gEx.icmp_ge (tn := 46) rfl rfl rfl ?_ ?_
      · refine gEx.aload rfl rfl rfl ?_
        refine gEx.getR rfl rfl (h0 0 _ rfl) rfl ?_
        refine gEx.aload rfl rfl rfl ?_
        refine gEx.getI rfl rfl (h0 0 _ rfl) rfl ?_
        refine gEx.iald rfl rfl (h0 1 _ rfl) ?_
        refine gEx.iconst rfl rfl ?_
        refine gEx.icmp_ne (tn := 46) rfl rfl rfl ?_ ?_
        · refine gEx.aload rfl rfl rfl ?_
          refine gEx.dupR rfl rfl ?_
          refine gEx.getI rfl rfl (h0 0 _ rfl) rfl ?_
          refine gEx.iconst rfl rfl ?_
          refine gEx.iadd rfl rfl ?_
          refine gEx.putI rfl rfl (h0 0 _ rfl) rfl rfl rfl (fun m8 => ?_)
          refine gEx.goto (tn := 8) rfl rfl rfl ?_
          exact gEx.lab rfl rfl (hrec_8 m8)
        · exact gEx.lab rfl rfl (hJ_46 m7)
      · exact gEx.lab rfl rfl (hJ_46 m7)
    exact gEx.lab rfl rfl (hL_8 1000 m)
  · exact gEx.retv rfl rfl
abbrev gcx_78 : gC := glook (gco_78_0)
set_option maxRecDepth 100000 in
set_option maxHeartbeats 4000000 in
theorem t_Tape_checkNumber {d : Nat} (hd : 2 ≤ d) {sh : gH} {a : Nat} {x1 : Int32} (h0 : gHas sh.1 a (gsh_Tape a)) {m : gM} : ∀ x, f_Tape_checkNumber a x1 m = some x → gR gmi gdf gcd d 78 [.ref a, .int x1] (sh, m) ((grv x).1, (sh, (grv x).2)) := by
  obtain ⟨d, rfl⟩ : ∃ e, d = e + 1 := ⟨d - 1, by omega⟩
  refine gR_of (mx := 2) (code := gcx_78) rfl rfl (Nat.le_of_ble_eq_true rfl) ?_
  show gEx d gcx_78 sh grv 0 [some (.ref a), some (.int x1)] [] m (f_Tape_checkNumber a x1 m)
  unfold f_Tape_checkNumber
  refine gEx.aload rfl rfl rfl ?_
  refine gEx.getI rfl rfl (h0 0 _ rfl) rfl ?_
  refine gEx.iconst rfl rfl ?_
  refine gEx.icmp_eq (tn := 17) rfl rfl rfl ?_ ?_
  · refine gEx.aload rfl rfl rfl ?_
    refine gEx.getI rfl rfl (h0 0 _ rfl) rfl ?_
    refine gEx.iload rfl rfl rfl ?_
    refine gEx.icmp_le (tn := 30) rfl rfl rfl ?_ ?_
    · refine gEx.aload rfl rfl rfl ?_
      refine gEx.iconst rfl rfl ?_
      refine gEx.callVv rfl rfl rfl rfl (h0 0 _ rfl) rfl (fun _ h => (t_Tape_fail (by omega) h0) _ h) (fun r1 => ?_)
      refine gEx.lab (ls' := [some (.ref a), none]) rfl rfl ?_
      exact gEx.retv rfl rfl
    · refine gEx.lab (ls' := [some (.ref a), none]) rfl rfl ?_
      exact gEx.retv rfl rfl
  · refine gEx.aload rfl rfl rfl ?_
    refine gEx.iconst rfl rfl ?_
    refine gEx.callVv rfl rfl rfl rfl (h0 0 _ rfl) rfl (fun _ h => (t_Tape_fail (by omega) h0) _ h) (fun r2 => ?_)
    refine gEx.goto (tn := 30) rfl rfl rfl ?_
    refine gEx.lab (ls' := [some (.ref a), none]) rfl rfl ?_
    exact gEx.retv rfl rfl
abbrev gcx_76 : gC := glook (gco_76_0)
set_option maxRecDepth 100000 in
set_option maxHeartbeats 4000000 in
theorem t_Tape_readFrom {d : Nat} (hd : 8 ≤ d) {sh : gH} {a : Nat} (h0 : gHas sh.1 a (gsh_Tape a)) {m : gM} : ∀ x, f_Tape_readFrom a m = some x → gR gmi gdf gcd d 76 [.ref a] (sh, m) ((gri x).1, (sh, (gri x).2)) := by
  obtain ⟨d, rfl⟩ : ∃ e, d = e + 1 := ⟨d - 1, by omega⟩
  refine gR_of (mx := 2) (code := gcx_76) rfl rfl (Nat.le_of_ble_eq_true rfl) ?_
  have hJ_31 : ∀ (m1 : gM), gEx d gcx_76 sh gri 31 [some (.ref a), none] [] m1 (J_Tape_readFrom_31 a m1) := by
    intro m1
    unfold J_Tape_readFrom_31
    refine gEx.aload rfl rfl rfl ?_
    refine gEx.getI rfl rfl (h0 0 _ rfl) rfl ?_
    refine gEx.if_ne (tn := 47) rfl rfl rfl ?_ ?_
    · refine gEx.aload rfl rfl rfl ?_
      refine gEx.getI rfl rfl (h0 0 _ rfl) rfl ?_
      refine gEx.iconst rfl rfl ?_
      refine gEx.icmp_eq (tn := 49) rfl rfl rfl ?_ ?_
      · refine gEx.aload rfl rfl rfl ?_
        refine gEx.callVv rfl rfl rfl rfl (h0 0 _ rfl) rfl (fun _ h => (t_Tape_nextToken (by omega) h0) _ h) (fun r1 => ?_)
        refine gEx.aload rfl rfl rfl ?_
        refine gEx.iconst rfl rfl ?_
        refine gEx.callVv rfl rfl rfl rfl (h0 0 _ rfl) rfl (fun _ h => (t_Tape_checkNumber (by omega) h0) _ h) (fun r2 => ?_)
        refine gEx.aload rfl rfl rfl ?_
        refine gEx.getI rfl rfl (h0 0 _ rfl) rfl ?_
        refine gEx.istoreL (ls' := fun v1 => [some (.ref a), some (.int v1)]) rfl rfl (fun _ => rfl) (fun v1 => ?_)
        refine gEx.aload rfl rfl rfl ?_
        refine gEx.callVv rfl rfl rfl rfl (h0 0 _ rfl) rfl (fun _ h => (t_Tape_nextToken (by omega) h0) _ h) (fun r3 => ?_)
        refine gEx.iload rfl rfl rfl ?_
        exact gEx.reti rfl rfl
      · refine gEx.lab (ls' := [some (.ref a), none]) rfl rfl ?_
        refine gEx.iconst rfl rfl ?_
        exact gEx.reti rfl rfl
    · refine gEx.lab (ls' := [some (.ref a), none]) rfl rfl ?_
      refine gEx.iconst rfl rfl ?_
      exact gEx.reti rfl rfl
  have hJ_14 : ∀ (m2 : gM), gEx d gcx_76 sh gri 14 [some (.ref a), none] [] m2 (J_Tape_readFrom_14 a m2) := by
    intro m2
    unfold J_Tape_readFrom_14
    refine gEx.aload rfl rfl rfl ?_
    refine gEx.getR rfl rfl (h0 0 _ rfl) rfl ?_
    refine gEx.getI rfl rfl (h0 2 _ rfl) rfl ?_
    refine gEx.iconst rfl rfl ?_
    refine gEx.icmp_lt (tn := 31) rfl rfl rfl ?_ ?_
    · exact gEx.lab rfl rfl (hJ_31 m2)
    · refine gEx.aload rfl rfl rfl ?_
      refine gEx.iconst rfl rfl ?_
      refine gEx.callVv rfl rfl rfl rfl (h0 0 _ rfl) rfl (fun _ h => (t_Tape_fail (by omega) h0) _ h) (fun r4 => ?_)
      exact gEx.lab rfl rfl (hJ_31 r4)
  show gEx d gcx_76 sh gri 0 [some (.ref a), none] [] m (f_Tape_readFrom a m)
  unfold f_Tape_readFrom
  refine gEx.aload rfl rfl rfl ?_
  refine gEx.getI rfl rfl (h0 0 _ rfl) rfl ?_
  refine gEx.iconst rfl rfl ?_
  refine gEx.icmp_le (tn := 14) rfl rfl rfl ?_ ?_
  · refine gEx.aload rfl rfl rfl ?_
    refine gEx.iconst rfl rfl ?_
    refine gEx.callVv rfl rfl rfl rfl (h0 0 _ rfl) rfl (fun _ h => (t_Tape_fail (by omega) h0) _ h) (fun r5 => ?_)
    exact gEx.lab rfl rfl (hJ_14 r5)
  · exact gEx.lab rfl rfl (hJ_14 m)
abbrev gcx_79 : gC := glook (gco_79_0)
set_option maxRecDepth 100000 in
set_option maxHeartbeats 4000000 in
theorem t_Tape_mostOf {d : Nat} (hd : 1 ≤ d) {sh : gH} {x0 : Int32}  {m : gM} : ∀ x, f_Tape_mostOf x0 m = some x → gR gmi gdf gcd d 79 [.int x0] (sh, m) ((gri x).1, (sh, (gri x).2)) := by
  obtain ⟨d, rfl⟩ : ∃ e, d = e + 1 := ⟨d - 1, by omega⟩
  refine gR_of (mx := 1) (code := gcx_79) rfl rfl (Nat.le_of_ble_eq_true rfl) ?_
  show gEx d gcx_79 sh gri 0 [some (.int x0)] [] m (f_Tape_mostOf x0 m)
  unfold f_Tape_mostOf
  refine gEx.iload rfl rfl rfl ?_
  refine gEx.sw (dft := 41) (ps := #[(0, 36), (1, 36), (5, 39)]) rfl rfl [(0, some (9, m)), (1, some (9, m)), (5, some (5, m))] (some (999, m)) ⟨rfl, ?_, ⟨rfl, ?_, ⟨rfl, ?_, trivial⟩⟩⟩ ?_
  · show gEx d gcx_79 sh gri 36 _ _ _ _
    refine gEx.iconst rfl rfl ?_
    exact gEx.reti rfl rfl
  · show gEx d gcx_79 sh gri 36 _ _ _ _
    refine gEx.iconst rfl rfl ?_
    exact gEx.reti rfl rfl
  · show gEx d gcx_79 sh gri 39 _ _ _ _
    refine gEx.iconst rfl rfl ?_
    exact gEx.reti rfl rfl
  · show gEx d gcx_79 sh gri 41 _ _ _ _
    refine gEx.iconst rfl rfl ?_
    exact gEx.reti rfl rfl
abbrev gcx_77 : gC := glook (gco_77_0 ++ (gco_77_1))
set_option maxRecDepth 100000 in
set_option maxHeartbeats 4000000 in
theorem t_Tape_readRule {d : Nat} (hd : 8 ≤ d) {sh : gH} {a : Nat} {x1 : Int32} (h0 : gHas sh.1 a (gsh_Tape a)) {m : gM} : ∀ x, f_Tape_readRule a x1 m = some x → gR gmi gdf gcd d 77 [.ref a, .int x1] (sh, m) ((grv x).1, (sh, (grv x).2)) := by
  obtain ⟨d, rfl⟩ : ∃ e, d = e + 1 := ⟨d - 1, by omega⟩
  refine gR_of (mx := 4) (code := gcx_77) rfl rfl (Nat.le_of_ble_eq_true rfl) ?_
  have hJ_105 : ∀ (v1 : Int32) (v2 : Int32) (m1 : gM), gEx d gcx_77 sh grv 105 [some (.ref a), some (.int x1), some (.int v1), some (.int v2)] [] m1 (J_Tape_readRule_105 a x1 v1 v2 m1) := by
    intro v1 v2 m1
    unfold J_Tape_readRule_105
    refine gEx.aload rfl rfl rfl ?_
    refine gEx.getI rfl rfl (h0 0 _ rfl) rfl ?_
    refine gEx.if_ne (tn := 126) rfl rfl rfl ?_ ?_
    · refine gEx.aload rfl rfl rfl ?_
      refine gEx.getR rfl rfl (h0 0 _ rfl) rfl ?_
      refine gEx.iload rfl rfl rfl ?_
      refine gEx.iload rfl rfl rfl ?_
      refine gEx.iload rfl rfl rfl ?_
      refine gEx.callVv rfl rfl rfl rfl (h0 2 _ rfl) rfl (fun _ h => (t_Orders_add (by omega) (gsub_Tape_2 h0)) _ h) (fun r1 => ?_)
      refine gEx.aload rfl rfl rfl ?_
      refine gEx.callVv rfl rfl rfl rfl (h0 0 _ rfl) rfl (fun _ h => (t_Tape_nextToken (by omega) h0) _ h) (fun r2 => ?_)
      refine gEx.lab (ls' := [some (.ref a), none, none, none]) rfl rfl ?_
      exact gEx.retv rfl rfl
    · refine gEx.lab (ls' := [some (.ref a), none, none, none]) rfl rfl ?_
      exact gEx.retv rfl rfl
  have hJ_91 : ∀ (v3 : Int32) (v4 : Int32) (m2 : gM), gEx d gcx_77 sh grv 91 [some (.ref a), some (.int x1), some (.int v3), some (.int v4)] [] m2 (J_Tape_readRule_91 a x1 v3 v4 m2) := by
    intro v3 v4 m2
    unfold J_Tape_readRule_91
    refine gEx.aload rfl rfl rfl ?_
    refine gEx.getI rfl rfl (h0 0 _ rfl) rfl ?_
    refine gEx.iconst rfl rfl ?_
    refine gEx.icmp_eq (tn := 105) rfl rfl rfl ?_ ?_
    · exact gEx.lab rfl rfl (hJ_105 v3 v4 m2)
    · refine gEx.aload rfl rfl rfl ?_
      refine gEx.iconst rfl rfl ?_
      refine gEx.callVv rfl rfl rfl rfl (h0 0 _ rfl) rfl (fun _ h => (t_Tape_fail (by omega) h0) _ h) (fun r3 => ?_)
      exact gEx.lab rfl rfl (hJ_105 v3 v4 r3)
  have hJ_87 : ∀ (v5 : Int32) (v6 : Int32) (m3 : gM), gEx d gcx_77 sh grv 87 [some (.ref a), some (.int x1), some (.int v5), some (.int v6)] [] m3 (J_Tape_readRule_87 a x1 v5 v6 m3) := by
    intro v5 v6 m3
    unfold J_Tape_readRule_87
    refine gEx.aload rfl rfl rfl ?_
    refine gEx.callVv rfl rfl rfl rfl (h0 0 _ rfl) rfl (fun _ h => (t_Tape_nextToken (by omega) h0) _ h) (fun r4 => ?_)
    exact gEx.lab rfl rfl (hJ_91 v5 v6 r4)
  have hJ_41 : ∀ (v7 : Int32) (m4 : gM), gEx d gcx_77 sh grv 41 [some (.ref a), some (.int x1), some (.int v7), none] [] m4 (J_Tape_readRule_41 a x1 v7 m4) := by
    intro v7 m4
    unfold J_Tape_readRule_41
    refine gEx.aload rfl rfl rfl ?_
    refine gEx.callVv rfl rfl rfl rfl (h0 0 _ rfl) rfl (fun _ h => (t_Tape_nextToken (by omega) h0) _ h) (fun r5 => ?_)
    refine gEx.iconst rfl rfl ?_
    refine gEx.istore (ls' := [some (.ref a), some (.int x1), some (.int v7), some (.int 0)]) rfl rfl rfl ?_
    refine gEx.iload rfl rfl rfl ?_
    refine gEx.iconst rfl rfl ?_
    refine gEx.icmp_eq (tn := 91) rfl rfl rfl ?_ ?_
    · exact gEx.lab rfl rfl (hJ_91 v7 0 r5)
    · refine gEx.aload rfl rfl rfl ?_
      refine gEx.iload rfl rfl rfl ?_
      refine gEx.callSi rfl rfl rfl rfl rfl (fun _ h => (t_Tape_mostOf (by omega) ) _ h) (fun r6 => ?_)
      refine gEx.callVv rfl rfl rfl rfl (h0 0 _ rfl) rfl (fun _ h => (t_Tape_checkNumber (by omega) h0) _ h) (fun r7 => ?_)
      refine gEx.aload rfl rfl rfl ?_
      refine gEx.getI rfl rfl (h0 0 _ rfl) rfl ?_
      refine gEx.istoreL (ls' := fun v8 => [some (.ref a), some (.int x1), some (.int v7), some (.int v8)]) rfl rfl (fun _ => rfl) (fun v8 => ?_)
      refine gEx.iload rfl rfl rfl ?_
      refine gEx.iconst rfl rfl ?_
      refine gEx.icmp_ne (tn := 87) rfl rfl rfl ?_ ?_
      · refine gEx.aload rfl rfl rfl ?_
        refine gEx.getR rfl rfl (h0 0 _ rfl) rfl ?_
        refine gEx.iload rfl rfl rfl ?_
        refine gEx.iload rfl rfl rfl ?_
        refine gEx.callVi rfl rfl rfl rfl (h0 2 _ rfl) rfl (fun _ h => (t_Orders_tellsExcept (by omega) (gsub_Tape_2 h0)) _ h) (fun r8 => ?_)
        refine gEx.if_eq (tn := 87) rfl rfl rfl ?_ ?_
        · exact gEx.lab rfl rfl (hJ_87 v7 v8 r8.2)
        · refine gEx.aload rfl rfl rfl ?_
          refine gEx.iconst rfl rfl ?_
          refine gEx.callVv rfl rfl rfl rfl (h0 0 _ rfl) rfl (fun _ h => (t_Tape_fail (by omega) h0) _ h) (fun r9 => ?_)
          exact gEx.lab rfl rfl (hJ_87 v7 v8 r9)
      · exact gEx.lab rfl rfl (hJ_87 v7 v8 r7)
  have hJ_14 : ∀ (m5 : gM), gEx d gcx_77 sh grv 14 [some (.ref a), some (.int x1), none, none] [] m5 (J_Tape_readRule_14 a x1 m5) := by
    intro m5
    unfold J_Tape_readRule_14
    refine gEx.aload rfl rfl rfl ?_
    refine gEx.getI rfl rfl (h0 0 _ rfl) rfl ?_
    refine gEx.istoreL (ls' := fun v9 => [some (.ref a), some (.int x1), some (.int v9), none]) rfl rfl (fun _ => rfl) (fun v9 => ?_)
    refine gEx.iload rfl rfl rfl ?_
    refine gEx.iconst rfl rfl ?_
    refine gEx.icmp_eq (tn := 41) rfl rfl rfl ?_ ?_
    · exact gEx.lab rfl rfl (hJ_41 v9 m5)
    · refine gEx.aload rfl rfl rfl ?_
      refine gEx.getR rfl rfl (h0 0 _ rfl) rfl ?_
      refine gEx.iload rfl rfl rfl ?_
      refine gEx.iload rfl rfl rfl ?_
      refine gEx.callVi rfl rfl rfl rfl (h0 2 _ rfl) rfl (fun _ h => (t_Orders_tells (by omega) (gsub_Tape_2 h0)) _ h) (fun r10 => ?_)
      refine gEx.if_eq (tn := 41) rfl rfl rfl ?_ ?_
      · exact gEx.lab rfl rfl (hJ_41 v9 r10.2)
      · refine gEx.aload rfl rfl rfl ?_
        refine gEx.iconst rfl rfl ?_
        refine gEx.callVv rfl rfl rfl rfl (h0 0 _ rfl) rfl (fun _ h => (t_Tape_fail (by omega) h0) _ h) (fun r11 => ?_)
        exact gEx.lab rfl rfl (hJ_41 v9 r11)
  show gEx d gcx_77 sh grv 0 [some (.ref a), some (.int x1), none, none] [] m (f_Tape_readRule a x1 m)
  unfold f_Tape_readRule
  refine gEx.aload rfl rfl rfl ?_
  refine gEx.getI rfl rfl (h0 0 _ rfl) rfl ?_
  refine gEx.iconst rfl rfl ?_
  refine gEx.icmp_lt (tn := 14) rfl rfl rfl ?_ ?_
  · exact gEx.lab rfl rfl (hJ_14 m)
  · refine gEx.aload rfl rfl rfl ?_
    refine gEx.iconst rfl rfl ?_
    refine gEx.callVv rfl rfl rfl rfl (h0 0 _ rfl) rfl (fun _ h => (t_Tape_fail (by omega) h0) _ h) (fun r12 => ?_)
    exact gEx.lab rfl rfl (hJ_14 r12)
abbrev gcx_75 : gC := glook (gco_75_0)
set_option maxRecDepth 100000 in
set_option maxHeartbeats 4000000 in
theorem t_Tape_read {d : Nat} (hd : 9 ≤ d) {sh : gH} {a : Nat} (h0 : gHas sh.1 a (gsh_Tape a)) {m : gM} : ∀ x, f_Tape_read a m = some x → gR gmi gdf gcd d 75 [.ref a] (sh, m) ((grv x).1, (sh, (grv x).2)) := by
  obtain ⟨d, rfl⟩ : ∃ e, d = e + 1 := ⟨d - 1, by omega⟩
  refine gR_of (mx := 3) (code := gcx_75) rfl rfl (Nat.le_of_ble_eq_true rfl) ?_
  show gEx d gcx_75 sh grv 0 [some (.ref a), none, none] [] m (f_Tape_read a m)
  unfold f_Tape_read
  refine gEx.aload rfl rfl rfl ?_
  refine gEx.getR rfl rfl (h0 0 _ rfl) rfl ?_
  refine gEx.iconst rfl rfl ?_
  refine gEx.putI rfl rfl (h0 2 _ rfl) rfl rfl rfl (fun m1 => ?_)
  refine gEx.aload rfl rfl rfl ?_
  refine gEx.iconst rfl rfl ?_
  refine gEx.putI rfl rfl (h0 0 _ rfl) rfl rfl rfl (fun m2 => ?_)
  refine gEx.aload rfl rfl rfl ?_
  refine gEx.iconst rfl rfl ?_
  refine gEx.putI rfl rfl (h0 0 _ rfl) rfl rfl rfl (fun m3 => ?_)
  refine gEx.aload rfl rfl rfl ?_
  refine gEx.iconst rfl rfl ?_
  refine gEx.putI rfl rfl (h0 0 _ rfl) rfl rfl rfl (fun m4 => ?_)
  refine gEx.aload rfl rfl rfl ?_
  refine gEx.callVv rfl rfl rfl rfl (h0 0 _ rfl) rfl (fun _ h => (t_Tape_nextToken (by omega) h0) _ h) (fun r1 => ?_)
  refine gEx.iconst rfl rfl ?_
  refine gEx.istore (ls' := [some (.ref a), some (.int 0), none]) rfl rfl rfl ?_
  have hL_29 : ∀ (n : Nat) (v1 : Int32) (m5 : gM), gEx d gcx_75 sh grv 29 [some (.ref a), some (.int v1), none] [] m5 (L_Tape_read_29 a n v1 m5) := by
    refine gfix_ind (P := fun (f : Int32 → gM → Option (gM)) => ∀ (v1 : Int32) (m5 : gM), gEx d gcx_75 sh grv 29 [some (.ref a), some (.int v1), none] [] m5 (f v1 m5)) (fun _ _ => gEx.none) (fun rec_29 hrec_29 => ?_)
    intro v1 m5
    refine gEx.iload rfl rfl rfl ?_
    refine gEx.iconst rfl rfl ?_
    refine gEx.icmp_gt (tn := 68) rfl rfl rfl ?_ ?_
    · refine gEx.lab (ls' := [some (.ref a), none, none]) rfl rfl ?_
      exact gEx.retv rfl rfl
    · refine gEx.aload rfl rfl rfl ?_
      refine gEx.getI rfl rfl (h0 0 _ rfl) rfl ?_
      refine gEx.if_ne (tn := 68) rfl rfl rfl ?_ ?_
      · refine gEx.aload rfl rfl rfl ?_
        refine gEx.getI rfl rfl (h0 0 _ rfl) rfl ?_
        refine gEx.iconst rfl rfl ?_
        refine gEx.icmp_eq (tn := 68) rfl rfl rfl ?_ ?_
        · refine gEx.lab (ls' := [some (.ref a), none, none]) rfl rfl ?_
          exact gEx.retv rfl rfl
        · refine gEx.aload rfl rfl rfl ?_
          refine gEx.callVi rfl rfl rfl rfl (h0 0 _ rfl) rfl (fun _ h => (t_Tape_readFrom (by omega) h0) _ h) (fun r2 => ?_)
          refine gEx.istore (ls' := [some (.ref a), some (.int v1), some (.int r2.1)]) rfl rfl rfl ?_
          refine gEx.aload rfl rfl rfl ?_
          refine gEx.iload rfl rfl rfl ?_
          refine gEx.callVv rfl rfl rfl rfl (h0 0 _ rfl) rfl (fun _ h => (t_Tape_readRule (by omega) h0) _ h) (fun r3 => ?_)
          refine gEx.iinc (ls' := [some (.ref a), some (.int (v1 + 1)), some (.int r2.1)]) rfl rfl rfl rfl ?_
          refine gEx.goto (tn := 29) rfl rfl rfl ?_
          exact gEx.lab rfl rfl (hrec_29 (v1 + 1) r3)
      · refine gEx.lab (ls' := [some (.ref a), none, none]) rfl rfl ?_
        exact gEx.retv rfl rfl
  exact gEx.lab rfl rfl (hL_29 1000 0 r1)
abbrev gcx_101 : gC := glook (gco_101_0)
set_option maxRecDepth 100000 in
set_option maxHeartbeats 4000000 in
theorem t_Wells_clear {d : Nat} (hd : 2 ≤ d) {sh : gH} {a : Nat} (h0 : gHas sh.1 a (gsh_Wells a)) {m : gM} : ∀ x, f_Wells_clear a m = some x → gR gmi gdf gcd d 101 [.ref a] (sh, m) ((grv x).1, (sh, (grv x).2)) := by
  obtain ⟨d, rfl⟩ : ∃ e, d = e + 1 := ⟨d - 1, by omega⟩
  refine gR_of (mx := 1) (code := gcx_101) rfl rfl (Nat.le_of_ble_eq_true rfl) ?_
  show gEx d gcx_101 sh grv 0 [some (.ref a)] [] m (f_Wells_clear a m)
  unfold f_Wells_clear
  refine gEx.aload rfl rfl rfl ?_
  refine gEx.iconst rfl rfl ?_
  refine gEx.putI rfl rfl (h0 0 _ rfl) rfl rfl rfl (fun m1 => ?_)
  refine gEx.aload rfl rfl rfl ?_
  refine gEx.getR rfl rfl (h0 0 _ rfl) rfl ?_
  refine gEx.iconst rfl rfl ?_
  refine gEx.callSv rfl rfl rfl rfl rfl (fun _ h => (t_fill (by omega) (h0 5 _ rfl)) _ h) (fun r1 => ?_)
  refine gEx.aload rfl rfl rfl ?_
  refine gEx.getR rfl rfl (h0 0 _ rfl) rfl ?_
  refine gEx.iconst rfl rfl ?_
  refine gEx.callSv rfl rfl rfl rfl rfl (fun _ h => (t_fill (by omega) (h0 6 _ rfl)) _ h) (fun r2 => ?_)
  refine gEx.aload rfl rfl rfl ?_
  refine gEx.getR rfl rfl (h0 0 _ rfl) rfl ?_
  refine gEx.iconst rfl rfl ?_
  refine gEx.callSv rfl rfl rfl rfl rfl (fun _ h => (t_fill (by omega) (h0 7 _ rfl)) _ h) (fun r3 => ?_)
  refine gEx.aload rfl rfl rfl ?_
  refine gEx.getR rfl rfl (h0 0 _ rfl) rfl ?_
  refine gEx.iconst rfl rfl ?_
  refine gEx.callSv rfl rfl rfl rfl rfl (fun _ h => (t_fill (by omega) (h0 8 _ rfl)) _ h) (fun r4 => ?_)
  exact gEx.retv rfl rfl
abbrev gcx_89 : gC := glook (gco_89_0)
set_option maxRecDepth 100000 in
set_option maxHeartbeats 4000000 in
theorem t_Town_becomeNew {d : Nat} (hd : 4 ≤ d) {sh : gH} {a : Nat} {x1 : Int32} {x2 : Int32} (h0 : gHas sh.1 a (gsh_Town a)) {m : gM} : ∀ x, f_Town_becomeNew a x1 x2 m = some x → gR gmi gdf gcd d 89 [.ref a, .int x1, .int x2] (sh, m) ((grv x).1, (sh, (grv x).2)) := by
  obtain ⟨d, rfl⟩ : ∃ e, d = e + 1 := ⟨d - 1, by omega⟩
  refine gR_of (mx := 3) (code := gcx_89) rfl rfl (Nat.le_of_ble_eq_true rfl) ?_
  show gEx d gcx_89 sh grv 0 [some (.ref a), some (.int x1), some (.int x2)] [] m (f_Town_becomeNew a x1 x2 m)
  unfold f_Town_becomeNew
  refine gEx.aload rfl rfl rfl ?_
  refine gEx.getR rfl rfl (h0 0 _ rfl) rfl ?_
  refine gEx.iload rfl rfl rfl ?_
  refine gEx.iload rfl rfl rfl ?_
  refine gEx.callVv rfl rfl rfl rfl (h0 1 _ rfl) rfl (fun _ h => (t_Ground_becomeNew (by omega) (gsub_Town_1 h0)) _ h) (fun r1 => ?_)
  refine gEx.aload rfl rfl rfl ?_
  refine gEx.getR rfl rfl (h0 0 _ rfl) rfl ?_
  refine gEx.callVv rfl rfl rfl rfl (h0 11 _ rfl) rfl (fun _ h => (t_Deeds_clear (by omega) (gsub_Town_11 h0)) _ h) (fun r2 => ?_)
  refine gEx.aload rfl rfl rfl ?_
  refine gEx.getR rfl rfl (h0 0 _ rfl) rfl ?_
  refine gEx.callVv rfl rfl rfl rfl (h0 17 _ rfl) rfl (fun _ h => (t_Wells_clear (by omega) (gsub_Town_17 h0)) _ h) (fun r3 => ?_)
  refine gEx.aload rfl rfl rfl ?_
  refine gEx.getR rfl rfl (h0 0 _ rfl) rfl ?_
  refine gEx.callVv rfl rfl rfl rfl (h0 26 _ rfl) rfl (fun _ h => (t_Books_clear (by omega) (gsub_Town_26 h0)) _ h) (fun r4 => ?_)
  refine gEx.aload rfl rfl rfl ?_
  refine gEx.iconst rfl rfl ?_
  refine gEx.putI rfl rfl (h0 0 _ rfl) rfl rfl rfl (fun m1 => ?_)
  exact gEx.retv rfl rfl
abbrev gcx_102 : gC := glook (gco_102_0 ++ (gco_102_1))
set_option maxRecDepth 100000 in
set_option maxHeartbeats 4000000 in
theorem t_Wells_copyFrom {d : Nat} (hd : 1 ≤ d) {sh : gH} {a : Nat} {p1 : Nat} (h0 : gHas sh.1 a (gsh_Wells a)) (h1 : gHas sh.1 p1 (gsh_Wells p1)) {m : gM} : ∀ x, f_Wells_copyFrom a p1 m = some x → gR gmi gdf gcd d 102 [.ref a, .ref p1] (sh, m) ((grv x).1, (sh, (grv x).2)) := by
  obtain ⟨d, rfl⟩ : ∃ e, d = e + 1 := ⟨d - 1, by omega⟩
  refine gR_of (mx := 3) (code := gcx_102) rfl rfl (Nat.le_of_ble_eq_true rfl) ?_
  show gEx d gcx_102 sh grv 0 [some (.ref a), some (.ref p1), none] [] m (f_Wells_copyFrom a p1 m)
  unfold f_Wells_copyFrom
  refine gEx.aload rfl rfl rfl ?_
  refine gEx.aload rfl rfl rfl ?_
  refine gEx.getI rfl rfl (h1 0 _ rfl) rfl ?_
  refine gEx.putI rfl rfl (h0 0 _ rfl) rfl rfl rfl (fun m1 => ?_)
  refine gEx.aload rfl rfl rfl ?_
  refine gEx.getR rfl rfl (h1 0 _ rfl) rfl ?_
  refine gEx.iconst rfl rfl ?_
  refine gEx.aload rfl rfl rfl ?_
  refine gEx.getR rfl rfl (h0 0 _ rfl) rfl ?_
  refine gEx.iconst rfl rfl ?_
  refine gEx.iconst rfl rfl ?_
  refine gEx.acopy rfl rfl (h1 1 _ rfl) (h0 1 _ rfl) rfl (fun m2 => ?_)
  refine gEx.aload rfl rfl rfl ?_
  refine gEx.getR rfl rfl (h1 0 _ rfl) rfl ?_
  refine gEx.iconst rfl rfl ?_
  refine gEx.aload rfl rfl rfl ?_
  refine gEx.getR rfl rfl (h0 0 _ rfl) rfl ?_
  refine gEx.iconst rfl rfl ?_
  refine gEx.iconst rfl rfl ?_
  refine gEx.acopy rfl rfl (h1 2 _ rfl) (h0 2 _ rfl) rfl (fun m3 => ?_)
  refine gEx.aload rfl rfl rfl ?_
  refine gEx.getR rfl rfl (h1 0 _ rfl) rfl ?_
  refine gEx.iconst rfl rfl ?_
  refine gEx.aload rfl rfl rfl ?_
  refine gEx.getR rfl rfl (h0 0 _ rfl) rfl ?_
  refine gEx.iconst rfl rfl ?_
  refine gEx.iconst rfl rfl ?_
  refine gEx.acopy rfl rfl (h1 3 _ rfl) (h0 3 _ rfl) rfl (fun m4 => ?_)
  refine gEx.aload rfl rfl rfl ?_
  refine gEx.getR rfl rfl (h1 0 _ rfl) rfl ?_
  refine gEx.iconst rfl rfl ?_
  refine gEx.aload rfl rfl rfl ?_
  refine gEx.getR rfl rfl (h0 0 _ rfl) rfl ?_
  refine gEx.iconst rfl rfl ?_
  refine gEx.iconst rfl rfl ?_
  refine gEx.acopy rfl rfl (h1 5 _ rfl) (h0 5 _ rfl) rfl (fun m5 => ?_)
  refine gEx.aload rfl rfl rfl ?_
  refine gEx.getR rfl rfl (h1 0 _ rfl) rfl ?_
  refine gEx.iconst rfl rfl ?_
  refine gEx.aload rfl rfl rfl ?_
  refine gEx.getR rfl rfl (h0 0 _ rfl) rfl ?_
  refine gEx.iconst rfl rfl ?_
  refine gEx.iconst rfl rfl ?_
  refine gEx.acopy rfl rfl (h1 6 _ rfl) (h0 6 _ rfl) rfl (fun m6 => ?_)
  refine gEx.aload rfl rfl rfl ?_
  refine gEx.getR rfl rfl (h1 0 _ rfl) rfl ?_
  refine gEx.iconst rfl rfl ?_
  refine gEx.aload rfl rfl rfl ?_
  refine gEx.getR rfl rfl (h0 0 _ rfl) rfl ?_
  refine gEx.iconst rfl rfl ?_
  refine gEx.iconst rfl rfl ?_
  refine gEx.acopy rfl rfl (h1 7 _ rfl) (h0 7 _ rfl) rfl (fun m7 => ?_)
  refine gEx.aload rfl rfl rfl ?_
  refine gEx.getR rfl rfl (h1 0 _ rfl) rfl ?_
  refine gEx.iconst rfl rfl ?_
  refine gEx.aload rfl rfl rfl ?_
  refine gEx.getR rfl rfl (h0 0 _ rfl) rfl ?_
  refine gEx.iconst rfl rfl ?_
  refine gEx.iconst rfl rfl ?_
  refine gEx.acopy rfl rfl (h1 8 _ rfl) (h0 8 _ rfl) rfl (fun m8 => ?_)
  refine gEx.iconst rfl rfl ?_
  refine gEx.istore (ls' := [some (.ref a), some (.ref p1), some (.int 0)]) rfl rfl rfl ?_
  have hL_116 : ∀ (n : Nat) (v1 : Int32) (m9 : gM), gEx d gcx_102 sh grv 116 [some (.ref a), some (.ref p1), some (.int v1)] [] m9 (L_Wells_copyFrom_116 a p1 n v1 m9) := by
    refine gfix_ind (P := fun (f : Int32 → gM → Option (gM)) => ∀ (v1 : Int32) (m9 : gM), gEx d gcx_102 sh grv 116 [some (.ref a), some (.ref p1), some (.int v1)] [] m9 (f v1 m9)) (fun _ _ => gEx.none) (fun rec_116 hrec_116 => ?_)
    intro v1 m9
    refine gEx.iload rfl rfl rfl ?_
    refine gEx.iconst rfl rfl ?_
    refine gEx.icmp_ge (tn := 140) rfl rfl rfl ?_ ?_
    · refine gEx.aload rfl rfl rfl ?_
      refine gEx.getR rfl rfl (h0 0 _ rfl) rfl ?_
      refine gEx.iload rfl rfl rfl ?_
      refine gEx.aload rfl rfl rfl ?_
      refine gEx.getR rfl rfl (h1 0 _ rfl) rfl ?_
      refine gEx.iload rfl rfl rfl ?_
      refine gEx.bald rfl rfl (h1 4 _ rfl) ?_
      refine gEx.bast rfl rfl (h0 4 _ rfl) (fun m10 => ?_)
      refine gEx.iinc (ls' := [some (.ref a), some (.ref p1), some (.int (v1 + 1))]) rfl rfl rfl rfl ?_
      refine gEx.goto (tn := 116) rfl rfl rfl ?_
      exact gEx.lab rfl rfl (hrec_116 (v1 + 1) m10)
    · exact gEx.retv rfl rfl
  exact gEx.lab rfl rfl (hL_116 1000 0 m8)
abbrev gcx_90 : gC := glook (gco_90_0)
set_option maxRecDepth 100000 in
set_option maxHeartbeats 4000000 in
theorem t_Town_copyFrom {d : Nat} (hd : 3 ≤ d) {sh : gH} {a : Nat} {p1 : Nat} (h0 : gHas sh.1 a (gsh_Town a)) (h1 : gHas sh.1 p1 (gsh_Town p1)) {m : gM} : ∀ x, f_Town_copyFrom a p1 m = some x → gR gmi gdf gcd d 90 [.ref a, .ref p1] (sh, m) ((grv x).1, (sh, (grv x).2)) := by
  obtain ⟨d, rfl⟩ : ∃ e, d = e + 1 := ⟨d - 1, by omega⟩
  refine gR_of (mx := 2) (code := gcx_90) rfl rfl (Nat.le_of_ble_eq_true rfl) ?_
  show gEx d gcx_90 sh grv 0 [some (.ref a), some (.ref p1)] [] m (f_Town_copyFrom a p1 m)
  unfold f_Town_copyFrom
  refine gEx.aload rfl rfl rfl ?_
  refine gEx.getR rfl rfl (h0 0 _ rfl) rfl ?_
  refine gEx.aload rfl rfl rfl ?_
  refine gEx.getR rfl rfl (h1 0 _ rfl) rfl ?_
  refine gEx.callVv rfl rfl rfl rfl (h0 1 _ rfl) rfl (fun _ h => (t_Ground_copyFrom (by omega) (gsub_Town_1 h0) (gsub_Town_1 h1)) _ h) (fun r1 => ?_)
  refine gEx.aload rfl rfl rfl ?_
  refine gEx.getR rfl rfl (h0 0 _ rfl) rfl ?_
  refine gEx.aload rfl rfl rfl ?_
  refine gEx.getR rfl rfl (h1 0 _ rfl) rfl ?_
  refine gEx.callVv rfl rfl rfl rfl (h0 11 _ rfl) rfl (fun _ h => (t_Deeds_copyFrom (by omega) (gsub_Town_11 h0) (gsub_Town_11 h1)) _ h) (fun r2 => ?_)
  refine gEx.aload rfl rfl rfl ?_
  refine gEx.getR rfl rfl (h0 0 _ rfl) rfl ?_
  refine gEx.aload rfl rfl rfl ?_
  refine gEx.getR rfl rfl (h1 0 _ rfl) rfl ?_
  refine gEx.callVv rfl rfl rfl rfl (h0 17 _ rfl) rfl (fun _ h => (t_Wells_copyFrom (by omega) (gsub_Town_17 h0) (gsub_Town_17 h1)) _ h) (fun r3 => ?_)
  refine gEx.aload rfl rfl rfl ?_
  refine gEx.getR rfl rfl (h0 0 _ rfl) rfl ?_
  refine gEx.aload rfl rfl rfl ?_
  refine gEx.getR rfl rfl (h1 0 _ rfl) rfl ?_
  refine gEx.callVv rfl rfl rfl rfl (h0 26 _ rfl) rfl (fun _ h => (t_Books_copyFrom (by omega) (gsub_Town_26 h0) (gsub_Town_26 h1)) _ h) (fun r4 => ?_)
  refine gEx.aload rfl rfl rfl ?_
  refine gEx.aload rfl rfl rfl ?_
  refine gEx.getI rfl rfl (h1 0 _ rfl) rfl ?_
  refine gEx.putI rfl rfl (h0 0 _ rfl) rfl rfl rfl (fun m1 => ?_)
  exact gEx.retv rfl rfl
abbrev gcx_104 : gC := glook (gco_104_0)
set_option maxRecDepth 100000 in
set_option maxHeartbeats 4000000 in
theorem t_Wells_noteDraw {d : Nat} (hd : 1 ≤ d) {sh : gH} {a : Nat} {x1 : Int32} {x2 : Int32} {p3 : Nat} {x4 : Int32} (h0 : gHas sh.1 a (gsh_Wells a)) (h3 : sh.1 p3 = some (.inl (0, 9))) {m : gM} : ∀ x, f_Wells_noteDraw a x1 x2 p3 x4 m = some x → gR gmi gdf gcd d 104 [.ref a, .int x1, .int x2, .ref p3, .int x4] (sh, m) ((grv x).1, (sh, (grv x).2)) := by
  obtain ⟨d, rfl⟩ : ∃ e, d = e + 1 := ⟨d - 1, by omega⟩
  refine gR_of (mx := 6) (code := gcx_104) rfl rfl (Nat.le_of_ble_eq_true rfl) ?_
  have hJ_66 : ∀ (v1 : Int32) (m1 : gM), gEx d gcx_104 sh grv 66 [some (.ref a), some (.int x1), some (.int x2), some (.ref p3), some (.int x4), some (.int v1)] [] m1 (J_Wells_noteDraw_66 a x1 x4 v1 m1) := by
    intro v1 m1
    unfold J_Wells_noteDraw_66
    refine gEx.aload rfl rfl rfl ?_
    refine gEx.getR rfl rfl (h0 0 _ rfl) rfl ?_
    refine gEx.iload rfl rfl rfl ?_
    refine gEx.dup2 rfl rfl ?_
    refine gEx.iald rfl rfl (h0 6 _ rfl) ?_
    refine gEx.iload rfl rfl rfl ?_
    refine gEx.iadd rfl rfl ?_
    refine gEx.iast rfl rfl (h0 6 _ rfl) (fun m2 => ?_)
    exact gEx.retv rfl rfl
  show gEx d gcx_104 sh grv 0 [some (.ref a), some (.int x1), some (.int x2), some (.ref p3), some (.int x4), none] [] m (f_Wells_noteDraw a x1 x2 p3 x4 m)
  unfold f_Wells_noteDraw
  refine gEx.iconst rfl rfl ?_
  refine gEx.istore (ls' := [some (.ref a), some (.int x1), some (.int x2), some (.ref p3), some (.int x4), some (.int 0)]) rfl rfl rfl ?_
  have hL_3 : ∀ (n : Nat) (v2 : Int32) (m3 : gM), gEx d gcx_104 sh grv 3 [some (.ref a), some (.int x1), some (.int x2), some (.ref p3), some (.int x4), some (.int v2)] [] m3 (L_Wells_noteDraw_3 a x1 x2 p3 (fun v2 m3 => J_Wells_noteDraw_66 a x1 x4 v2 m3) n v2 m3) := by
    refine gfix_ind (P := fun (f : Int32 → gM → Option (gM)) => ∀ (v2 : Int32) (m3 : gM), gEx d gcx_104 sh grv 3 [some (.ref a), some (.int x1), some (.int x2), some (.ref p3), some (.int x4), some (.int v2)] [] m3 (f v2 m3)) (fun _ _ => gEx.none) (fun rec_3 hrec_3 => ?_)
    intro v2 m3
    refine gEx.iload rfl rfl rfl ?_
    refine gEx.iconst rfl rfl ?_
    refine gEx.icmp_ge (tn := 66) rfl rfl rfl ?_ ?_
    · refine gEx.aload rfl rfl rfl ?_
      refine gEx.getR rfl rfl (h0 0 _ rfl) rfl ?_
      refine gEx.iload rfl rfl rfl ?_
      refine gEx.dup2 rfl rfl ?_
      refine gEx.iald rfl rfl (h0 5 _ rfl) ?_
      refine gEx.aload rfl rfl rfl ?_
      refine gEx.iload rfl rfl rfl ?_
      refine gEx.iald rfl rfl h3 ?_
      refine gEx.iadd rfl rfl ?_
      refine gEx.iast rfl rfl (h0 5 _ rfl) (fun m4 => ?_)
      refine gEx.aload rfl rfl rfl ?_
      refine gEx.getR rfl rfl (h0 0 _ rfl) rfl ?_
      refine gEx.iload rfl rfl rfl ?_
      refine gEx.iconst rfl rfl ?_
      refine gEx.imul rfl rfl ?_
      refine gEx.iload rfl rfl rfl ?_
      refine gEx.iadd rfl rfl ?_
      refine gEx.dup2 rfl rfl ?_
      refine gEx.iald rfl rfl (h0 7 _ rfl) ?_
      refine gEx.aload rfl rfl rfl ?_
      refine gEx.iload rfl rfl rfl ?_
      refine gEx.iald rfl rfl h3 ?_
      refine gEx.iadd rfl rfl ?_
      refine gEx.iast rfl rfl (h0 7 _ rfl) (fun m5 => ?_)
      refine gEx.aload rfl rfl rfl ?_
      refine gEx.getR rfl rfl (h0 0 _ rfl) rfl ?_
      refine gEx.iload rfl rfl rfl ?_
      refine gEx.iconst rfl rfl ?_
      refine gEx.imul rfl rfl ?_
      refine gEx.iload rfl rfl rfl ?_
      refine gEx.iadd rfl rfl ?_
      refine gEx.dup2 rfl rfl ?_
      refine gEx.iald rfl rfl (h0 8 _ rfl) ?_
      refine gEx.aload rfl rfl rfl ?_
      refine gEx.iload rfl rfl rfl ?_
      refine gEx.iald rfl rfl h3 ?_
      refine gEx.iadd rfl rfl ?_
      refine gEx.iast rfl rfl (h0 8 _ rfl) (fun m6 => ?_)
      refine gEx.iinc (ls' := [some (.ref a), some (.int x1), some (.int x2), some (.ref p3), some (.int x4), some (.int (v2 + 1))]) rfl rfl rfl rfl ?_
      refine gEx.goto (tn := 3) rfl rfl rfl ?_
      exact gEx.lab rfl rfl (hrec_3 (v2 + 1) m6)
    · exact gEx.lab rfl rfl (hJ_66 v2 m3)
  exact gEx.lab rfl rfl (hL_3 1000 0 m)
abbrev gcx_93 : gC := glook (gco_93_0 ++ (gco_93_1))
set_option maxRecDepth 100000 in
set_option maxHeartbeats 4000000 in
theorem t_Town_drawBy {d : Nat} (hd : 3 ≤ d) {sh : gH} {a : Nat} {x1 : Int32} {p2 : Nat} (h0 : gHas sh.1 a (gsh_Town a)) (h2 : sh.1 p2 = some (.inl (0, 9))) {m : gM} : ∀ x, f_Town_drawBy a x1 p2 m = some x → gR gmi gdf gcd d 93 [.ref a, .int x1, .ref p2] (sh, m) ((gri x).1, (sh, (gri x).2)) := by
  obtain ⟨d, rfl⟩ : ∃ e, d = e + 1 := ⟨d - 1, by omega⟩
  refine gR_of (mx := 6) (code := gcx_93) rfl rfl (Nat.le_of_ble_eq_true rfl) ?_
  show gEx d gcx_93 sh gri 0 [some (.ref a), some (.int x1), some (.ref p2), none, none, none] [] m (f_Town_drawBy a x1 p2 m)
  unfold f_Town_drawBy
  refine gEx.aload rfl rfl rfl ?_
  refine gEx.getR rfl rfl (h0 0 _ rfl) rfl ?_
  refine gEx.getR rfl rfl (h0 17 _ rfl) rfl ?_
  refine gEx.iload rfl rfl rfl ?_
  refine gEx.iald rfl rfl (h0 19 _ rfl) ?_
  refine gEx.istoreL (ls' := fun v1 => [some (.ref a), some (.int x1), some (.ref p2), some (.int v1), none, none]) rfl rfl (fun _ => rfl) (fun v1 => ?_)
  refine gEx.aload rfl rfl rfl ?_
  refine gEx.getR rfl rfl (h0 0 _ rfl) rfl ?_
  refine gEx.getR rfl rfl (h0 1 _ rfl) rfl ?_
  refine gEx.iload rfl rfl rfl ?_
  refine gEx.aload rfl rfl rfl ?_
  refine gEx.getR rfl rfl (h0 0 _ rfl) rfl ?_
  refine gEx.getR rfl rfl (h0 17 _ rfl) rfl ?_
  refine gEx.iload rfl rfl rfl ?_
  refine gEx.iald rfl rfl (h0 20 _ rfl) ?_
  refine gEx.callVi rfl rfl rfl rfl (h0 2 _ rfl) rfl (fun _ h => (t_Pool_barrelsUnder (by omega) (gsub_Town_2 h0)) _ h) (fun r1 => ?_)
  refine gEx.istore (ls' := [some (.ref a), some (.int x1), some (.ref p2), some (.int v1), some (.int r1.1), none]) rfl rfl rfl ?_
  refine gEx.aload rfl rfl rfl ?_
  refine gEx.getR rfl rfl (h0 0 _ rfl) rfl ?_
  refine gEx.getR rfl rfl (h0 1 _ rfl) rfl ?_
  refine gEx.iload rfl rfl rfl ?_
  refine gEx.iload rfl rfl rfl ?_
  refine gEx.callVi rfl rfl rfl rfl (h0 2 _ rfl) rfl (fun _ h => (t_Pool_oilAmong (by omega) (gsub_Town_2 h0)) _ h) (fun r2 => ?_)
  refine gEx.istore (ls' := [some (.ref a), some (.int x1), some (.ref p2), some (.int v1), some (.int r1.1), some (.int r2.1)]) rfl rfl rfl ?_
  refine gEx.aload rfl rfl rfl ?_
  refine gEx.getR rfl rfl (h0 0 _ rfl) rfl ?_
  refine gEx.iload rfl rfl rfl ?_
  refine gEx.iload rfl rfl rfl ?_
  refine gEx.aload rfl rfl rfl ?_
  refine gEx.callVv rfl rfl rfl rfl (h0 1 _ rfl) rfl (fun _ h => (t_Ground_take (by omega) (gsub_Town_1 h0) h2) _ h) (fun r3 => ?_)
  refine gEx.aload rfl rfl rfl ?_
  refine gEx.getR rfl rfl (h0 0 _ rfl) rfl ?_
  refine gEx.getR rfl rfl (h0 1 _ rfl) rfl ?_
  refine gEx.getR rfl rfl (h0 2 _ rfl) rfl ?_
  refine gEx.iload rfl rfl rfl ?_
  refine gEx.dup2 rfl rfl ?_
  refine gEx.iald rfl rfl (h0 7 _ rfl) ?_
  refine gEx.iload rfl rfl rfl ?_
  refine gEx.iload rfl rfl rfl ?_
  refine gEx.isub rfl rfl ?_
  refine gEx.isub rfl rfl ?_
  refine gEx.iast rfl rfl (h0 7 _ rfl) (fun m1 => ?_)
  refine gEx.aload rfl rfl rfl ?_
  refine gEx.getR rfl rfl (h0 0 _ rfl) rfl ?_
  refine gEx.iload rfl rfl rfl ?_
  refine gEx.aload rfl rfl rfl ?_
  refine gEx.callVi rfl rfl rfl rfl (h0 0 _ rfl) rfl (fun _ h => (t_Town_shift (by omega) h0) _ h) (fun r4 => ?_)
  refine gEx.aload rfl rfl rfl ?_
  refine gEx.iload rfl rfl rfl ?_
  refine gEx.iload rfl rfl rfl ?_
  refine gEx.isub rfl rfl ?_
  refine gEx.callVv rfl rfl rfl rfl (h0 17 _ rfl) rfl (fun _ h => (t_Wells_noteDraw (by omega) (gsub_Town_17 h0) h2) _ h) (fun r5 => ?_)
  refine gEx.aload rfl rfl rfl ?_
  refine gEx.getR rfl rfl (h0 0 _ rfl) rfl ?_
  refine gEx.getR rfl rfl (h0 26 _ rfl) rfl ?_
  refine gEx.aload rfl rfl rfl ?_
  refine gEx.getR rfl rfl (h0 0 _ rfl) rfl ?_
  refine gEx.getR rfl rfl (h0 17 _ rfl) rfl ?_
  refine gEx.iload rfl rfl rfl ?_
  refine gEx.iald rfl rfl (h0 18 _ rfl) ?_
  refine gEx.dup2 rfl rfl ?_
  refine gEx.iald rfl rfl (h0 27 _ rfl) ?_
  refine gEx.iload rfl rfl rfl ?_
  refine gEx.iadd rfl rfl ?_
  refine gEx.iast rfl rfl (h0 27 _ rfl) (fun m2 => ?_)
  refine gEx.iload rfl rfl rfl ?_
  exact gEx.reti rfl rfl
abbrev gcx_92 : gC := glook (gco_92_0)
set_option maxRecDepth 100000 in
set_option maxHeartbeats 4000000 in
theorem t_Town_letHourGo {d : Nat} (hd : 5 ≤ d) {sh : gH} {a : Nat} {p1 : Nat} (h0 : gHas sh.1 a (gsh_Town a)) (h1 : gHas sh.1 p1 (gsh_Currents p1)) {m : gM} : ∀ x, f_Town_letHourGo a p1 m = some x → gR gmi gdf gcd d 92 [.ref a, .ref p1] (sh, m) ((gri x).1, (sh, (gri x).2)) := by
  obtain ⟨d, rfl⟩ : ∃ e, d = e + 1 := ⟨d - 1, by omega⟩
  refine gR_of (mx := 4) (code := gcx_92) rfl rfl (Nat.le_of_ble_eq_true rfl) ?_
  have hJ_45 : ∀ (v1 : Int32) (v2 : Int32) (m1 : gM), gEx d gcx_92 sh gri 45 [some (.ref a), some (.ref p1), some (.int v1), some (.int v2)] [] m1 (J_Town_letHourGo_45 a p1 v1 v2 m1) := by
    intro v1 v2 m1
    unfold J_Town_letHourGo_45
    refine gEx.aload rfl rfl rfl ?_
    refine gEx.aload rfl rfl rfl ?_
    refine gEx.getR rfl rfl (h0 0 _ rfl) rfl ?_
    refine gEx.getR rfl rfl (h0 1 _ rfl) rfl ?_
    refine gEx.callVv rfl rfl rfl rfl (h1 0 _ rfl) rfl (fun _ h => (t_Currents_measure (by omega) h1 (gsub_Town_2 h0)) _ h) (fun r1 => ?_)
    refine gEx.aload rfl rfl rfl ?_
    refine gEx.aload rfl rfl rfl ?_
    refine gEx.getR rfl rfl (h0 0 _ rfl) rfl ?_
    refine gEx.callVv rfl rfl rfl rfl (h1 0 _ rfl) rfl (fun _ h => (t_Currents_moveGround (by omega) h1 (gsub_Town_1 h0)) _ h) (fun r2 => ?_)
    refine gEx.aload rfl rfl rfl ?_
    refine gEx.dupR rfl rfl ?_
    refine gEx.getI rfl rfl (h0 0 _ rfl) rfl ?_
    refine gEx.iconst rfl rfl ?_
    refine gEx.iadd rfl rfl ?_
    refine gEx.putI rfl rfl (h0 0 _ rfl) rfl rfl rfl (fun m2 => ?_)
    refine gEx.iload rfl rfl rfl ?_
    exact gEx.reti rfl rfl
  show gEx d gcx_92 sh gri 0 [some (.ref a), some (.ref p1), none, none] [] m (f_Town_letHourGo a p1 m)
  unfold f_Town_letHourGo
  refine gEx.iconst rfl rfl ?_
  refine gEx.istore (ls' := [some (.ref a), some (.ref p1), some (.int 0), none]) rfl rfl rfl ?_
  refine gEx.iconst rfl rfl ?_
  refine gEx.istore (ls' := [some (.ref a), some (.ref p1), some (.int 0), some (.int 0)]) rfl rfl rfl ?_
  have hL_4 : ∀ (n : Nat) (v3 : Int32) (v4 : Int32) (m3 : gM), gEx d gcx_92 sh gri 4 [some (.ref a), some (.ref p1), some (.int v3), some (.int v4)] [] m3 (L_Town_letHourGo_4 a p1 (fun v3 v4 m3 => J_Town_letHourGo_45 a p1 v3 v4 m3) n v3 v4 m3) := by
    refine gfix_ind (P := fun (f : Int32 → Int32 → gM → Option (Int32 × gM)) => ∀ (v3 : Int32) (v4 : Int32) (m3 : gM), gEx d gcx_92 sh gri 4 [some (.ref a), some (.ref p1), some (.int v3), some (.int v4)] [] m3 (f v3 v4 m3)) (fun _ _ _ => gEx.none) (fun rec_4 hrec_4 => ?_)
    have hJ_39 : ∀ (v5 : Int32) (v6 : Int32) (m4 : gM), gEx d gcx_92 sh gri 39 [some (.ref a), some (.ref p1), some (.int v5), some (.int v6)] [] m4 (J_Town_letHourGo_39 rec_4 v5 v6 m4) := by
      intro v5 v6 m4
      unfold J_Town_letHourGo_39
      refine gEx.iinc (ls' := [some (.ref a), some (.ref p1), some (.int v5), some (.int (v6 + 1))]) rfl rfl rfl rfl ?_
      refine gEx.goto (tn := 4) rfl rfl rfl ?_
      exact gEx.lab rfl rfl (hrec_4 v5 (v6 + 1) m4)
    intro v3 v4 m3
    refine gEx.iload rfl rfl rfl ?_
    refine gEx.aload rfl rfl rfl ?_
    refine gEx.getR rfl rfl (h0 0 _ rfl) rfl ?_
    refine gEx.getI rfl rfl (h0 17 _ rfl) rfl ?_
    refine gEx.icmp_ge (tn := 45) rfl rfl rfl ?_ ?_
    · refine gEx.aload rfl rfl rfl ?_
      refine gEx.getR rfl rfl (h0 0 _ rfl) rfl ?_
      refine gEx.getR rfl rfl (h0 17 _ rfl) rfl ?_
      refine gEx.iload rfl rfl rfl ?_
      refine gEx.bald rfl rfl (h0 21 _ rfl) ?_
      refine gEx.if_eq (tn := 39) rfl rfl rfl ?_ ?_
      · exact gEx.lab rfl rfl (hJ_39 v3 v4 m3)
      · refine gEx.iload rfl rfl rfl ?_
        refine gEx.aload rfl rfl rfl ?_
        refine gEx.iload rfl rfl rfl ?_
        refine gEx.aload rfl rfl rfl ?_
        refine gEx.getR rfl rfl (h1 0 _ rfl) rfl ?_
        refine gEx.callVi rfl rfl rfl rfl (h0 0 _ rfl) rfl (fun _ h => (t_Town_drawBy (by omega) h0 (h1 1 _ rfl)) _ h) (fun r3 => ?_)
        refine gEx.iadd rfl rfl ?_
        refine gEx.istoreL (ls' := fun v7 => [some (.ref a), some (.ref p1), some (.int v7), some (.int v4)]) rfl rfl (fun _ => rfl) (fun v7 => ?_)
        exact gEx.lab rfl rfl (hJ_39 v7 v4 r3.2)
    · exact gEx.lab rfl rfl (hJ_45 v3 v4 m3)
  exact gEx.lab rfl rfl (hL_4 1000 0 0 m)
