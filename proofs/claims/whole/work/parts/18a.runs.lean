/-! ===== the methods' runs follow the pure functions (by program) ===== -/
abbrev gcx_240 : gC := glook (gco_240_0)
set_option maxRecDepth 100000 in
set_option maxHeartbeats 4000000 in
theorem t_fill {d : Nat} (hd : 1 ≤ d) {sh : gH} {p0 : Nat} {n0 : Nat} {x1 : Int32} (h0 : sh.1 p0 = some (.inl (0, n0))) {m : gM} : ∀ x, f_fill p0 n0 x1 m = some x → gR gmi gdf gcd d 240 [.ref p0, .int x1] (sh, m) ((grv x).1, (sh, (grv x).2)) := by
  obtain ⟨d, rfl⟩ : ∃ e, d = e + 1 := ⟨d - 1, by omega⟩
  refine gR_of (mx := 4) (code := gcx_240) rfl rfl (Nat.le_of_ble_eq_true rfl) ?_
  show gEx d gcx_240 sh grv 0 [some (.ref p0), some (.int x1), none, none] [] m (f_fill p0 n0 x1 m)
  unfold f_fill
  refine gEx.iconst rfl rfl ?_
  refine gEx.istore (ls' := [some (.ref p0), some (.int x1), some (.int 0), none]) rfl rfl rfl ?_
  refine gEx.aload rfl rfl rfl ?_
  refine gEx.alen rfl rfl h0 ?_
  refine gEx.istoreL (ls' := fun v1 => [some (.ref p0), some (.int x1), some (.int 0), some (.int v1)]) rfl rfl (fun _ => rfl) (fun v1 => ?_)
  have hL_5 : ∀ (n : Nat) (v2 : Int32) (m1 : gM), gEx d gcx_240 sh grv 5 [some (.ref p0), some (.int x1), some (.int v2), some (.int v1)] [] m1 (L_fill_5 p0 n0 x1 v1 n v2 m1) := by
    refine gfix_ind (P := fun (f : Int32 → gM → Option (gM)) => ∀ (v2 : Int32) (m1 : gM), gEx d gcx_240 sh grv 5 [some (.ref p0), some (.int x1), some (.int v2), some (.int v1)] [] m1 (f v2 m1)) (fun _ _ => gEx.none) (fun rec_5 hrec_5 => ?_)
    intro v2 m1
    refine gEx.iload rfl rfl rfl ?_
    refine gEx.iload rfl rfl rfl ?_
    refine gEx.icmp_ge (tn := 20) rfl rfl rfl ?_ ?_
    · refine gEx.aload rfl rfl rfl ?_
      refine gEx.iload rfl rfl rfl ?_
      refine gEx.iload rfl rfl rfl ?_
      refine gEx.iast rfl rfl h0 (fun m2 => ?_)
      refine gEx.iinc (ls' := [some (.ref p0), some (.int x1), some (.int (v2 + 1)), some (.int v1)]) rfl rfl rfl rfl ?_
      refine gEx.goto (tn := 5) rfl rfl rfl ?_
      exact gEx.lab rfl rfl (hrec_5 (v2 + 1) m2)
    · exact gEx.retv rfl rfl
  exact gEx.lab rfl rfl (hL_5 1000 0 m)
abbrev gcx_1 : gC := glook (gco_1_0)
set_option maxRecDepth 100000 in
set_option maxHeartbeats 4000000 in
theorem t_Books_clear {d : Nat} (hd : 2 ≤ d) {sh : gH} {a : Nat} (h0 : gHas sh.1 a (gsh_Books a)) {m : gM} : ∀ x, f_Books_clear a m = some x → gR gmi gdf gcd d 1 [.ref a] (sh, m) ((grv x).1, (sh, (grv x).2)) := by
  obtain ⟨d, rfl⟩ : ∃ e, d = e + 1 := ⟨d - 1, by omega⟩
  refine gR_of (mx := 1) (code := gcx_1) rfl rfl (Nat.le_of_ble_eq_true rfl) ?_
  show gEx d gcx_1 sh grv 0 [some (.ref a)] [] m (f_Books_clear a m)
  unfold f_Books_clear
  refine gEx.aload rfl rfl rfl ?_
  refine gEx.getR rfl rfl (h0 0 _ rfl) rfl ?_
  refine gEx.iconst rfl rfl ?_
  refine gEx.callSv rfl rfl rfl rfl rfl (fun _ h => (t_fill (by omega) (h0 1 _ rfl)) _ h) (fun r1 => ?_)
  refine gEx.aload rfl rfl rfl ?_
  refine gEx.getR rfl rfl (h0 0 _ rfl) rfl ?_
  refine gEx.iconst rfl rfl ?_
  refine gEx.callSv rfl rfl rfl rfl rfl (fun _ h => (t_fill (by omega) (h0 2 _ rfl)) _ h) (fun r2 => ?_)
  refine gEx.aload rfl rfl rfl ?_
  refine gEx.getR rfl rfl (h0 0 _ rfl) rfl ?_
  refine gEx.iconst rfl rfl ?_
  refine gEx.callSv rfl rfl rfl rfl rfl (fun _ h => (t_fill (by omega) (h0 3 _ rfl)) _ h) (fun r3 => ?_)
  refine gEx.aload rfl rfl rfl ?_
  refine gEx.getR rfl rfl (h0 0 _ rfl) rfl ?_
  refine gEx.iconst rfl rfl ?_
  refine gEx.callSv rfl rfl rfl rfl rfl (fun _ h => (t_fill (by omega) (h0 4 _ rfl)) _ h) (fun r4 => ?_)
  exact gEx.retv rfl rfl
abbrev gcx_2 : gC := glook (gco_2_0)
set_option maxRecDepth 100000 in
set_option maxHeartbeats 4000000 in
theorem t_Books_copyFrom {d : Nat} (hd : 1 ≤ d) {sh : gH} {a : Nat} {p1 : Nat} (h0 : gHas sh.1 a (gsh_Books a)) (h1 : gHas sh.1 p1 (gsh_Books p1)) {m : gM} : ∀ x, f_Books_copyFrom a p1 m = some x → gR gmi gdf gcd d 2 [.ref a, .ref p1] (sh, m) ((grv x).1, (sh, (grv x).2)) := by
  obtain ⟨d, rfl⟩ : ∃ e, d = e + 1 := ⟨d - 1, by omega⟩
  refine gR_of (mx := 2) (code := gcx_2) rfl rfl (Nat.le_of_ble_eq_true rfl) ?_
  show gEx d gcx_2 sh grv 0 [some (.ref a), some (.ref p1)] [] m (f_Books_copyFrom a p1 m)
  unfold f_Books_copyFrom
  refine gEx.aload rfl rfl rfl ?_
  refine gEx.getR rfl rfl (h1 0 _ rfl) rfl ?_
  refine gEx.iconst rfl rfl ?_
  refine gEx.aload rfl rfl rfl ?_
  refine gEx.getR rfl rfl (h0 0 _ rfl) rfl ?_
  refine gEx.iconst rfl rfl ?_
  refine gEx.iconst rfl rfl ?_
  refine gEx.acopy rfl rfl (h1 1 _ rfl) (h0 1 _ rfl) rfl (fun m1 => ?_)
  refine gEx.aload rfl rfl rfl ?_
  refine gEx.getR rfl rfl (h1 0 _ rfl) rfl ?_
  refine gEx.iconst rfl rfl ?_
  refine gEx.aload rfl rfl rfl ?_
  refine gEx.getR rfl rfl (h0 0 _ rfl) rfl ?_
  refine gEx.iconst rfl rfl ?_
  refine gEx.iconst rfl rfl ?_
  refine gEx.acopy rfl rfl (h1 2 _ rfl) (h0 2 _ rfl) rfl (fun m2 => ?_)
  refine gEx.aload rfl rfl rfl ?_
  refine gEx.getR rfl rfl (h1 0 _ rfl) rfl ?_
  refine gEx.iconst rfl rfl ?_
  refine gEx.aload rfl rfl rfl ?_
  refine gEx.getR rfl rfl (h0 0 _ rfl) rfl ?_
  refine gEx.iconst rfl rfl ?_
  refine gEx.iconst rfl rfl ?_
  refine gEx.acopy rfl rfl (h1 3 _ rfl) (h0 3 _ rfl) rfl (fun m3 => ?_)
  refine gEx.aload rfl rfl rfl ?_
  refine gEx.getR rfl rfl (h1 0 _ rfl) rfl ?_
  refine gEx.iconst rfl rfl ?_
  refine gEx.aload rfl rfl rfl ?_
  refine gEx.getR rfl rfl (h0 0 _ rfl) rfl ?_
  refine gEx.iconst rfl rfl ?_
  refine gEx.iconst rfl rfl ?_
  refine gEx.acopy rfl rfl (h1 4 _ rfl) (h0 4 _ rfl) rfl (fun m4 => ?_)
  exact gEx.retv rfl rfl
abbrev gcx_3 : gC := glook (gco_3_0)
set_option maxRecDepth 100000 in
set_option maxHeartbeats 4000000 in
theorem t_Books_priceIn {d : Nat} (hd : 1 ≤ d) {sh : gH} {a : Nat} {x1 : Int32} (h0 : gHas sh.1 a (gsh_Books a)) {m : gM} : ∀ x, f_Books_priceIn a x1 m = some x → gR gmi gdf gcd d 3 [.ref a, .int x1] (sh, m) ((gri x).1, (sh, (gri x).2)) := by
  obtain ⟨d, rfl⟩ : ∃ e, d = e + 1 := ⟨d - 1, by omega⟩
  refine gR_of (mx := 2) (code := gcx_3) rfl rfl (Nat.le_of_ble_eq_true rfl) ?_
  show gEx d gcx_3 sh gri 0 [some (.ref a), some (.int x1)] [] m (f_Books_priceIn a x1 m)
  unfold f_Books_priceIn
  refine gEx.iload rfl rfl rfl ?_
  refine gEx.if_gt (tn := 7) rfl rfl rfl ?_ ?_
  · refine gEx.iconst rfl rfl ?_
    refine gEx.iconst rfl rfl ?_
    refine gEx.aload rfl rfl rfl ?_
    refine gEx.getR rfl rfl (h0 0 _ rfl) rfl ?_
    refine gEx.iload rfl rfl rfl ?_
    refine gEx.iconst rfl rfl ?_
    refine gEx.isub rfl rfl ?_
    refine gEx.iald rfl rfl (h0 4 _ rfl) ?_
    refine gEx.iconst rfl rfl ?_
    refine gEx.idiv rfl rfl ?_
    refine gEx.isub rfl rfl ?_
    refine gEx.mmax rfl rfl rfl ?_
    exact gEx.reti rfl rfl
  · refine gEx.iconst rfl rfl ?_
    exact gEx.reti rfl rfl
abbrev gcx_4 : gC := glook (gco_4_0)
set_option maxRecDepth 100000 in
set_option maxHeartbeats 4000000 in
theorem t_Books_sellAt {d : Nat} (hd : 2 ≤ d) {sh : gH} {a : Nat} {x1 : Int32} {x2 : Int32} {x3 : Int32} (h0 : gHas sh.1 a (gsh_Books a)) {m : gM} : ∀ x, f_Books_sellAt a x1 x2 x3 m = some x → gR gmi gdf gcd d 4 [.ref a, .int x1, .int x2, .int x3] (sh, m) ((gri x).1, (sh, (gri x).2)) := by
  obtain ⟨d, rfl⟩ : ∃ e, d = e + 1 := ⟨d - 1, by omega⟩
  refine gR_of (mx := 5) (code := gcx_4) rfl rfl (Nat.le_of_ble_eq_true rfl) ?_
  show gEx d gcx_4 sh gri 0 [some (.ref a), some (.int x1), some (.int x2), some (.int x3), none] [] m (f_Books_sellAt a x1 x2 x3 m)
  unfold f_Books_sellAt
  refine gEx.iload rfl rfl rfl ?_
  refine gEx.aload rfl rfl rfl ?_
  refine gEx.iload rfl rfl rfl ?_
  refine gEx.callVi rfl rfl rfl rfl (h0 0 _ rfl) rfl (fun _ h => (t_Books_priceIn (by omega) h0) _ h) (fun r1 => ?_)
  refine gEx.imul rfl rfl ?_
  refine gEx.istoreL (ls' := fun v1 => [some (.ref a), some (.int x1), some (.int x2), some (.int x3), some (.int v1)]) rfl rfl (fun _ => rfl) (fun v1 => ?_)
  refine gEx.aload rfl rfl rfl ?_
  refine gEx.getR rfl rfl (h0 0 _ rfl) rfl ?_
  refine gEx.iload rfl rfl rfl ?_
  refine gEx.dup2 rfl rfl ?_
  refine gEx.iald rfl rfl (h0 1 _ rfl) ?_
  refine gEx.iload rfl rfl rfl ?_
  refine gEx.isub rfl rfl ?_
  refine gEx.iast rfl rfl (h0 1 _ rfl) (fun m1 => ?_)
  refine gEx.aload rfl rfl rfl ?_
  refine gEx.getR rfl rfl (h0 0 _ rfl) rfl ?_
  refine gEx.iload rfl rfl rfl ?_
  refine gEx.dup2 rfl rfl ?_
  refine gEx.iald rfl rfl (h0 2 _ rfl) ?_
  refine gEx.iload rfl rfl rfl ?_
  refine gEx.iadd rfl rfl ?_
  refine gEx.iast rfl rfl (h0 2 _ rfl) (fun m2 => ?_)
  refine gEx.aload rfl rfl rfl ?_
  refine gEx.getR rfl rfl (h0 0 _ rfl) rfl ?_
  refine gEx.iload rfl rfl rfl ?_
  refine gEx.dup2 rfl rfl ?_
  refine gEx.iald rfl rfl (h0 3 _ rfl) ?_
  refine gEx.iload rfl rfl rfl ?_
  refine gEx.iadd rfl rfl ?_
  refine gEx.iast rfl rfl (h0 3 _ rfl) (fun m3 => ?_)
  refine gEx.aload rfl rfl rfl ?_
  refine gEx.getR rfl rfl (h0 0 _ rfl) rfl ?_
  refine gEx.iload rfl rfl rfl ?_
  refine gEx.dup2 rfl rfl ?_
  refine gEx.iald rfl rfl (h0 4 _ rfl) ?_
  refine gEx.iload rfl rfl rfl ?_
  refine gEx.iadd rfl rfl ?_
  refine gEx.iast rfl rfl (h0 4 _ rfl) (fun m4 => ?_)
  refine gEx.iload rfl rfl rfl ?_
  exact gEx.reti rfl rfl
abbrev gcx_7 : gC := glook (gco_7_0)
set_option maxRecDepth 100000 in
set_option maxHeartbeats 4000000 in
theorem t_Books_sumOverPersons {d : Nat} (hd : 1 ≤ d) {sh : gH} {p0 : Nat} (h0 : sh.1 p0 = some (.inl (0, 6))) {m : gM} : ∀ x, f_Books_sumOverPersons p0 m = some x → gR gmi gdf gcd d 7 [.ref p0] (sh, m) ((gri x).1, (sh, (gri x).2)) := by
  obtain ⟨d, rfl⟩ : ∃ e, d = e + 1 := ⟨d - 1, by omega⟩
  refine gR_of (mx := 3) (code := gcx_7) rfl rfl (Nat.le_of_ble_eq_true rfl) ?_
  show gEx d gcx_7 sh gri 0 [some (.ref p0), none, none] [] m (f_Books_sumOverPersons p0 m)
  unfold f_Books_sumOverPersons
  refine gEx.iconst rfl rfl ?_
  refine gEx.istore (ls' := [some (.ref p0), some (.int 0), none]) rfl rfl rfl ?_
  refine gEx.iconst rfl rfl ?_
  refine gEx.istore (ls' := [some (.ref p0), some (.int 0), some (.int 0)]) rfl rfl rfl ?_
  have hL_4 : ∀ (n : Nat) (v1 : Int32) (v2 : Int32), gEx d gcx_7 sh gri 4 [some (.ref p0), some (.int v1), some (.int v2)] [] m (L_Books_sumOverPersons_4 p0 m n v1 v2) := by
    refine gfix_ind (P := fun (f : Int32 → Int32 → Option (Int32 × gM)) => ∀ (v1 : Int32) (v2 : Int32), gEx d gcx_7 sh gri 4 [some (.ref p0), some (.int v1), some (.int v2)] [] m (f v1 v2)) (fun _ _ => gEx.none) (fun rec_4 hrec_4 => ?_)
    intro v1 v2
    refine gEx.iload rfl rfl rfl ?_
    refine gEx.iconst rfl rfl ?_
    refine gEx.icmp_ge (tn := 22) rfl rfl rfl ?_ ?_
    · refine gEx.iload rfl rfl rfl ?_
      refine gEx.aload rfl rfl rfl ?_
      refine gEx.iload rfl rfl rfl ?_
      refine gEx.iald rfl rfl h0 ?_
      refine gEx.iadd rfl rfl ?_
      refine gEx.istoreL (ls' := fun v3 => [some (.ref p0), some (.int v3), some (.int v2)]) rfl rfl (fun _ => rfl) (fun v3 => ?_)
      refine gEx.iinc (ls' := [some (.ref p0), some (.int v3), some (.int (v2 + 1))]) rfl rfl rfl rfl ?_
      refine gEx.goto (tn := 4) rfl rfl rfl ?_
      exact gEx.lab rfl rfl (hrec_4 v3 (v2 + 1))
    · refine gEx.iload rfl rfl rfl ?_
      exact gEx.reti rfl rfl
  exact gEx.lab rfl rfl (hL_4 1000 0 0)
abbrev gcx_5 : gC := glook (gco_5_0)
set_option maxRecDepth 100000 in
set_option maxHeartbeats 4000000 in
theorem t_Books_allInTanks {d : Nat} (hd : 2 ≤ d) {sh : gH} {a : Nat} (h0 : gHas sh.1 a (gsh_Books a)) {m : gM} : ∀ x, f_Books_allInTanks a m = some x → gR gmi gdf gcd d 5 [.ref a] (sh, m) ((gri x).1, (sh, (gri x).2)) := by
  obtain ⟨d, rfl⟩ : ∃ e, d = e + 1 := ⟨d - 1, by omega⟩
  refine gR_of (mx := 1) (code := gcx_5) rfl rfl (Nat.le_of_ble_eq_true rfl) ?_
  show gEx d gcx_5 sh gri 0 [some (.ref a)] [] m (f_Books_allInTanks a m)
  unfold f_Books_allInTanks
  refine gEx.aload rfl rfl rfl ?_
  refine gEx.getR rfl rfl (h0 0 _ rfl) rfl ?_
  refine gEx.callSi rfl rfl rfl rfl rfl (fun _ h => (t_Books_sumOverPersons (by omega) (h0 1 _ rfl)) _ h) (fun r1 => ?_)
  exact gEx.reti rfl rfl
abbrev gcx_6 : gC := glook (gco_6_0)
set_option maxRecDepth 100000 in
set_option maxHeartbeats 4000000 in
theorem t_Books_allSold {d : Nat} (hd : 2 ≤ d) {sh : gH} {a : Nat} (h0 : gHas sh.1 a (gsh_Books a)) {m : gM} : ∀ x, f_Books_allSold a m = some x → gR gmi gdf gcd d 6 [.ref a] (sh, m) ((gri x).1, (sh, (gri x).2)) := by
  obtain ⟨d, rfl⟩ : ∃ e, d = e + 1 := ⟨d - 1, by omega⟩
  refine gR_of (mx := 1) (code := gcx_6) rfl rfl (Nat.le_of_ble_eq_true rfl) ?_
  show gEx d gcx_6 sh gri 0 [some (.ref a)] [] m (f_Books_allSold a m)
  unfold f_Books_allSold
  refine gEx.aload rfl rfl rfl ?_
  refine gEx.getR rfl rfl (h0 0 _ rfl) rfl ?_
  refine gEx.callSi rfl rfl rfl rfl rfl (fun _ h => (t_Books_sumOverPersons (by omega) (h0 2 _ rfl)) _ h) (fun r1 => ?_)
  exact gEx.reti rfl rfl
abbrev gcx_46 : gC := glook (gco_46_0)
set_option maxRecDepth 100000 in
set_option maxHeartbeats 4000000 in
theorem t_Pool_liquid {d : Nat} (hd : 1 ≤ d) {sh : gH} {a : Nat} {x1 : Int32} (h0 : gHas sh.1 a (gsh_Pool a)) {m : gM} : ∀ x, f_Pool_liquid a x1 m = some x → gR gmi gdf gcd d 46 [.ref a, .int x1] (sh, m) ((gri x).1, (sh, (gri x).2)) := by
  obtain ⟨d, rfl⟩ : ∃ e, d = e + 1 := ⟨d - 1, by omega⟩
  refine gR_of (mx := 2) (code := gcx_46) rfl rfl (Nat.le_of_ble_eq_true rfl) ?_
  show gEx d gcx_46 sh gri 0 [some (.ref a), some (.int x1)] [] m (f_Pool_liquid a x1 m)
  unfold f_Pool_liquid
  refine gEx.aload rfl rfl rfl ?_
  refine gEx.getR rfl rfl (h0 0 _ rfl) rfl ?_
  refine gEx.iload rfl rfl rfl ?_
  refine gEx.iald rfl rfl (h0 6 _ rfl) ?_
  refine gEx.aload rfl rfl rfl ?_
  refine gEx.getR rfl rfl (h0 0 _ rfl) rfl ?_
  refine gEx.iload rfl rfl rfl ?_
  refine gEx.iald rfl rfl (h0 5 _ rfl) ?_
  refine gEx.iadd rfl rfl ?_
  exact gEx.reti rfl rfl
abbrev gcx_48 : gC := glook (gco_48_0)
set_option maxRecDepth 100000 in
set_option maxHeartbeats 4000000 in
theorem t_Pool_beside {d : Nat} (hd : 1 ≤ d) {sh : gH} {a : Nat} {x1 : Int32} {x2 : Int32} (h0 : gHas sh.1 a (gsh_Pool a)) {m : gM} : ∀ x, f_Pool_beside a x1 x2 m = some x → gR gmi gdf gcd d 48 [.ref a, .int x1, .int x2] (sh, m) ((gri x).1, (sh, (gri x).2)) := by
  obtain ⟨d, rfl⟩ : ∃ e, d = e + 1 := ⟨d - 1, by omega⟩
  refine gR_of (mx := 3) (code := gcx_48) rfl rfl (Nat.le_of_ble_eq_true rfl) ?_
  show gEx d gcx_48 sh gri 0 [some (.ref a), some (.int x1), some (.int x2)] [] m (f_Pool_beside a x1 x2 m)
  unfold f_Pool_beside
  refine gEx.iload rfl rfl rfl ?_
  refine gEx.sw (dft := 91) (ps := #[(0, 28), (1, 46), (2, 70)]) rfl rfl [(0, gok (gib x1 36) (if 0 < (grd m (a + 1) x1) then (some (x1 - 1, m)) else (some ((-4), m)))), (1, gok (gib x1 36) (if (grd m (a + 1) x1) < ((gfd m a 0) - 1) then (some (x1 + 1, m)) else (some ((-4), m)))), (2, gok (gib x1 36) (if 0 < (grd m (a + 2) x1) then (some (x1 - (gfd m a 0), m)) else (some ((-4), m))))] (gok (gib x1 36) (if (grd m (a + 2) x1) < ((gfd m a 1) - 1) then (some (x1 + (gfd m a 0), m)) else (some ((-4), m)))) ⟨rfl, ?_, ⟨rfl, ?_, ⟨rfl, ?_, trivial⟩⟩⟩ ?_
  · show gEx d gcx_48 sh gri 28 _ _ _ _
    refine gEx.aload rfl rfl rfl ?_
    refine gEx.getR rfl rfl (h0 0 _ rfl) rfl ?_
    refine gEx.iload rfl rfl rfl ?_
    refine gEx.iald rfl rfl (h0 1 _ rfl) ?_
    refine gEx.if_le (tn := 43) rfl rfl rfl ?_ ?_
    · refine gEx.iload rfl rfl rfl ?_
      refine gEx.iconst rfl rfl ?_
      refine gEx.isub rfl rfl ?_
      refine gEx.goto (tn := 45) rfl rfl rfl ?_
      refine gEx.lab (ls' := [some (.ref a), none, none]) rfl rfl ?_
      exact gEx.reti rfl rfl
    · refine gEx.iconst rfl rfl ?_
      refine gEx.lab (ls' := [some (.ref a), none, none]) rfl rfl ?_
      exact gEx.reti rfl rfl
  · show gEx d gcx_48 sh gri 46 _ _ _ _
    refine gEx.aload rfl rfl rfl ?_
    refine gEx.getR rfl rfl (h0 0 _ rfl) rfl ?_
    refine gEx.iload rfl rfl rfl ?_
    refine gEx.iald rfl rfl (h0 1 _ rfl) ?_
    refine gEx.aload rfl rfl rfl ?_
    refine gEx.getI rfl rfl (h0 0 _ rfl) rfl ?_
    refine gEx.iconst rfl rfl ?_
    refine gEx.isub rfl rfl ?_
    refine gEx.icmp_ge (tn := 67) rfl rfl rfl ?_ ?_
    · refine gEx.iload rfl rfl rfl ?_
      refine gEx.iconst rfl rfl ?_
      refine gEx.iadd rfl rfl ?_
      refine gEx.goto (tn := 69) rfl rfl rfl ?_
      refine gEx.lab (ls' := [some (.ref a), none, none]) rfl rfl ?_
      exact gEx.reti rfl rfl
    · refine gEx.iconst rfl rfl ?_
      refine gEx.lab (ls' := [some (.ref a), none, none]) rfl rfl ?_
      exact gEx.reti rfl rfl
  · show gEx d gcx_48 sh gri 70 _ _ _ _
    refine gEx.aload rfl rfl rfl ?_
    refine gEx.getR rfl rfl (h0 0 _ rfl) rfl ?_
    refine gEx.iload rfl rfl rfl ?_
    refine gEx.iald rfl rfl (h0 2 _ rfl) ?_
    refine gEx.if_le (tn := 88) rfl rfl rfl ?_ ?_
    · refine gEx.iload rfl rfl rfl ?_
      refine gEx.aload rfl rfl rfl ?_
      refine gEx.getI rfl rfl (h0 0 _ rfl) rfl ?_
      refine gEx.isub rfl rfl ?_
      refine gEx.goto (tn := 90) rfl rfl rfl ?_
      refine gEx.lab (ls' := [some (.ref a), none, none]) rfl rfl ?_
      exact gEx.reti rfl rfl
    · refine gEx.iconst rfl rfl ?_
      refine gEx.lab (ls' := [some (.ref a), none, none]) rfl rfl ?_
      exact gEx.reti rfl rfl
  · show gEx d gcx_48 sh gri 91 _ _ _ _
    refine gEx.aload rfl rfl rfl ?_
    refine gEx.getR rfl rfl (h0 0 _ rfl) rfl ?_
    refine gEx.iload rfl rfl rfl ?_
    refine gEx.iald rfl rfl (h0 2 _ rfl) ?_
    refine gEx.aload rfl rfl rfl ?_
    refine gEx.getI rfl rfl (h0 0 _ rfl) rfl ?_
    refine gEx.iconst rfl rfl ?_
    refine gEx.isub rfl rfl ?_
    refine gEx.icmp_ge (tn := 115) rfl rfl rfl ?_ ?_
    · refine gEx.iload rfl rfl rfl ?_
      refine gEx.aload rfl rfl rfl ?_
      refine gEx.getI rfl rfl (h0 0 _ rfl) rfl ?_
      refine gEx.iadd rfl rfl ?_
      refine gEx.goto (tn := 117) rfl rfl rfl ?_
      refine gEx.lab (ls' := [some (.ref a), none, none]) rfl rfl ?_
      exact gEx.reti rfl rfl
    · refine gEx.iconst rfl rfl ?_
      refine gEx.lab (ls' := [some (.ref a), none, none]) rfl rfl ?_
      exact gEx.reti rfl rfl
abbrev gcx_47 : gC := glook (gco_47_0)
set_option maxRecDepth 100000 in
set_option maxHeartbeats 4000000 in
theorem t_Pool_push {d : Nat} (hd : 1 ≤ d) {sh : gH} {a : Nat} {x1 : Int32} (h0 : gHas sh.1 a (gsh_Pool a)) {m : gM} : ∀ x, f_Pool_push a x1 m = some x → gR gmi gdf gcd d 47 [.ref a, .int x1] (sh, m) ((gri x).1, (sh, (gri x).2)) := by
  obtain ⟨d, rfl⟩ : ∃ e, d = e + 1 := ⟨d - 1, by omega⟩
  refine gR_of (mx := 2) (code := gcx_47) rfl rfl (Nat.le_of_ble_eq_true rfl) ?_
  show gEx d gcx_47 sh gri 0 [some (.ref a), some (.int x1)] [] m (f_Pool_push a x1 m)
  unfold f_Pool_push
  refine gEx.aload rfl rfl rfl ?_
  refine gEx.getR rfl rfl (h0 0 _ rfl) rfl ?_
  refine gEx.iload rfl rfl rfl ?_
  refine gEx.iald rfl rfl (h0 6 _ rfl) ?_
  refine gEx.aload rfl rfl rfl ?_
  refine gEx.getR rfl rfl (h0 0 _ rfl) rfl ?_
  refine gEx.iload rfl rfl rfl ?_
  refine gEx.iald rfl rfl (h0 5 _ rfl) ?_
  refine gEx.iadd rfl rfl ?_
  refine gEx.aload rfl rfl rfl ?_
  refine gEx.getR rfl rfl (h0 0 _ rfl) rfl ?_
  refine gEx.iload rfl rfl rfl ?_
  refine gEx.iald rfl rfl (h0 4 _ rfl) ?_
  refine gEx.iadd rfl rfl ?_
  exact gEx.reti rfl rfl
abbrev gcx_11 : gC := glook (gco_11_0)
set_option maxRecDepth 100000 in
set_option maxHeartbeats 4000000 in
theorem t_Currents_wantOf {d : Nat} (hd : 2 ≤ d) {sh : gH} {p0 : Nat} {x1 : Int32} {x2 : Int32} (h0 : gHas sh.1 p0 (gsh_Pool p0)) {m : gM} : ∀ x, f_Currents_wantOf p0 x1 x2 m = some x → gR gmi gdf gcd d 11 [.ref p0, .int x1, .int x2] (sh, m) ((grl x).1, (sh, (grl x).2)) := by
  obtain ⟨d, rfl⟩ : ∃ e, d = e + 1 := ⟨d - 1, by omega⟩
  refine gR_of (mx := 5) (code := gcx_11) rfl rfl (Nat.le_of_ble_eq_true rfl) ?_
  show gEx d gcx_11 sh grl 0 [some (.ref p0), some (.int x1), some (.int x2), none, none] [] m (f_Currents_wantOf p0 x1 x2 m)
  unfold f_Currents_wantOf
  refine gEx.iload rfl rfl rfl ?_
  refine gEx.iconst rfl rfl ?_
  refine gEx.icmp_ne (tn := 8) rfl rfl rfl ?_ ?_
  · refine gEx.lconst rfl rfl ?_
    exact gEx.retl rfl rfl
  · refine gEx.aload rfl rfl rfl ?_
    refine gEx.iload rfl rfl rfl ?_
    refine gEx.callVi rfl rfl rfl rfl (h0 0 _ rfl) rfl (fun _ h => (t_Pool_push (by omega) h0) _ h) (fun r1 => ?_)
    refine gEx.aload rfl rfl rfl ?_
    refine gEx.iload rfl rfl rfl ?_
    refine gEx.callVi rfl rfl rfl rfl (h0 0 _ rfl) rfl (fun _ h => (t_Pool_push (by omega) h0) _ h) (fun r2 => ?_)
    refine gEx.isub rfl rfl ?_
    refine gEx.i2l rfl rfl ?_
    refine gEx.lstoreL (ls' := fun w1 => [some (.ref p0), some (.int x1), some (.int x2), some (.long w1), none]) rfl rfl (fun _ => rfl) (fun w1 => ?_)
    refine gEx.lload rfl rfl rfl ?_
    refine gEx.lconst rfl rfl ?_
    refine gEx.lcmp rfl rfl ?_
    refine gEx.if_gt (tn := 31) rfl rfl rfl ?_ ?_
    · refine gEx.lload rfl rfl rfl ?_
      refine gEx.aload rfl rfl rfl ?_
      refine gEx.getR rfl rfl (h0 0 _ rfl) rfl ?_
      refine gEx.iload rfl rfl rfl ?_
      refine gEx.iald rfl rfl (h0 3 _ rfl) ?_
      refine gEx.aload rfl rfl rfl ?_
      refine gEx.getR rfl rfl (h0 0 _ rfl) rfl ?_
      refine gEx.iload rfl rfl rfl ?_
      refine gEx.iald rfl rfl (h0 3 _ rfl) ?_
      refine gEx.mmin rfl rfl rfl ?_
      refine gEx.i2l rfl rfl ?_
      refine gEx.lmul rfl rfl ?_
      refine gEx.lconst rfl rfl ?_
      refine gEx.ldiv rfl rfl ?_
      refine gEx.lab (ls' := [some (.ref p0), none, none, none, none]) rfl rfl ?_
      exact gEx.retl rfl rfl
    · refine gEx.lconst rfl rfl ?_
      refine gEx.goto (tn := 53) rfl rfl rfl ?_
      refine gEx.lab (ls' := [some (.ref p0), none, none, none, none]) rfl rfl ?_
      exact gEx.retl rfl rfl
abbrev gcx_12 : gC := glook (gco_12_0 ++ (gco_12_1))
set_option maxRecDepth 100000 in
set_option maxHeartbeats 4000000 in
theorem t_Currents_add {d : Nat} (hd : 2 ≤ d) {sh : gH} {a : Nat} {p1 : Nat} {x2 : Int32} {x3 : Int32} {y4 : Int64} (h0 : gHas sh.1 a (gsh_Currents a)) (h1 : gHas sh.1 p1 (gsh_Pool p1)) {m : gM} : ∀ x, f_Currents_add a p1 x2 x3 y4 m = some x → gR gmi gdf gcd d 12 [.ref a, .ref p1, .int x2, .int x3, .long y4] (sh, m) ((grv x).1, (sh, (grv x).2)) := by
  obtain ⟨d, rfl⟩ : ∃ e, d = e + 1 := ⟨d - 1, by omega⟩
  refine gR_of (mx := 8) (code := gcx_12) rfl rfl (Nat.le_of_ble_eq_true rfl) ?_
  show gEx d gcx_12 sh grv 0 [some (.ref a), some (.ref p1), some (.int x2), some (.int x3), some (.long y4), none, none, none] [] m (f_Currents_add a p1 x2 x3 y4 m)
  unfold f_Currents_add
  refine gEx.aload rfl rfl rfl ?_
  refine gEx.iload rfl rfl rfl ?_
  refine gEx.callVi rfl rfl rfl rfl (h1 0 _ rfl) rfl (fun _ h => (t_Pool_liquid (by omega) h1) _ h) (fun r1 => ?_)
  refine gEx.i2l rfl rfl ?_
  refine gEx.lstoreL (ls' := fun w1 => [some (.ref a), some (.ref p1), some (.int x2), some (.int x3), some (.long y4), none, some (.long w1), none]) rfl rfl (fun _ => rfl) (fun w1 => ?_)
  refine gEx.lload rfl rfl rfl ?_
  refine gEx.lconst rfl rfl ?_
  refine gEx.lcmp rfl rfl ?_
  refine gEx.if_le (tn := 25) rfl rfl rfl ?_ ?_
  · refine gEx.aload rfl rfl rfl ?_
    refine gEx.getI rfl rfl (h0 0 _ rfl) rfl ?_
    refine gEx.iconst rfl rfl ?_
    refine gEx.icmp_lt (tn := 26) rfl rfl rfl ?_ ?_
    · refine gEx.aload rfl rfl rfl ?_
      refine gEx.getR rfl rfl (h0 0 _ rfl) rfl ?_
      refine gEx.aload rfl rfl rfl ?_
      refine gEx.getI rfl rfl (h0 0 _ rfl) rfl ?_
      refine gEx.iload rfl rfl rfl ?_
      refine gEx.iast rfl rfl (h0 3 _ rfl) (fun m1 => ?_)
      refine gEx.aload rfl rfl rfl ?_
      refine gEx.getR rfl rfl (h0 0 _ rfl) rfl ?_
      refine gEx.aload rfl rfl rfl ?_
      refine gEx.getI rfl rfl (h0 0 _ rfl) rfl ?_
      refine gEx.iload rfl rfl rfl ?_
      refine gEx.iast rfl rfl (h0 4 _ rfl) (fun m2 => ?_)
      refine gEx.aload rfl rfl rfl ?_
      refine gEx.getR rfl rfl (h0 0 _ rfl) rfl ?_
      refine gEx.aload rfl rfl rfl ?_
      refine gEx.getI rfl rfl (h0 0 _ rfl) rfl ?_
      refine gEx.lload rfl rfl rfl ?_
      refine gEx.aload rfl rfl rfl ?_
      refine gEx.getR rfl rfl (h1 0 _ rfl) rfl ?_
      refine gEx.iload rfl rfl rfl ?_
      refine gEx.iald rfl rfl (h1 6 _ rfl) ?_
      refine gEx.i2l rfl rfl ?_
      refine gEx.lmul rfl rfl ?_
      refine gEx.lload rfl rfl rfl ?_
      refine gEx.ldiv rfl rfl ?_
      refine gEx.l2i rfl rfl ?_
      refine gEx.iast rfl rfl (h0 5 _ rfl) (fun m3 => ?_)
      refine gEx.aload rfl rfl rfl ?_
      refine gEx.getR rfl rfl (h0 0 _ rfl) rfl ?_
      refine gEx.aload rfl rfl rfl ?_
      refine gEx.getI rfl rfl (h0 0 _ rfl) rfl ?_
      refine gEx.lload rfl rfl rfl ?_
      refine gEx.aload rfl rfl rfl ?_
      refine gEx.getR rfl rfl (h1 0 _ rfl) rfl ?_
      refine gEx.iload rfl rfl rfl ?_
      refine gEx.iald rfl rfl (h1 5 _ rfl) ?_
      refine gEx.i2l rfl rfl ?_
      refine gEx.lmul rfl rfl ?_
      refine gEx.lload rfl rfl rfl ?_
      refine gEx.ldiv rfl rfl ?_
      refine gEx.l2i rfl rfl ?_
      refine gEx.iast rfl rfl (h0 6 _ rfl) (fun m4 => ?_)
      refine gEx.aload rfl rfl rfl ?_
      refine gEx.dupR rfl rfl ?_
      refine gEx.getI rfl rfl (h0 0 _ rfl) rfl ?_
      refine gEx.iconst rfl rfl ?_
      refine gEx.iadd rfl rfl ?_
      refine gEx.putI rfl rfl (h0 0 _ rfl) rfl rfl rfl (fun m5 => ?_)
      exact gEx.retv rfl rfl
    · refine gEx.lab (ls' := [some (.ref a), none, none, none, none, none, none, none]) rfl rfl ?_
      exact gEx.retv rfl rfl
  · refine gEx.lab (ls' := [some (.ref a), none, none, none, none, none, none, none]) rfl rfl ?_
    exact gEx.retv rfl rfl
abbrev gcx_10 : gC := glook (gco_10_0 ++ (gco_10_1))
set_option maxRecDepth 100000 in
set_option maxHeartbeats 4000000 in
theorem t_Currents_measureCell {d : Nat} (hd : 3 ≤ d) {sh : gH} {a : Nat} {p1 : Nat} {x2 : Int32} (h0 : gHas sh.1 a (gsh_Currents a)) (h1 : gHas sh.1 p1 (gsh_Pool p1)) {m : gM} : ∀ x, f_Currents_measureCell a p1 x2 m = some x → gR gmi gdf gcd d 10 [.ref a, .ref p1, .int x2] (sh, m) ((grv x).1, (sh, (grv x).2)) := by
  obtain ⟨d, rfl⟩ : ∃ e, d = e + 1 := ⟨d - 1, by omega⟩
  refine gR_of (mx := 10) (code := gcx_10) rfl rfl (Nat.le_of_ble_eq_true rfl) ?_
  have hJ_46 : ∀ (w1 : Int64) (v1 : Int32) (m1 : gM), gEx d gcx_10 sh grv 46 [some (.ref a), some (.ref p1), some (.int x2), some (.long w1), none, some (.int v1), none, none, none, none] [] m1 (J_Currents_measureCell_46 a p1 x2 w1 v1 m1) := by
    intro w1 v1 m1
    unfold J_Currents_measureCell_46
    refine gEx.aload rfl rfl rfl ?_
    refine gEx.iload rfl rfl rfl ?_
    refine gEx.callVi rfl rfl rfl rfl (h1 0 _ rfl) rfl (fun _ h => (t_Pool_liquid (by omega) h1) _ h) (fun r1 => ?_)
    refine gEx.i2l rfl rfl ?_
    refine gEx.lstoreL (ls' := fun w2 => [some (.ref a), some (.ref p1), some (.int x2), some (.long w1), none, some (.long w2), none, none, none, none]) rfl rfl (fun _ => rfl) (fun w2 => ?_)
    refine gEx.iconst rfl rfl ?_
    refine gEx.istore (ls' := [some (.ref a), some (.ref p1), some (.int x2), some (.long w1), none, some (.long w2), none, some (.int 0), none, none]) rfl rfl rfl ?_
    have hL_57 : ∀ (n : Nat) (v2 : Int32) (m2 : gM), gEx d gcx_10 sh grv 57 [some (.ref a), some (.ref p1), some (.int x2), some (.long w1), none, some (.long w2), none, some (.int v2), none, none] [] m2 (L_Currents_measureCell_57 a p1 x2 w1 w2 n v2 m2) := by
      refine gfix_ind (P := fun (f : Int32 → gM → Option (gM)) => ∀ (v2 : Int32) (m2 : gM), gEx d gcx_10 sh grv 57 [some (.ref a), some (.ref p1), some (.int x2), some (.long w1), none, some (.long w2), none, some (.int v2), none, none] [] m2 (f v2 m2)) (fun _ _ => gEx.none) (fun rec_57 hrec_57 => ?_)
      have hJ_127 : ∀ (v3 : Int32) (m3 : gM), gEx d gcx_10 sh grv 127 [some (.ref a), some (.ref p1), some (.int x2), some (.long w1), none, some (.long w2), none, some (.int v3), none, none] [] m3 (J_Currents_measureCell_127 rec_57 v3 m3) := by
        intro v3 m3
        unfold J_Currents_measureCell_127
        refine gEx.iinc (ls' := [some (.ref a), some (.ref p1), some (.int x2), some (.long w1), none, some (.long w2), none, some (.int (v3 + 1)), none, none]) rfl rfl rfl rfl ?_
        refine gEx.goto (tn := 57) rfl rfl rfl ?_
        exact gEx.lab rfl rfl (hrec_57 (v3 + 1) m3)
      have hJ_110 : ∀ (v4 : Int32) (w3 : Int64) (m4 : gM), gEx d gcx_10 sh grv 110 [some (.ref a), some (.ref p1), some (.int x2), some (.long w1), none, some (.long w2), none, some (.int v4), none, none] [.long w3] m4 (J_Currents_measureCell_110 a p1 x2 rec_57 v4 w3 m4) := by
        intro v4 w3 m4
        unfold J_Currents_measureCell_110
        refine gEx.lstore (ls' := [some (.ref a), some (.ref p1), some (.int x2), some (.long w1), none, some (.long w2), none, some (.int v4), some (.long w3), none]) rfl rfl rfl ?_
        refine gEx.aload rfl rfl rfl ?_
        refine gEx.aload rfl rfl rfl ?_
        refine gEx.iload rfl rfl rfl ?_
        refine gEx.aload rfl rfl rfl ?_
        refine gEx.iload rfl rfl rfl ?_
        refine gEx.iload rfl rfl rfl ?_
        refine gEx.callVi rfl rfl rfl rfl (h1 0 _ rfl) rfl (fun _ h => (t_Pool_beside (by omega) h1) _ h) (fun r2 => ?_)
        refine gEx.lload rfl rfl rfl ?_
        refine gEx.callVv rfl rfl rfl rfl (h0 0 _ rfl) rfl (fun _ h => (t_Currents_add (by omega) h0 h1) _ h) (fun r3 => ?_)
        exact gEx.lab rfl rfl (hJ_127 v4 r3)
      have hJ_103 : ∀ (v5 : Int32) (m5 : gM), gEx d gcx_10 sh grv 103 [some (.ref a), some (.ref p1), some (.int x2), some (.long w1), none, some (.long w2), none, some (.int v5), none, none] [] m5 (J_Currents_measureCell_103 a p1 x2 rec_57 v5 m5) := by
        intro v5 m5
        unfold J_Currents_measureCell_103
        refine gEx.aload rfl rfl rfl ?_
        refine gEx.getR rfl rfl (h0 0 _ rfl) rfl ?_
        refine gEx.iload rfl rfl rfl ?_
        refine gEx.lald rfl rfl (h0 2 _ rfl) ?_
        exact gEx.lab rfl rfl (hJ_110 v5 (grdL m5 (a + 2) v5) m5)
      intro v2 m2
      refine gEx.iload rfl rfl rfl ?_
      refine gEx.iconst rfl rfl ?_
      refine gEx.icmp_ge (tn := 133) rfl rfl rfl ?_ ?_
      · refine gEx.aload rfl rfl rfl ?_
        refine gEx.getR rfl rfl (h0 0 _ rfl) rfl ?_
        refine gEx.iload rfl rfl rfl ?_
        refine gEx.lald rfl rfl (h0 2 _ rfl) ?_
        refine gEx.lconst rfl rfl ?_
        refine gEx.lcmp rfl rfl ?_
        refine gEx.if_le (tn := 127) rfl rfl rfl ?_ ?_
        · refine gEx.lload rfl rfl rfl ?_
          refine gEx.lload rfl rfl rfl ?_
          refine gEx.lcmp rfl rfl ?_
          refine gEx.if_le (tn := 103) rfl rfl rfl ?_ ?_
          · refine gEx.lload rfl rfl rfl ?_
            refine gEx.lconst rfl rfl ?_
            refine gEx.lcmp rfl rfl ?_
            refine gEx.if_le (tn := 103) rfl rfl rfl ?_ ?_
            · refine gEx.aload rfl rfl rfl ?_
              refine gEx.getR rfl rfl (h0 0 _ rfl) rfl ?_
              refine gEx.iload rfl rfl rfl ?_
              refine gEx.lald rfl rfl (h0 2 _ rfl) ?_
              refine gEx.lload rfl rfl rfl ?_
              refine gEx.lmul rfl rfl ?_
              refine gEx.lload rfl rfl rfl ?_
              refine gEx.ldiv rfl rfl ?_
              refine gEx.goto (tn := 110) rfl rfl rfl ?_
              exact gEx.lab rfl rfl (hJ_110 v2 (((grdL m2 (a + 2) v2) * w2) / w1) m2)
            · exact gEx.lab rfl rfl (hJ_103 v2 m2)
          · exact gEx.lab rfl rfl (hJ_103 v2 m2)
        · exact gEx.lab rfl rfl (hJ_127 v2 m2)
      · exact gEx.retv rfl rfl
    exact gEx.lab rfl rfl (hL_57 1000 0 r1.2)
  show gEx d gcx_10 sh grv 0 [some (.ref a), some (.ref p1), some (.int x2), none, none, none, none, none, none, none] [] m (f_Currents_measureCell a p1 x2 m)
  unfold f_Currents_measureCell
  refine gEx.lconst rfl rfl ?_
  refine gEx.lstore (ls' := [some (.ref a), some (.ref p1), some (.int x2), some (.long (Int32.toInt64 0)), none, none, none, none, none, none]) rfl rfl rfl ?_
  refine gEx.iconst rfl rfl ?_
  refine gEx.istore (ls' := [some (.ref a), some (.ref p1), some (.int x2), some (.long (Int32.toInt64 0)), none, some (.int 0), none, none, none, none]) rfl rfl rfl ?_
  have hL_5 : ∀ (n : Nat) (w4 : Int64) (v6 : Int32) (m6 : gM), gEx d gcx_10 sh grv 5 [some (.ref a), some (.ref p1), some (.int x2), some (.long w4), none, some (.int v6), none, none, none, none] [] m6 (L_Currents_measureCell_5 a p1 x2 (fun w4 v6 m6 => J_Currents_measureCell_46 a p1 x2 w4 v6 m6) n w4 v6 m6) := by
    refine gfix_ind (P := fun (f : Int64 → Int32 → gM → Option (gM)) => ∀ (w4 : Int64) (v6 : Int32) (m6 : gM), gEx d gcx_10 sh grv 5 [some (.ref a), some (.ref p1), some (.int x2), some (.long w4), none, some (.int v6), none, none, none, none] [] m6 (f w4 v6 m6)) (fun _ _ _ => gEx.none) (fun rec_5 hrec_5 => ?_)
    intro w4 v6 m6
    refine gEx.iload rfl rfl rfl ?_
    refine gEx.iconst rfl rfl ?_
    refine gEx.icmp_ge (tn := 46) rfl rfl rfl ?_ ?_
    · refine gEx.aload rfl rfl rfl ?_
      refine gEx.getR rfl rfl (h0 0 _ rfl) rfl ?_
      refine gEx.iload rfl rfl rfl ?_
      refine gEx.aload rfl rfl rfl ?_
      refine gEx.iload rfl rfl rfl ?_
      refine gEx.aload rfl rfl rfl ?_
      refine gEx.iload rfl rfl rfl ?_
      refine gEx.iload rfl rfl rfl ?_
      refine gEx.callVi rfl rfl rfl rfl (h1 0 _ rfl) rfl (fun _ h => (t_Pool_beside (by omega) h1) _ h) (fun r4 => ?_)
      refine gEx.callSl rfl rfl rfl rfl rfl (fun _ h => (t_Currents_wantOf (by omega) h1) _ h) (fun r5 => ?_)
      refine gEx.last rfl rfl (h0 2 _ rfl) (fun m7 => ?_)
      refine gEx.lload rfl rfl rfl ?_
      refine gEx.aload rfl rfl rfl ?_
      refine gEx.getR rfl rfl (h0 0 _ rfl) rfl ?_
      refine gEx.iload rfl rfl rfl ?_
      refine gEx.lald rfl rfl (h0 2 _ rfl) ?_
      refine gEx.ladd rfl rfl ?_
      refine gEx.lstoreL (ls' := fun w5 => [some (.ref a), some (.ref p1), some (.int x2), some (.long w5), none, some (.int v6), none, none, none, none]) rfl rfl (fun _ => rfl) (fun w5 => ?_)
      refine gEx.iinc (ls' := [some (.ref a), some (.ref p1), some (.int x2), some (.long w5), none, some (.int (v6 + 1)), none, none, none, none]) rfl rfl rfl rfl ?_
      refine gEx.goto (tn := 5) rfl rfl rfl ?_
      exact gEx.lab rfl rfl (hrec_5 w5 (v6 + 1) m7)
    · exact gEx.lab rfl rfl (hJ_46 w4 v6 m6)
  exact gEx.lab rfl rfl (hL_5 1000 (Int32.toInt64 0) 0 m)
abbrev gcx_9 : gC := glook (gco_9_0)
set_option maxRecDepth 100000 in
set_option maxHeartbeats 4000000 in
theorem t_Currents_measure {d : Nat} (hd : 4 ≤ d) {sh : gH} {a : Nat} {p1 : Nat} (h0 : gHas sh.1 a (gsh_Currents a)) (h1 : gHas sh.1 p1 (gsh_Pool p1)) {m : gM} : ∀ x, f_Currents_measure a p1 m = some x → gR gmi gdf gcd d 9 [.ref a, .ref p1] (sh, m) ((grv x).1, (sh, (grv x).2)) := by
  obtain ⟨d, rfl⟩ : ∃ e, d = e + 1 := ⟨d - 1, by omega⟩
  refine gR_of (mx := 3) (code := gcx_9) rfl rfl (Nat.le_of_ble_eq_true rfl) ?_
  show gEx d gcx_9 sh grv 0 [some (.ref a), some (.ref p1), none] [] m (f_Currents_measure a p1 m)
  unfold f_Currents_measure
  refine gEx.aload rfl rfl rfl ?_
  refine gEx.iconst rfl rfl ?_
  refine gEx.putI rfl rfl (h0 0 _ rfl) rfl rfl rfl (fun m1 => ?_)
  refine gEx.iconst rfl rfl ?_
  refine gEx.istore (ls' := [some (.ref a), some (.ref p1), some (.int 0)]) rfl rfl rfl ?_
  have hL_7 : ∀ (n : Nat) (v1 : Int32) (m2 : gM), gEx d gcx_9 sh grv 7 [some (.ref a), some (.ref p1), some (.int v1)] [] m2 (L_Currents_measure_7 a p1 n v1 m2) := by
    refine gfix_ind (P := fun (f : Int32 → gM → Option (gM)) => ∀ (v1 : Int32) (m2 : gM), gEx d gcx_9 sh grv 7 [some (.ref a), some (.ref p1), some (.int v1)] [] m2 (f v1 m2)) (fun _ _ => gEx.none) (fun rec_7 hrec_7 => ?_)
    have hJ_29 : ∀ (v2 : Int32) (m3 : gM), gEx d gcx_9 sh grv 29 [some (.ref a), some (.ref p1), some (.int v2)] [] m3 (J_Currents_measure_29 rec_7 v2 m3) := by
      intro v2 m3
      unfold J_Currents_measure_29
      refine gEx.iinc (ls' := [some (.ref a), some (.ref p1), some (.int (v2 + 1))]) rfl rfl rfl rfl ?_
      refine gEx.goto (tn := 7) rfl rfl rfl ?_
      exact gEx.lab rfl rfl (hrec_7 (v2 + 1) m3)
    intro v1 m2
    refine gEx.iload rfl rfl rfl ?_
    refine gEx.aload rfl rfl rfl ?_
    refine gEx.getI rfl rfl (h1 0 _ rfl) rfl ?_
    refine gEx.icmp_ge (tn := 35) rfl rfl rfl ?_ ?_
    · refine gEx.aload rfl rfl rfl ?_
      refine gEx.iload rfl rfl rfl ?_
      refine gEx.callVi rfl rfl rfl rfl (h1 0 _ rfl) rfl (fun _ h => (t_Pool_liquid (by omega) h1) _ h) (fun r1 => ?_)
      refine gEx.if_le (tn := 29) rfl rfl rfl ?_ ?_
      · refine gEx.aload rfl rfl rfl ?_
        refine gEx.aload rfl rfl rfl ?_
        refine gEx.iload rfl rfl rfl ?_
        refine gEx.callVv rfl rfl rfl rfl (h0 0 _ rfl) rfl (fun _ h => (t_Currents_measureCell (by omega) h0 h1) _ h) (fun r2 => ?_)
        exact gEx.lab rfl rfl (hJ_29 v1 r2)
      · exact gEx.lab rfl rfl (hJ_29 v1 r1.2)
    · exact gEx.retv rfl rfl
  exact gEx.lab rfl rfl (hL_7 1000 0 m1)
abbrev gcx_15 : gC := glook (gco_15_0)
set_option maxRecDepth 100000 in
set_option maxHeartbeats 4000000 in
theorem t_Currents_moveWater {d : Nat} (hd : 1 ≤ d) {sh : gH} {a : Nat} {p1 : Nat} (h0 : gHas sh.1 a (gsh_Currents a)) (h1 : gHas sh.1 p1 (gsh_Pool p1)) {m : gM} : ∀ x, f_Currents_moveWater a p1 m = some x → gR gmi gdf gcd d 15 [.ref a, .ref p1] (sh, m) ((grv x).1, (sh, (grv x).2)) := by
  obtain ⟨d, rfl⟩ : ∃ e, d = e + 1 := ⟨d - 1, by omega⟩
  refine gR_of (mx := 3) (code := gcx_15) rfl rfl (Nat.le_of_ble_eq_true rfl) ?_
  show gEx d gcx_15 sh grv 0 [some (.ref a), some (.ref p1), none] [] m (f_Currents_moveWater a p1 m)
  unfold f_Currents_moveWater
  refine gEx.iconst rfl rfl ?_
  refine gEx.istore (ls' := [some (.ref a), some (.ref p1), some (.int 0)]) rfl rfl rfl ?_
  have hL_2 : ∀ (n : Nat) (v1 : Int32) (m1 : gM), gEx d gcx_15 sh grv 2 [some (.ref a), some (.ref p1), some (.int v1)] [] m1 (L_Currents_moveWater_2 a p1 n v1 m1) := by
    refine gfix_ind (P := fun (f : Int32 → gM → Option (gM)) => ∀ (v1 : Int32) (m1 : gM), gEx d gcx_15 sh grv 2 [some (.ref a), some (.ref p1), some (.int v1)] [] m1 (f v1 m1)) (fun _ _ => gEx.none) (fun rec_2 hrec_2 => ?_)
    intro v1 m1
    refine gEx.iload rfl rfl rfl ?_
    refine gEx.aload rfl rfl rfl ?_
    refine gEx.getI rfl rfl (h0 0 _ rfl) rfl ?_
    refine gEx.icmp_ge (tn := 56) rfl rfl rfl ?_ ?_
    · refine gEx.aload rfl rfl rfl ?_
      refine gEx.getR rfl rfl (h1 0 _ rfl) rfl ?_
      refine gEx.aload rfl rfl rfl ?_
      refine gEx.getR rfl rfl (h0 0 _ rfl) rfl ?_
      refine gEx.iload rfl rfl rfl ?_
      refine gEx.iald rfl rfl (h0 3 _ rfl) ?_
      refine gEx.dup2 rfl rfl ?_
      refine gEx.iald rfl rfl (h1 5 _ rfl) ?_
      refine gEx.aload rfl rfl rfl ?_
      refine gEx.getR rfl rfl (h0 0 _ rfl) rfl ?_
      refine gEx.iload rfl rfl rfl ?_
      refine gEx.iald rfl rfl (h0 6 _ rfl) ?_
      refine gEx.isub rfl rfl ?_
      refine gEx.iast rfl rfl (h1 5 _ rfl) (fun m2 => ?_)
      refine gEx.aload rfl rfl rfl ?_
      refine gEx.getR rfl rfl (h1 0 _ rfl) rfl ?_
      refine gEx.aload rfl rfl rfl ?_
      refine gEx.getR rfl rfl (h0 0 _ rfl) rfl ?_
      refine gEx.iload rfl rfl rfl ?_
      refine gEx.iald rfl rfl (h0 4 _ rfl) ?_
      refine gEx.dup2 rfl rfl ?_
      refine gEx.iald rfl rfl (h1 5 _ rfl) ?_
      refine gEx.aload rfl rfl rfl ?_
      refine gEx.getR rfl rfl (h0 0 _ rfl) rfl ?_
      refine gEx.iload rfl rfl rfl ?_
      refine gEx.iald rfl rfl (h0 6 _ rfl) ?_
      refine gEx.iadd rfl rfl ?_
      refine gEx.iast rfl rfl (h1 5 _ rfl) (fun m3 => ?_)
      refine gEx.iinc (ls' := [some (.ref a), some (.ref p1), some (.int (v1 + 1))]) rfl rfl rfl rfl ?_
      refine gEx.goto (tn := 2) rfl rfl rfl ?_
      exact gEx.lab rfl rfl (hrec_2 (v1 + 1) m3)
    · exact gEx.retv rfl rfl
  exact gEx.lab rfl rfl (hL_2 1000 0 m)
abbrev gcx_13 : gC := glook (gco_13_0)
set_option maxRecDepth 100000 in
set_option maxHeartbeats 4000000 in
theorem t_Currents_movePool {d : Nat} (hd : 2 ≤ d) {sh : gH} {a : Nat} {p1 : Nat} (h0 : gHas sh.1 a (gsh_Currents a)) (h1 : gHas sh.1 p1 (gsh_Pool p1)) {m : gM} : ∀ x, f_Currents_movePool a p1 m = some x → gR gmi gdf gcd d 13 [.ref a, .ref p1] (sh, m) ((grv x).1, (sh, (grv x).2)) := by
  obtain ⟨d, rfl⟩ : ∃ e, d = e + 1 := ⟨d - 1, by omega⟩
  refine gR_of (mx := 3) (code := gcx_13) rfl rfl (Nat.le_of_ble_eq_true rfl) ?_
  have hJ_56 : ∀ (v1 : Int32) (m1 : gM), gEx d gcx_13 sh grv 56 [some (.ref a), some (.ref p1), some (.int v1)] [] m1 (J_Currents_movePool_56 a p1 v1 m1) := by
    intro v1 m1
    unfold J_Currents_movePool_56
    refine gEx.aload rfl rfl rfl ?_
    refine gEx.aload rfl rfl rfl ?_
    refine gEx.callVv rfl rfl rfl rfl (h0 0 _ rfl) rfl (fun _ h => (t_Currents_moveWater (by omega) h0 h1) _ h) (fun r1 => ?_)
    exact gEx.retv rfl rfl
  show gEx d gcx_13 sh grv 0 [some (.ref a), some (.ref p1), none] [] m (f_Currents_movePool a p1 m)
  unfold f_Currents_movePool
  refine gEx.iconst rfl rfl ?_
  refine gEx.istore (ls' := [some (.ref a), some (.ref p1), some (.int 0)]) rfl rfl rfl ?_
  have hL_2 : ∀ (n : Nat) (v2 : Int32) (m2 : gM), gEx d gcx_13 sh grv 2 [some (.ref a), some (.ref p1), some (.int v2)] [] m2 (L_Currents_movePool_2 a p1 (fun v2 m2 => J_Currents_movePool_56 a p1 v2 m2) n v2 m2) := by
    refine gfix_ind (P := fun (f : Int32 → gM → Option (gM)) => ∀ (v2 : Int32) (m2 : gM), gEx d gcx_13 sh grv 2 [some (.ref a), some (.ref p1), some (.int v2)] [] m2 (f v2 m2)) (fun _ _ => gEx.none) (fun rec_2 hrec_2 => ?_)
    intro v2 m2
    refine gEx.iload rfl rfl rfl ?_
    refine gEx.aload rfl rfl rfl ?_
    refine gEx.getI rfl rfl (h0 0 _ rfl) rfl ?_
    refine gEx.icmp_ge (tn := 56) rfl rfl rfl ?_ ?_
    · refine gEx.aload rfl rfl rfl ?_
      refine gEx.getR rfl rfl (h1 0 _ rfl) rfl ?_
      refine gEx.aload rfl rfl rfl ?_
      refine gEx.getR rfl rfl (h0 0 _ rfl) rfl ?_
      refine gEx.iload rfl rfl rfl ?_
      refine gEx.iald rfl rfl (h0 3 _ rfl) ?_
      refine gEx.dup2 rfl rfl ?_
      refine gEx.iald rfl rfl (h1 6 _ rfl) ?_
      refine gEx.aload rfl rfl rfl ?_
      refine gEx.getR rfl rfl (h0 0 _ rfl) rfl ?_
      refine gEx.iload rfl rfl rfl ?_
      refine gEx.iald rfl rfl (h0 5 _ rfl) ?_
      refine gEx.isub rfl rfl ?_
      refine gEx.iast rfl rfl (h1 6 _ rfl) (fun m3 => ?_)
      refine gEx.aload rfl rfl rfl ?_
      refine gEx.getR rfl rfl (h1 0 _ rfl) rfl ?_
      refine gEx.aload rfl rfl rfl ?_
      refine gEx.getR rfl rfl (h0 0 _ rfl) rfl ?_
      refine gEx.iload rfl rfl rfl ?_
      refine gEx.iald rfl rfl (h0 4 _ rfl) ?_
      refine gEx.dup2 rfl rfl ?_
      refine gEx.iald rfl rfl (h1 6 _ rfl) ?_
      refine gEx.aload rfl rfl rfl ?_
      refine gEx.getR rfl rfl (h0 0 _ rfl) rfl ?_
      refine gEx.iload rfl rfl rfl ?_
      refine gEx.iald rfl rfl (h0 5 _ rfl) ?_
      refine gEx.iadd rfl rfl ?_
      refine gEx.iast rfl rfl (h1 6 _ rfl) (fun m4 => ?_)
      refine gEx.iinc (ls' := [some (.ref a), some (.ref p1), some (.int (v2 + 1))]) rfl rfl rfl rfl ?_
      refine gEx.goto (tn := 2) rfl rfl rfl ?_
      exact gEx.lab rfl rfl (hrec_2 (v2 + 1) m4)
    · exact gEx.lab rfl rfl (hJ_56 v2 m2)
  exact gEx.lab rfl rfl (hL_2 1000 0 m)
abbrev gcx_24 : gC := glook (gco_24_0 ++ (gco_24_1))
set_option maxRecDepth 100000 in
set_option maxHeartbeats 4000000 in
theorem t_Ground_take {d : Nat} (hd : 1 ≤ d) {sh : gH} {a : Nat} {x1 : Int32} {x2 : Int32} {p3 : Nat} (h0 : gHas sh.1 a (gsh_Ground a)) (h3 : sh.1 p3 = some (.inl (0, 9))) {m : gM} : ∀ x, f_Ground_take a x1 x2 p3 m = some x → gR gmi gdf gcd d 24 [.ref a, .int x1, .int x2, .ref p3] (sh, m) ((grv x).1, (sh, (grv x).2)) := by
  obtain ⟨d, rfl⟩ : ∃ e, d = e + 1 := ⟨d - 1, by omega⟩
  refine gR_of (mx := 8) (code := gcx_24) rfl rfl (Nat.le_of_ble_eq_true rfl) ?_
  have hJ_143 : ∀ (v1 : Int32) (v2 : Int32) (v3 : Int32) (v4 : Int32) (m1 : gM), gEx d gcx_24 sh grv 143 [some (.ref a), some (.int x1), some (.int x2), some (.ref p3), some (.int v1), some (.int v2), some (.int v3), some (.int v4)] [] m1 (J_Ground_take_143 a x1 x2 v1 v2 v3 v4 m1) := by
    intro v1 v2 v3 v4 m1
    unfold J_Ground_take_143
    refine gEx.aload rfl rfl rfl ?_
    refine gEx.getR rfl rfl (h0 0 _ rfl) rfl ?_
    refine gEx.getR rfl rfl (h0 1 _ rfl) rfl ?_
    refine gEx.iload rfl rfl rfl ?_
    refine gEx.dup2 rfl rfl ?_
    refine gEx.iald rfl rfl (h0 7 _ rfl) ?_
    refine gEx.iload rfl rfl rfl ?_
    refine gEx.isub rfl rfl ?_
    refine gEx.iast rfl rfl (h0 7 _ rfl) (fun m2 => ?_)
    exact gEx.retv rfl rfl
  have hJ_77 : ∀ (v5 : Int32) (v6 : Int32) (v7 : Int32) (v8 : Int32) (m3 : gM), gEx d gcx_24 sh grv 77 [some (.ref a), some (.int x1), some (.int x2), some (.ref p3), some (.int v5), some (.int v6), some (.int v7), some (.int v8)] [] m3 (J_Ground_take_77 a x1 x2 p3 v5 v6 v7 v8 m3) := by
    intro v5 v6 v7 v8 m3
    unfold J_Ground_take_77
    refine gEx.iconst rfl rfl ?_
    refine gEx.istore (ls' := [some (.ref a), some (.int x1), some (.int x2), some (.ref p3), some (.int v5), some (.int v6), some (.int v7), some (.int 0)]) rfl rfl rfl ?_
    have hL_80 : ∀ (n : Nat) (v9 : Int32) (v10 : Int32) (m4 : gM), gEx d gcx_24 sh grv 80 [some (.ref a), some (.int x1), some (.int x2), some (.ref p3), some (.int v5), some (.int v6), some (.int v9), some (.int v10)] [] m4 (L_Ground_take_80 a p3 v5 (fun v9 v10 m4 => J_Ground_take_143 a x1 x2 v5 v6 v9 v10 m4) n v9 v10 m4) := by
      refine gfix_ind (P := fun (f : Int32 → Int32 → gM → Option (gM)) => ∀ (v9 : Int32) (v10 : Int32) (m4 : gM), gEx d gcx_24 sh grv 80 [some (.ref a), some (.int x1), some (.int x2), some (.ref p3), some (.int v5), some (.int v6), some (.int v9), some (.int v10)] [] m4 (f v9 v10 m4)) (fun _ _ _ => gEx.none) (fun rec_80 hrec_80 => ?_)
      have hJ_120 : ∀ (v11 : Int32) (v12 : Int32) (m5 : gM), gEx d gcx_24 sh grv 120 [some (.ref a), some (.int x1), some (.int x2), some (.ref p3), some (.int v5), some (.int v6), some (.int v11), some (.int v12)] [] m5 (J_Ground_take_120 a p3 v5 rec_80 v11 v12 m5) := by
        intro v11 v12 m5
        unfold J_Ground_take_120
        refine gEx.aload rfl rfl rfl ?_
        refine gEx.getR rfl rfl (h0 0 _ rfl) rfl ?_
        refine gEx.iload rfl rfl rfl ?_
        refine gEx.iload rfl rfl rfl ?_
        refine gEx.iadd rfl rfl ?_
        refine gEx.dup2 rfl rfl ?_
        refine gEx.iald rfl rfl (h0 9 _ rfl) ?_
        refine gEx.aload rfl rfl rfl ?_
        refine gEx.iload rfl rfl rfl ?_
        refine gEx.iald rfl rfl h3 ?_
        refine gEx.isub rfl rfl ?_
        refine gEx.iast rfl rfl (h0 9 _ rfl) (fun m6 => ?_)
        refine gEx.iinc (ls' := [some (.ref a), some (.int x1), some (.int x2), some (.ref p3), some (.int v5), some (.int v6), some (.int v11), some (.int (v12 + 1))]) rfl rfl rfl rfl ?_
        refine gEx.goto (tn := 80) rfl rfl rfl ?_
        exact gEx.lab rfl rfl (hrec_80 v11 (v12 + 1) m6)
      intro v9 v10 m4
      refine gEx.iload rfl rfl rfl ?_
      refine gEx.iconst rfl rfl ?_
      refine gEx.icmp_ge (tn := 143) rfl rfl rfl ?_ ?_
      · refine gEx.iload rfl rfl rfl ?_
        refine gEx.if_le (tn := 120) rfl rfl rfl ?_ ?_
        · refine gEx.aload rfl rfl rfl ?_
          refine gEx.getR rfl rfl (h0 0 _ rfl) rfl ?_
          refine gEx.iload rfl rfl rfl ?_
          refine gEx.iload rfl rfl rfl ?_
          refine gEx.iadd rfl rfl ?_
          refine gEx.iald rfl rfl (h0 9 _ rfl) ?_
          refine gEx.aload rfl rfl rfl ?_
          refine gEx.iload rfl rfl rfl ?_
          refine gEx.iald rfl rfl h3 ?_
          refine gEx.icmp_le (tn := 120) rfl rfl rfl ?_ ?_
          · refine gEx.aload rfl rfl rfl ?_
            refine gEx.iload rfl rfl rfl ?_
            refine gEx.dup2 rfl rfl ?_
            refine gEx.iald rfl rfl h3 ?_
            refine gEx.iconst rfl rfl ?_
            refine gEx.iadd rfl rfl ?_
            refine gEx.iast rfl rfl h3 (fun m7 => ?_)
            refine gEx.iinc (ls' := [some (.ref a), some (.int x1), some (.int x2), some (.ref p3), some (.int v5), some (.int v6), some (.int (v9 + (-1))), some (.int v10)]) rfl rfl rfl rfl ?_
            exact gEx.lab rfl rfl (hJ_120 (v9 + (-1)) v10 m7)
          · exact gEx.lab rfl rfl (hJ_120 v9 v10 m4)
        · exact gEx.lab rfl rfl (hJ_120 v9 v10 m4)
      · exact gEx.lab rfl rfl (hJ_143 v5 v6 v9 v10 m4)
    exact gEx.lab rfl rfl (hL_80 1000 v7 0 m3)
  show gEx d gcx_24 sh grv 0 [some (.ref a), some (.int x1), some (.int x2), some (.ref p3), none, none, none, none] [] m (f_Ground_take a x1 x2 p3 m)
  unfold f_Ground_take
  refine gEx.iload rfl rfl rfl ?_
  refine gEx.iconst rfl rfl ?_
  refine gEx.imul rfl rfl ?_
  refine gEx.istore (ls' := [some (.ref a), some (.int x1), some (.int x2), some (.ref p3), some (.int (x1 * 9)), none, none, none]) rfl rfl rfl ?_
  refine gEx.aload rfl rfl rfl ?_
  refine gEx.getR rfl rfl (h0 0 _ rfl) rfl ?_
  refine gEx.getR rfl rfl (h0 1 _ rfl) rfl ?_
  refine gEx.iload rfl rfl rfl ?_
  refine gEx.iald rfl rfl (h0 7 _ rfl) ?_
  refine gEx.istoreL (ls' := fun v13 => [some (.ref a), some (.int x1), some (.int x2), some (.ref p3), some (.int (x1 * 9)), some (.int v13), none, none]) rfl rfl (fun _ => rfl) (fun v13 => ?_)
  refine gEx.iload rfl rfl rfl ?_
  refine gEx.istore (ls' := [some (.ref a), some (.int x1), some (.int x2), some (.ref p3), some (.int (x1 * 9)), some (.int v13), some (.int x2), none]) rfl rfl rfl ?_
  refine gEx.iconst rfl rfl ?_
  refine gEx.istore (ls' := [some (.ref a), some (.int x1), some (.int x2), some (.ref p3), some (.int (x1 * 9)), some (.int v13), some (.int x2), some (.int 0)]) rfl rfl rfl ?_
  have hL_23 : ∀ (n : Nat) (v14 : Int32) (v15 : Int32) (m8 : gM), gEx d gcx_24 sh grv 23 [some (.ref a), some (.int x1), some (.int x2), some (.ref p3), some (.int (x1 * 9)), some (.int v13), some (.int v14), some (.int v15)] [] m8 (L_Ground_take_23 a x1 x2 p3 v13 (fun v14 v15 m8 => J_Ground_take_77 a x1 x2 p3 (x1 * 9) v13 v14 v15 m8) n v14 v15 m8) := by
    refine gfix_ind (P := fun (f : Int32 → Int32 → gM → Option (gM)) => ∀ (v14 : Int32) (v15 : Int32) (m8 : gM), gEx d gcx_24 sh grv 23 [some (.ref a), some (.int x1), some (.int x2), some (.ref p3), some (.int (x1 * 9)), some (.int v13), some (.int v14), some (.int v15)] [] m8 (f v14 v15 m8)) (fun _ _ _ => gEx.none) (fun rec_23 hrec_23 => ?_)
    have hJ_61 : ∀ (v16 : Int32) (v17 : Int32) (v18 : Int32) (v19 : Int32) (m9 : gM), gEx d gcx_24 sh grv 61 [some (.ref a), some (.int x1), some (.int x2), some (.ref p3), some (.int (x1 * 9)), some (.int v13), some (.int v16), some (.int v17)] [.int v19, .int v18, .ref p3] m9 (J_Ground_take_61 p3 rec_23 v16 v17 v18 v19 m9) := by
      intro v16 v17 v18 v19 m9
      unfold J_Ground_take_61
      refine gEx.iast rfl rfl h3 (fun m10 => ?_)
      refine gEx.iload rfl rfl rfl ?_
      refine gEx.aload rfl rfl rfl ?_
      refine gEx.iload rfl rfl rfl ?_
      refine gEx.iald rfl rfl h3 ?_
      refine gEx.isub rfl rfl ?_
      refine gEx.istoreL (ls' := fun v20 => [some (.ref a), some (.int x1), some (.int x2), some (.ref p3), some (.int (x1 * 9)), some (.int v13), some (.int v20), some (.int v17)]) rfl rfl (fun _ => rfl) (fun v20 => ?_)
      refine gEx.iinc (ls' := [some (.ref a), some (.int x1), some (.int x2), some (.ref p3), some (.int (x1 * 9)), some (.int v13), some (.int v20), some (.int (v17 + 1))]) rfl rfl rfl rfl ?_
      refine gEx.goto (tn := 23) rfl rfl rfl ?_
      exact gEx.lab rfl rfl (hrec_23 v20 (v17 + 1) m10)
    intro v14 v15 m8
    refine gEx.iload rfl rfl rfl ?_
    refine gEx.iconst rfl rfl ?_
    refine gEx.icmp_ge (tn := 77) rfl rfl rfl ?_ ?_
    · refine gEx.aload rfl rfl rfl ?_
      refine gEx.iload rfl rfl rfl ?_
      refine gEx.iload rfl rfl rfl ?_
      refine gEx.if_gt (tn := 42) rfl rfl rfl ?_ ?_
      · refine gEx.iload rfl rfl rfl ?_
        refine gEx.i2l rfl rfl ?_
        refine gEx.aload rfl rfl rfl ?_
        refine gEx.getR rfl rfl (h0 0 _ rfl) rfl ?_
        refine gEx.iload rfl rfl rfl ?_
        refine gEx.iload rfl rfl rfl ?_
        refine gEx.iadd rfl rfl ?_
        refine gEx.iald rfl rfl (h0 9 _ rfl) ?_
        refine gEx.i2l rfl rfl ?_
        refine gEx.lmul rfl rfl ?_
        refine gEx.iload rfl rfl rfl ?_
        refine gEx.i2l rfl rfl ?_
        refine gEx.ldiv rfl rfl ?_
        refine gEx.l2i rfl rfl ?_
        exact gEx.lab rfl rfl (hJ_61 v14 v15 v15 (Int64.toInt32 (((Int32.toInt64 x2) * (Int32.toInt64 (grd m8 (a + 9) ((x1 * 9) + v15)))) / (Int32.toInt64 v13))) m8)
      · refine gEx.iconst rfl rfl ?_
        refine gEx.goto (tn := 61) rfl rfl rfl ?_
        exact gEx.lab rfl rfl (hJ_61 v14 v15 v15 0 m8)
    · exact gEx.lab rfl rfl (hJ_77 (x1 * 9) v13 v14 v15 m8)
  exact gEx.lab rfl rfl (hL_23 1000 x2 0 m)
abbrev gcx_14 : gC := glook (gco_14_0 ++ (gco_14_1))
set_option maxRecDepth 100000 in
set_option maxHeartbeats 4000000 in
theorem t_Currents_moveGround {d : Nat} (hd : 2 ≤ d) {sh : gH} {a : Nat} {p1 : Nat} (h0 : gHas sh.1 a (gsh_Currents a)) (h1 : gHas sh.1 p1 (gsh_Ground p1)) {m : gM} : ∀ x, f_Currents_moveGround a p1 m = some x → gR gmi gdf gcd d 14 [.ref a, .ref p1] (sh, m) ((grv x).1, (sh, (grv x).2)) := by
  obtain ⟨d, rfl⟩ : ∃ e, d = e + 1 := ⟨d - 1, by omega⟩
  refine gR_of (mx := 4) (code := gcx_14) rfl rfl (Nat.le_of_ble_eq_true rfl) ?_
  have hJ_164 : ∀ (v1 : Int32) (m1 : gM), gEx d gcx_14 sh grv 164 [some (.ref a), some (.ref p1), some (.int v1), none] [] m1 (J_Currents_moveGround_164 a p1 v1 m1) := by
    intro v1 m1
    unfold J_Currents_moveGround_164
    refine gEx.aload rfl rfl rfl ?_
    refine gEx.aload rfl rfl rfl ?_
    refine gEx.getR rfl rfl (h1 0 _ rfl) rfl ?_
    refine gEx.callVv rfl rfl rfl rfl (h0 0 _ rfl) rfl (fun _ h => (t_Currents_moveWater (by omega) h0 (gsub_Ground_1 h1)) _ h) (fun r1 => ?_)
    exact gEx.retv rfl rfl
  have hJ_83 : ∀ (v2 : Int32) (m2 : gM), gEx d gcx_14 sh grv 83 [some (.ref a), some (.ref p1), some (.int v2), none] [] m2 (J_Currents_moveGround_83 a p1 v2 m2) := by
    intro v2 m2
    unfold J_Currents_moveGround_83
    refine gEx.iconst rfl rfl ?_
    refine gEx.istore (ls' := [some (.ref a), some (.ref p1), some (.int 0), none]) rfl rfl rfl ?_
    have hL_85 : ∀ (n : Nat) (v3 : Int32) (m3 : gM), gEx d gcx_14 sh grv 85 [some (.ref a), some (.ref p1), some (.int v3), none] [] m3 (L_Currents_moveGround_85 a p1 (fun v3 m3 => J_Currents_moveGround_164 a p1 v3 m3) n v3 m3) := by
      refine gfix_ind (P := fun (f : Int32 → gM → Option (gM)) => ∀ (v3 : Int32) (m3 : gM), gEx d gcx_14 sh grv 85 [some (.ref a), some (.ref p1), some (.int v3), none] [] m3 (f v3 m3)) (fun _ _ => gEx.none) (fun rec_85 hrec_85 => ?_)
      have hJ_158 : ∀ (v4 : Int32) (v5 : Int32) (m4 : gM), gEx d gcx_14 sh grv 158 [some (.ref a), some (.ref p1), some (.int v4), some (.int v5)] [] m4 (J_Currents_moveGround_158 rec_85 v4 v5 m4) := by
        intro v4 v5 m4
        unfold J_Currents_moveGround_158
        refine gEx.iinc (ls' := [some (.ref a), some (.ref p1), some (.int (v4 + 1)), some (.int v5)]) rfl rfl rfl rfl ?_
        refine gEx.goto (tn := 85) rfl rfl rfl ?_
        exact gEx.lab rfl rfl (hrec_85 (v4 + 1) m4)
      intro v3 m3
      refine gEx.iload rfl rfl rfl ?_
      refine gEx.aload rfl rfl rfl ?_
      refine gEx.getR rfl rfl (h1 0 _ rfl) rfl ?_
      refine gEx.getI rfl rfl (h1 1 _ rfl) rfl ?_
      refine gEx.icmp_ge (tn := 164) rfl rfl rfl ?_ ?_
      · refine gEx.iconst rfl rfl ?_
        refine gEx.istore (ls' := [some (.ref a), some (.ref p1), some (.int v3), some (.int 0)]) rfl rfl rfl ?_
        have hL_98 : ∀ (n : Nat) (v6 : Int32) (m5 : gM), gEx d gcx_14 sh grv 98 [some (.ref a), some (.ref p1), some (.int v3), some (.int v6)] [] m5 (L_Currents_moveGround_98 a p1 v3 (fun v6 m5 => J_Currents_moveGround_158 rec_85 v3 v6 m5) n v6 m5) := by
          refine gfix_ind (P := fun (f : Int32 → gM → Option (gM)) => ∀ (v6 : Int32) (m5 : gM), gEx d gcx_14 sh grv 98 [some (.ref a), some (.ref p1), some (.int v3), some (.int v6)] [] m5 (f v6 m5)) (fun _ _ => gEx.none) (fun rec_98 hrec_98 => ?_)
          intro v6 m5
          refine gEx.iload rfl rfl rfl ?_
          refine gEx.iconst rfl rfl ?_
          refine gEx.icmp_ge (tn := 158) rfl rfl rfl ?_ ?_
          · refine gEx.aload rfl rfl rfl ?_
            refine gEx.getR rfl rfl (h1 0 _ rfl) rfl ?_
            refine gEx.iload rfl rfl rfl ?_
            refine gEx.iconst rfl rfl ?_
            refine gEx.imul rfl rfl ?_
            refine gEx.iload rfl rfl rfl ?_
            refine gEx.iadd rfl rfl ?_
            refine gEx.dup2 rfl rfl ?_
            refine gEx.iald rfl rfl (h1 9 _ rfl) ?_
            refine gEx.aload rfl rfl rfl ?_
            refine gEx.getR rfl rfl (h0 0 _ rfl) rfl ?_
            refine gEx.iload rfl rfl rfl ?_
            refine gEx.iconst rfl rfl ?_
            refine gEx.imul rfl rfl ?_
            refine gEx.iload rfl rfl rfl ?_
            refine gEx.iadd rfl rfl ?_
            refine gEx.iald rfl rfl (h0 7 _ rfl) ?_
            refine gEx.iadd rfl rfl ?_
            refine gEx.iast rfl rfl (h1 9 _ rfl) (fun m6 => ?_)
            refine gEx.aload rfl rfl rfl ?_
            refine gEx.getR rfl rfl (h1 0 _ rfl) rfl ?_
            refine gEx.getR rfl rfl (h1 1 _ rfl) rfl ?_
            refine gEx.iload rfl rfl rfl ?_
            refine gEx.dup2 rfl rfl ?_
            refine gEx.iald rfl rfl (h1 7 _ rfl) ?_
            refine gEx.aload rfl rfl rfl ?_
            refine gEx.getR rfl rfl (h0 0 _ rfl) rfl ?_
            refine gEx.iload rfl rfl rfl ?_
            refine gEx.iconst rfl rfl ?_
            refine gEx.imul rfl rfl ?_
            refine gEx.iload rfl rfl rfl ?_
            refine gEx.iadd rfl rfl ?_
            refine gEx.iald rfl rfl (h0 7 _ rfl) ?_
            refine gEx.iadd rfl rfl ?_
            refine gEx.iast rfl rfl (h1 7 _ rfl) (fun m7 => ?_)
            refine gEx.iinc (ls' := [some (.ref a), some (.ref p1), some (.int v3), some (.int (v6 + 1))]) rfl rfl rfl rfl ?_
            refine gEx.goto (tn := 98) rfl rfl rfl ?_
            exact gEx.lab rfl rfl (hrec_98 (v6 + 1) m7)
          · exact gEx.lab rfl rfl (hJ_158 v3 v6 m5)
        exact gEx.lab rfl rfl (hL_98 1000 0 m3)
      · exact gEx.lab rfl rfl (hJ_164 v3 m3)
    exact gEx.lab rfl rfl (hL_85 1000 0 m2)
  show gEx d gcx_14 sh grv 0 [some (.ref a), some (.ref p1), none, none] [] m (f_Currents_moveGround a p1 m)
  unfold f_Currents_moveGround
  refine gEx.aload rfl rfl rfl ?_
  refine gEx.getR rfl rfl (h0 0 _ rfl) rfl ?_
  refine gEx.iconst rfl rfl ?_
  refine gEx.callSv rfl rfl rfl rfl rfl (fun _ h => (t_fill (by omega) (h0 7 _ rfl)) _ h) (fun r2 => ?_)
  refine gEx.iconst rfl rfl ?_
  refine gEx.istore (ls' := [some (.ref a), some (.ref p1), some (.int 0), none]) rfl rfl rfl ?_
  have hL_10 : ∀ (n : Nat) (v7 : Int32) (m8 : gM), gEx d gcx_14 sh grv 10 [some (.ref a), some (.ref p1), some (.int v7), none] [] m8 (L_Currents_moveGround_10 a p1 (fun v7 m8 => J_Currents_moveGround_83 a p1 v7 m8) n v7 m8) := by
    refine gfix_ind (P := fun (f : Int32 → gM → Option (gM)) => ∀ (v7 : Int32) (m8 : gM), gEx d gcx_14 sh grv 10 [some (.ref a), some (.ref p1), some (.int v7), none] [] m8 (f v7 m8)) (fun _ _ => gEx.none) (fun rec_10 hrec_10 => ?_)
    have hJ_77 : ∀ (v8 : Int32) (v9 : Int32) (m9 : gM), gEx d gcx_14 sh grv 77 [some (.ref a), some (.ref p1), some (.int v8), some (.int v9)] [] m9 (J_Currents_moveGround_77 rec_10 v8 v9 m9) := by
      intro v8 v9 m9
      unfold J_Currents_moveGround_77
      refine gEx.iinc (ls' := [some (.ref a), some (.ref p1), some (.int (v8 + 1)), some (.int v9)]) rfl rfl rfl rfl ?_
      refine gEx.goto (tn := 10) rfl rfl rfl ?_
      exact gEx.lab rfl rfl (hrec_10 (v8 + 1) m9)
    intro v7 m8
    refine gEx.iload rfl rfl rfl ?_
    refine gEx.aload rfl rfl rfl ?_
    refine gEx.getI rfl rfl (h0 0 _ rfl) rfl ?_
    refine gEx.icmp_ge (tn := 83) rfl rfl rfl ?_ ?_
    · refine gEx.aload rfl rfl rfl ?_
      refine gEx.aload rfl rfl rfl ?_
      refine gEx.getR rfl rfl (h0 0 _ rfl) rfl ?_
      refine gEx.iload rfl rfl rfl ?_
      refine gEx.iald rfl rfl (h0 3 _ rfl) ?_
      refine gEx.aload rfl rfl rfl ?_
      refine gEx.getR rfl rfl (h0 0 _ rfl) rfl ?_
      refine gEx.iload rfl rfl rfl ?_
      refine gEx.iald rfl rfl (h0 5 _ rfl) ?_
      refine gEx.aload rfl rfl rfl ?_
      refine gEx.getR rfl rfl (h0 0 _ rfl) rfl ?_
      refine gEx.callVv rfl rfl rfl rfl (h1 0 _ rfl) rfl (fun _ h => (t_Ground_take (by omega) h1 (h0 1 _ rfl)) _ h) (fun r3 => ?_)
      refine gEx.iconst rfl rfl ?_
      refine gEx.istore (ls' := [some (.ref a), some (.ref p1), some (.int v7), some (.int 0)]) rfl rfl rfl ?_
      have hL_40 : ∀ (n : Nat) (v10 : Int32) (m10 : gM), gEx d gcx_14 sh grv 40 [some (.ref a), some (.ref p1), some (.int v7), some (.int v10)] [] m10 (L_Currents_moveGround_40 a v7 (fun v10 m10 => J_Currents_moveGround_77 rec_10 v7 v10 m10) n v10 m10) := by
        refine gfix_ind (P := fun (f : Int32 → gM → Option (gM)) => ∀ (v10 : Int32) (m10 : gM), gEx d gcx_14 sh grv 40 [some (.ref a), some (.ref p1), some (.int v7), some (.int v10)] [] m10 (f v10 m10)) (fun _ _ => gEx.none) (fun rec_40 hrec_40 => ?_)
        intro v10 m10
        refine gEx.iload rfl rfl rfl ?_
        refine gEx.iconst rfl rfl ?_
        refine gEx.icmp_ge (tn := 77) rfl rfl rfl ?_ ?_
        · refine gEx.aload rfl rfl rfl ?_
          refine gEx.getR rfl rfl (h0 0 _ rfl) rfl ?_
          refine gEx.aload rfl rfl rfl ?_
          refine gEx.getR rfl rfl (h0 0 _ rfl) rfl ?_
          refine gEx.iload rfl rfl rfl ?_
          refine gEx.iald rfl rfl (h0 4 _ rfl) ?_
          refine gEx.iconst rfl rfl ?_
          refine gEx.imul rfl rfl ?_
          refine gEx.iload rfl rfl rfl ?_
          refine gEx.iadd rfl rfl ?_
          refine gEx.dup2 rfl rfl ?_
          refine gEx.iald rfl rfl (h0 7 _ rfl) ?_
          refine gEx.aload rfl rfl rfl ?_
          refine gEx.getR rfl rfl (h0 0 _ rfl) rfl ?_
          refine gEx.iload rfl rfl rfl ?_
          refine gEx.iald rfl rfl (h0 1 _ rfl) ?_
          refine gEx.iadd rfl rfl ?_
          refine gEx.iast rfl rfl (h0 7 _ rfl) (fun m11 => ?_)
          refine gEx.iinc (ls' := [some (.ref a), some (.ref p1), some (.int v7), some (.int (v10 + 1))]) rfl rfl rfl rfl ?_
          refine gEx.goto (tn := 40) rfl rfl rfl ?_
          exact gEx.lab rfl rfl (hrec_40 (v10 + 1) m11)
        · exact gEx.lab rfl rfl (hJ_77 v7 v10 m10)
      exact gEx.lab rfl rfl (hL_40 1000 0 r3)
    · exact gEx.lab rfl rfl (hJ_83 v7 m8)
  exact gEx.lab rfl rfl (hL_10 1000 0 r2)
abbrev gcx_17 : gC := glook (gco_17_0)
set_option maxRecDepth 100000 in
set_option maxHeartbeats 4000000 in
theorem t_Deeds_clear {d : Nat} (hd : 2 ≤ d) {sh : gH} {a : Nat} (h0 : gHas sh.1 a (gsh_Deeds a)) {m : gM} : ∀ x, f_Deeds_clear a m = some x → gR gmi gdf gcd d 17 [.ref a] (sh, m) ((grv x).1, (sh, (grv x).2)) := by
  obtain ⟨d, rfl⟩ : ∃ e, d = e + 1 := ⟨d - 1, by omega⟩
  refine gR_of (mx := 1) (code := gcx_17) rfl rfl (Nat.le_of_ble_eq_true rfl) ?_
  show gEx d gcx_17 sh grv 0 [some (.ref a)] [] m (f_Deeds_clear a m)
  unfold f_Deeds_clear
  refine gEx.aload rfl rfl rfl ?_
  refine gEx.getR rfl rfl (h0 0 _ rfl) rfl ?_
  refine gEx.iconst rfl rfl ?_
  refine gEx.callSv rfl rfl rfl rfl rfl (fun _ h => (t_fill (by omega) (h0 1 _ rfl)) _ h) (fun r1 => ?_)
  refine gEx.aload rfl rfl rfl ?_
  refine gEx.iconst rfl rfl ?_
  refine gEx.putI rfl rfl (h0 0 _ rfl) rfl rfl rfl (fun m1 => ?_)
  exact gEx.retv rfl rfl
abbrev gcx_18 : gC := glook (gco_18_0)
set_option maxRecDepth 100000 in
set_option maxHeartbeats 4000000 in
theorem t_Deeds_copyFrom {d : Nat} (hd : 1 ≤ d) {sh : gH} {a : Nat} {p1 : Nat} (h0 : gHas sh.1 a (gsh_Deeds a)) (h1 : gHas sh.1 p1 (gsh_Deeds p1)) {m : gM} : ∀ x, f_Deeds_copyFrom a p1 m = some x → gR gmi gdf gcd d 18 [.ref a, .ref p1] (sh, m) ((grv x).1, (sh, (grv x).2)) := by
  obtain ⟨d, rfl⟩ : ∃ e, d = e + 1 := ⟨d - 1, by omega⟩
  refine gR_of (mx := 2) (code := gcx_18) rfl rfl (Nat.le_of_ble_eq_true rfl) ?_
  show gEx d gcx_18 sh grv 0 [some (.ref a), some (.ref p1)] [] m (f_Deeds_copyFrom a p1 m)
  unfold f_Deeds_copyFrom
  refine gEx.aload rfl rfl rfl ?_
  refine gEx.aload rfl rfl rfl ?_
  refine gEx.getI rfl rfl (h1 0 _ rfl) rfl ?_
  refine gEx.putI rfl rfl (h0 0 _ rfl) rfl rfl rfl (fun m1 => ?_)
  refine gEx.aload rfl rfl rfl ?_
  refine gEx.getR rfl rfl (h1 0 _ rfl) rfl ?_
  refine gEx.iconst rfl rfl ?_
  refine gEx.aload rfl rfl rfl ?_
  refine gEx.getR rfl rfl (h0 0 _ rfl) rfl ?_
  refine gEx.iconst rfl rfl ?_
  refine gEx.iconst rfl rfl ?_
  refine gEx.acopy rfl rfl (h1 1 _ rfl) (h0 1 _ rfl) rfl (fun m2 => ?_)
  refine gEx.aload rfl rfl rfl ?_
  refine gEx.getR rfl rfl (h1 0 _ rfl) rfl ?_
  refine gEx.iconst rfl rfl ?_
  refine gEx.aload rfl rfl rfl ?_
  refine gEx.getR rfl rfl (h0 0 _ rfl) rfl ?_
  refine gEx.iconst rfl rfl ?_
  refine gEx.iconst rfl rfl ?_
  refine gEx.acopy rfl rfl (h1 2 _ rfl) (h0 2 _ rfl) rfl (fun m3 => ?_)
  refine gEx.aload rfl rfl rfl ?_
  refine gEx.getR rfl rfl (h1 0 _ rfl) rfl ?_
  refine gEx.iconst rfl rfl ?_
  refine gEx.aload rfl rfl rfl ?_
  refine gEx.getR rfl rfl (h0 0 _ rfl) rfl ?_
  refine gEx.iconst rfl rfl ?_
  refine gEx.iconst rfl rfl ?_
  refine gEx.acopy rfl rfl (h1 3 _ rfl) (h0 3 _ rfl) rfl (fun m4 => ?_)
  refine gEx.aload rfl rfl rfl ?_
  refine gEx.getR rfl rfl (h1 0 _ rfl) rfl ?_
  refine gEx.iconst rfl rfl ?_
  refine gEx.aload rfl rfl rfl ?_
  refine gEx.getR rfl rfl (h0 0 _ rfl) rfl ?_
  refine gEx.iconst rfl rfl ?_
  refine gEx.iconst rfl rfl ?_
  refine gEx.acopy rfl rfl (h1 4 _ rfl) (h0 4 _ rfl) rfl (fun m5 => ?_)
  refine gEx.aload rfl rfl rfl ?_
  refine gEx.getR rfl rfl (h1 0 _ rfl) rfl ?_
  refine gEx.iconst rfl rfl ?_
  refine gEx.aload rfl rfl rfl ?_
  refine gEx.getR rfl rfl (h0 0 _ rfl) rfl ?_
  refine gEx.iconst rfl rfl ?_
  refine gEx.iconst rfl rfl ?_
  refine gEx.acopy rfl rfl (h1 5 _ rfl) (h0 5 _ rfl) rfl (fun m6 => ?_)
  exact gEx.retv rfl rfl
abbrev gcx_19 : gC := glook (gco_19_0)
set_option maxRecDepth 100000 in
set_option maxHeartbeats 4000000 in
theorem t_Deeds_add {d : Nat} (hd : 1 ≤ d) {sh : gH} {a : Nat} {x1 : Int32} {x2 : Int32} {x3 : Int32} {x4 : Int32} (h0 : gHas sh.1 a (gsh_Deeds a)) {m : gM} : ∀ x, f_Deeds_add a x1 x2 x3 x4 m = some x → gR gmi gdf gcd d 19 [.ref a, .int x1, .int x2, .int x3, .int x4] (sh, m) ((gri x).1, (sh, (gri x).2)) := by
  obtain ⟨d, rfl⟩ : ∃ e, d = e + 1 := ⟨d - 1, by omega⟩
  refine gR_of (mx := 5) (code := gcx_19) rfl rfl (Nat.le_of_ble_eq_true rfl) ?_
  show gEx d gcx_19 sh gri 0 [some (.ref a), some (.int x1), some (.int x2), some (.int x3), some (.int x4)] [] m (f_Deeds_add a x1 x2 x3 x4 m)
  unfold f_Deeds_add
  refine gEx.aload rfl rfl rfl ?_
  refine gEx.getI rfl rfl (h0 0 _ rfl) rfl ?_
  refine gEx.iconst rfl rfl ?_
  refine gEx.icmp_lt (tn := 12) rfl rfl rfl ?_ ?_
  · refine gEx.aload rfl rfl rfl ?_
    refine gEx.getR rfl rfl (h0 0 _ rfl) rfl ?_
    refine gEx.aload rfl rfl rfl ?_
    refine gEx.getI rfl rfl (h0 0 _ rfl) rfl ?_
    refine gEx.iload rfl rfl rfl ?_
    refine gEx.iast rfl rfl (h0 2 _ rfl) (fun m1 => ?_)
    refine gEx.aload rfl rfl rfl ?_
    refine gEx.getR rfl rfl (h0 0 _ rfl) rfl ?_
    refine gEx.aload rfl rfl rfl ?_
    refine gEx.getI rfl rfl (h0 0 _ rfl) rfl ?_
    refine gEx.iload rfl rfl rfl ?_
    refine gEx.iast rfl rfl (h0 3 _ rfl) (fun m2 => ?_)
    refine gEx.aload rfl rfl rfl ?_
    refine gEx.getR rfl rfl (h0 0 _ rfl) rfl ?_
    refine gEx.aload rfl rfl rfl ?_
    refine gEx.getI rfl rfl (h0 0 _ rfl) rfl ?_
    refine gEx.iload rfl rfl rfl ?_
    refine gEx.iast rfl rfl (h0 4 _ rfl) (fun m3 => ?_)
    refine gEx.aload rfl rfl rfl ?_
    refine gEx.getR rfl rfl (h0 0 _ rfl) rfl ?_
    refine gEx.aload rfl rfl rfl ?_
    refine gEx.getI rfl rfl (h0 0 _ rfl) rfl ?_
    refine gEx.iload rfl rfl rfl ?_
    refine gEx.iast rfl rfl (h0 5 _ rfl) (fun m4 => ?_)
    refine gEx.aload rfl rfl rfl ?_
    refine gEx.dupR rfl rfl ?_
    refine gEx.getI rfl rfl (h0 0 _ rfl) rfl ?_
    refine gEx.iconst rfl rfl ?_
    refine gEx.iadd rfl rfl ?_
    refine gEx.putI rfl rfl (h0 0 _ rfl) rfl rfl rfl (fun m5 => ?_)
    refine gEx.aload rfl rfl rfl ?_
    refine gEx.getI rfl rfl (h0 0 _ rfl) rfl ?_
    refine gEx.iconst rfl rfl ?_
    refine gEx.isub rfl rfl ?_
    exact gEx.reti rfl rfl
  · refine gEx.iconst rfl rfl ?_
    exact gEx.reti rfl rfl
abbrev gcx_43 : gC := glook (gco_43_0)
set_option maxRecDepth 100000 in
set_option maxHeartbeats 4000000 in
theorem t_Pool_becomeNew {d : Nat} (hd : 2 ≤ d) {sh : gH} {a : Nat} {x1 : Int32} {x2 : Int32} (h0 : gHas sh.1 a (gsh_Pool a)) {m : gM} : ∀ x, f_Pool_becomeNew a x1 x2 m = some x → gR gmi gdf gcd d 43 [.ref a, .int x1, .int x2] (sh, m) ((grv x).1, (sh, (grv x).2)) := by
  obtain ⟨d, rfl⟩ : ∃ e, d = e + 1 := ⟨d - 1, by omega⟩
  refine gR_of (mx := 5) (code := gcx_43) rfl rfl (Nat.le_of_ble_eq_true rfl) ?_
  have hJ_70 : ∀ (v1 : Int32) (m1 : gM), gEx d gcx_43 sh grv 70 [some (.ref a), some (.int x1), some (.int x2), some (.int v1), none] [] m1 (J_Pool_becomeNew_70 a v1 m1) := by
    intro v1 m1
    unfold J_Pool_becomeNew_70
    refine gEx.aload rfl rfl rfl ?_
    refine gEx.getR rfl rfl (h0 0 _ rfl) rfl ?_
    refine gEx.iconst rfl rfl ?_
    refine gEx.callSv rfl rfl rfl rfl rfl (fun _ h => (t_fill (by omega) (h0 3 _ rfl)) _ h) (fun r1 => ?_)
    refine gEx.aload rfl rfl rfl ?_
    refine gEx.getR rfl rfl (h0 0 _ rfl) rfl ?_
    refine gEx.iconst rfl rfl ?_
    refine gEx.callSv rfl rfl rfl rfl rfl (fun _ h => (t_fill (by omega) (h0 4 _ rfl)) _ h) (fun r2 => ?_)
    refine gEx.aload rfl rfl rfl ?_
    refine gEx.getR rfl rfl (h0 0 _ rfl) rfl ?_
    refine gEx.iconst rfl rfl ?_
    refine gEx.callSv rfl rfl rfl rfl rfl (fun _ h => (t_fill (by omega) (h0 5 _ rfl)) _ h) (fun r3 => ?_)
    refine gEx.aload rfl rfl rfl ?_
    refine gEx.getR rfl rfl (h0 0 _ rfl) rfl ?_
    refine gEx.iconst rfl rfl ?_
    refine gEx.callSv rfl rfl rfl rfl rfl (fun _ h => (t_fill (by omega) (h0 6 _ rfl)) _ h) (fun r4 => ?_)
    exact gEx.retv rfl rfl
  show gEx d gcx_43 sh grv 0 [some (.ref a), some (.int x1), some (.int x2), none, none] [] m (f_Pool_becomeNew a x1 x2 m)
  unfold f_Pool_becomeNew
  refine gEx.aload rfl rfl rfl ?_
  refine gEx.iload rfl rfl rfl ?_
  refine gEx.putI rfl rfl (h0 0 _ rfl) rfl rfl rfl (fun m2 => ?_)
  refine gEx.aload rfl rfl rfl ?_
  refine gEx.iload rfl rfl rfl ?_
  refine gEx.putI rfl rfl (h0 0 _ rfl) rfl rfl rfl (fun m3 => ?_)
  refine gEx.aload rfl rfl rfl ?_
  refine gEx.iload rfl rfl rfl ?_
  refine gEx.iload rfl rfl rfl ?_
  refine gEx.imul rfl rfl ?_
  refine gEx.putI rfl rfl (h0 0 _ rfl) rfl rfl rfl (fun m4 => ?_)
  refine gEx.iconst rfl rfl ?_
  refine gEx.istore (ls' := [some (.ref a), some (.int x1), some (.int x2), some (.int 0), none]) rfl rfl rfl ?_
  have hL_19 : ∀ (n : Nat) (v2 : Int32) (m5 : gM), gEx d gcx_43 sh grv 19 [some (.ref a), some (.int x1), some (.int x2), some (.int v2), none] [] m5 (L_Pool_becomeNew_19 a x1 x2 (fun v2 m5 => J_Pool_becomeNew_70 a v2 m5) n v2 m5) := by
    refine gfix_ind (P := fun (f : Int32 → gM → Option (gM)) => ∀ (v2 : Int32) (m5 : gM), gEx d gcx_43 sh grv 19 [some (.ref a), some (.int x1), some (.int x2), some (.int v2), none] [] m5 (f v2 m5)) (fun _ _ => gEx.none) (fun rec_19 hrec_19 => ?_)
    have hJ_64 : ∀ (v3 : Int32) (v4 : Int32) (m6 : gM), gEx d gcx_43 sh grv 64 [some (.ref a), some (.int x1), some (.int x2), some (.int v3), some (.int v4)] [] m6 (J_Pool_becomeNew_64 rec_19 v3 v4 m6) := by
      intro v3 v4 m6
      unfold J_Pool_becomeNew_64
      refine gEx.iinc (ls' := [some (.ref a), some (.int x1), some (.int x2), some (.int (v3 + 1)), some (.int v4)]) rfl rfl rfl rfl ?_
      refine gEx.goto (tn := 19) rfl rfl rfl ?_
      exact gEx.lab rfl rfl (hrec_19 (v3 + 1) m6)
    intro v2 m5
    refine gEx.iload rfl rfl rfl ?_
    refine gEx.iload rfl rfl rfl ?_
    refine gEx.icmp_ge (tn := 70) rfl rfl rfl ?_ ?_
    · refine gEx.iconst rfl rfl ?_
      refine gEx.istore (ls' := [some (.ref a), some (.int x1), some (.int x2), some (.int v2), some (.int 0)]) rfl rfl rfl ?_
      have hL_27 : ∀ (n : Nat) (v5 : Int32) (m7 : gM), gEx d gcx_43 sh grv 27 [some (.ref a), some (.int x1), some (.int x2), some (.int v2), some (.int v5)] [] m7 (L_Pool_becomeNew_27 a x1 v2 (fun v5 m7 => J_Pool_becomeNew_64 rec_19 v2 v5 m7) n v5 m7) := by
        refine gfix_ind (P := fun (f : Int32 → gM → Option (gM)) => ∀ (v5 : Int32) (m7 : gM), gEx d gcx_43 sh grv 27 [some (.ref a), some (.int x1), some (.int x2), some (.int v2), some (.int v5)] [] m7 (f v5 m7)) (fun _ _ => gEx.none) (fun rec_27 hrec_27 => ?_)
        intro v5 m7
        refine gEx.iload rfl rfl rfl ?_
        refine gEx.iload rfl rfl rfl ?_
        refine gEx.icmp_ge (tn := 64) rfl rfl rfl ?_ ?_
        · refine gEx.aload rfl rfl rfl ?_
          refine gEx.getR rfl rfl (h0 0 _ rfl) rfl ?_
          refine gEx.iload rfl rfl rfl ?_
          refine gEx.iload rfl rfl rfl ?_
          refine gEx.imul rfl rfl ?_
          refine gEx.iload rfl rfl rfl ?_
          refine gEx.iadd rfl rfl ?_
          refine gEx.iload rfl rfl rfl ?_
          refine gEx.iast rfl rfl (h0 1 _ rfl) (fun m8 => ?_)
          refine gEx.aload rfl rfl rfl ?_
          refine gEx.getR rfl rfl (h0 0 _ rfl) rfl ?_
          refine gEx.iload rfl rfl rfl ?_
          refine gEx.iload rfl rfl rfl ?_
          refine gEx.imul rfl rfl ?_
          refine gEx.iload rfl rfl rfl ?_
          refine gEx.iadd rfl rfl ?_
          refine gEx.iload rfl rfl rfl ?_
          refine gEx.iast rfl rfl (h0 2 _ rfl) (fun m9 => ?_)
          refine gEx.iinc (ls' := [some (.ref a), some (.int x1), some (.int x2), some (.int v2), some (.int (v5 + 1))]) rfl rfl rfl rfl ?_
          refine gEx.goto (tn := 27) rfl rfl rfl ?_
          exact gEx.lab rfl rfl (hrec_27 (v5 + 1) m9)
        · exact gEx.lab rfl rfl (hJ_64 v2 v5 m7)
      exact gEx.lab rfl rfl (hL_27 1000 0 m5)
    · exact gEx.lab rfl rfl (hJ_70 v2 m5)
  exact gEx.lab rfl rfl (hL_19 1000 0 m4)
abbrev gcx_21 : gC := glook (gco_21_0)
set_option maxRecDepth 100000 in
set_option maxHeartbeats 4000000 in
theorem t_Ground_becomeNew {d : Nat} (hd : 3 ≤ d) {sh : gH} {a : Nat} {x1 : Int32} {x2 : Int32} (h0 : gHas sh.1 a (gsh_Ground a)) {m : gM} : ∀ x, f_Ground_becomeNew a x1 x2 m = some x → gR gmi gdf gcd d 21 [.ref a, .int x1, .int x2] (sh, m) ((grv x).1, (sh, (grv x).2)) := by
  obtain ⟨d, rfl⟩ : ∃ e, d = e + 1 := ⟨d - 1, by omega⟩
  refine gR_of (mx := 3) (code := gcx_21) rfl rfl (Nat.le_of_ble_eq_true rfl) ?_
  show gEx d gcx_21 sh grv 0 [some (.ref a), some (.int x1), some (.int x2)] [] m (f_Ground_becomeNew a x1 x2 m)
  unfold f_Ground_becomeNew
  refine gEx.aload rfl rfl rfl ?_
  refine gEx.getR rfl rfl (h0 0 _ rfl) rfl ?_
  refine gEx.iload rfl rfl rfl ?_
  refine gEx.iload rfl rfl rfl ?_
  refine gEx.callVv rfl rfl rfl rfl (h0 1 _ rfl) rfl (fun _ h => (t_Pool_becomeNew (by omega) (gsub_Ground_1 h0)) _ h) (fun r1 => ?_)
  refine gEx.aload rfl rfl rfl ?_
  refine gEx.getR rfl rfl (h0 0 _ rfl) rfl ?_
  refine gEx.iconst rfl rfl ?_
  refine gEx.callSv rfl rfl rfl rfl rfl (fun _ h => (t_fill (by omega) (h0 8 _ rfl)) _ h) (fun r2 => ?_)
  refine gEx.aload rfl rfl rfl ?_
  refine gEx.getR rfl rfl (h0 0 _ rfl) rfl ?_
  refine gEx.iconst rfl rfl ?_
  refine gEx.callSv rfl rfl rfl rfl rfl (fun _ h => (t_fill (by omega) (h0 9 _ rfl)) _ h) (fun r3 => ?_)
  exact gEx.retv rfl rfl
abbrev gcx_44 : gC := glook (gco_44_0 ++ (gco_44_1))
set_option maxRecDepth 100000 in
set_option maxHeartbeats 4000000 in
theorem t_Pool_copyFrom {d : Nat} (hd : 1 ≤ d) {sh : gH} {a : Nat} {p1 : Nat} (h0 : gHas sh.1 a (gsh_Pool a)) (h1 : gHas sh.1 p1 (gsh_Pool p1)) {m : gM} : ∀ x, f_Pool_copyFrom a p1 m = some x → gR gmi gdf gcd d 44 [.ref a, .ref p1] (sh, m) ((grv x).1, (sh, (grv x).2)) := by
  obtain ⟨d, rfl⟩ : ∃ e, d = e + 1 := ⟨d - 1, by omega⟩
  refine gR_of (mx := 2) (code := gcx_44) rfl rfl (Nat.le_of_ble_eq_true rfl) ?_
  show gEx d gcx_44 sh grv 0 [some (.ref a), some (.ref p1)] [] m (f_Pool_copyFrom a p1 m)
  unfold f_Pool_copyFrom
  refine gEx.aload rfl rfl rfl ?_
  refine gEx.aload rfl rfl rfl ?_
  refine gEx.getI rfl rfl (h1 0 _ rfl) rfl ?_
  refine gEx.putI rfl rfl (h0 0 _ rfl) rfl rfl rfl (fun m1 => ?_)
  refine gEx.aload rfl rfl rfl ?_
  refine gEx.aload rfl rfl rfl ?_
  refine gEx.getI rfl rfl (h1 0 _ rfl) rfl ?_
  refine gEx.putI rfl rfl (h0 0 _ rfl) rfl rfl rfl (fun m2 => ?_)
  refine gEx.aload rfl rfl rfl ?_
  refine gEx.aload rfl rfl rfl ?_
  refine gEx.getI rfl rfl (h1 0 _ rfl) rfl ?_
  refine gEx.putI rfl rfl (h0 0 _ rfl) rfl rfl rfl (fun m3 => ?_)
  refine gEx.aload rfl rfl rfl ?_
  refine gEx.getR rfl rfl (h1 0 _ rfl) rfl ?_
  refine gEx.iconst rfl rfl ?_
  refine gEx.aload rfl rfl rfl ?_
  refine gEx.getR rfl rfl (h0 0 _ rfl) rfl ?_
  refine gEx.iconst rfl rfl ?_
  refine gEx.iconst rfl rfl ?_
  refine gEx.acopy rfl rfl (h1 1 _ rfl) (h0 1 _ rfl) rfl (fun m4 => ?_)
  refine gEx.aload rfl rfl rfl ?_
  refine gEx.getR rfl rfl (h1 0 _ rfl) rfl ?_
  refine gEx.iconst rfl rfl ?_
  refine gEx.aload rfl rfl rfl ?_
  refine gEx.getR rfl rfl (h0 0 _ rfl) rfl ?_
  refine gEx.iconst rfl rfl ?_
  refine gEx.iconst rfl rfl ?_
  refine gEx.acopy rfl rfl (h1 2 _ rfl) (h0 2 _ rfl) rfl (fun m5 => ?_)
  refine gEx.aload rfl rfl rfl ?_
  refine gEx.getR rfl rfl (h1 0 _ rfl) rfl ?_
  refine gEx.iconst rfl rfl ?_
  refine gEx.aload rfl rfl rfl ?_
  refine gEx.getR rfl rfl (h0 0 _ rfl) rfl ?_
  refine gEx.iconst rfl rfl ?_
  refine gEx.iconst rfl rfl ?_
  refine gEx.acopy rfl rfl (h1 3 _ rfl) (h0 3 _ rfl) rfl (fun m6 => ?_)
  refine gEx.aload rfl rfl rfl ?_
  refine gEx.getR rfl rfl (h1 0 _ rfl) rfl ?_
  refine gEx.iconst rfl rfl ?_
  refine gEx.aload rfl rfl rfl ?_
  refine gEx.getR rfl rfl (h0 0 _ rfl) rfl ?_
  refine gEx.iconst rfl rfl ?_
  refine gEx.iconst rfl rfl ?_
  refine gEx.acopy rfl rfl (h1 4 _ rfl) (h0 4 _ rfl) rfl (fun m7 => ?_)
  refine gEx.aload rfl rfl rfl ?_
  refine gEx.getR rfl rfl (h1 0 _ rfl) rfl ?_
  refine gEx.iconst rfl rfl ?_
  refine gEx.aload rfl rfl rfl ?_
  refine gEx.getR rfl rfl (h0 0 _ rfl) rfl ?_
  refine gEx.iconst rfl rfl ?_
  refine gEx.iconst rfl rfl ?_
  refine gEx.acopy rfl rfl (h1 5 _ rfl) (h0 5 _ rfl) rfl (fun m8 => ?_)
  refine gEx.aload rfl rfl rfl ?_
  refine gEx.getR rfl rfl (h1 0 _ rfl) rfl ?_
  refine gEx.iconst rfl rfl ?_
  refine gEx.aload rfl rfl rfl ?_
  refine gEx.getR rfl rfl (h0 0 _ rfl) rfl ?_
  refine gEx.iconst rfl rfl ?_
  refine gEx.iconst rfl rfl ?_
  refine gEx.acopy rfl rfl (h1 6 _ rfl) (h0 6 _ rfl) rfl (fun m9 => ?_)
  exact gEx.retv rfl rfl
abbrev gcx_22 : gC := glook (gco_22_0)
set_option maxRecDepth 100000 in
set_option maxHeartbeats 4000000 in
theorem t_Ground_copyFrom {d : Nat} (hd : 2 ≤ d) {sh : gH} {a : Nat} {p1 : Nat} (h0 : gHas sh.1 a (gsh_Ground a)) (h1 : gHas sh.1 p1 (gsh_Ground p1)) {m : gM} : ∀ x, f_Ground_copyFrom a p1 m = some x → gR gmi gdf gcd d 22 [.ref a, .ref p1] (sh, m) ((grv x).1, (sh, (grv x).2)) := by
  obtain ⟨d, rfl⟩ : ∃ e, d = e + 1 := ⟨d - 1, by omega⟩
  refine gR_of (mx := 2) (code := gcx_22) rfl rfl (Nat.le_of_ble_eq_true rfl) ?_
  show gEx d gcx_22 sh grv 0 [some (.ref a), some (.ref p1)] [] m (f_Ground_copyFrom a p1 m)
  unfold f_Ground_copyFrom
  refine gEx.aload rfl rfl rfl ?_
  refine gEx.getR rfl rfl (h0 0 _ rfl) rfl ?_
  refine gEx.aload rfl rfl rfl ?_
  refine gEx.getR rfl rfl (h1 0 _ rfl) rfl ?_
  refine gEx.callVv rfl rfl rfl rfl (h0 1 _ rfl) rfl (fun _ h => (t_Pool_copyFrom (by omega) (gsub_Ground_1 h0) (gsub_Ground_1 h1)) _ h) (fun r1 => ?_)
  refine gEx.aload rfl rfl rfl ?_
  refine gEx.getR rfl rfl (h1 0 _ rfl) rfl ?_
  refine gEx.iconst rfl rfl ?_
  refine gEx.aload rfl rfl rfl ?_
  refine gEx.getR rfl rfl (h0 0 _ rfl) rfl ?_
  refine gEx.iconst rfl rfl ?_
  refine gEx.iconst rfl rfl ?_
  refine gEx.acopy rfl rfl (h1 8 _ rfl) (h0 8 _ rfl) rfl (fun m1 => ?_)
  refine gEx.aload rfl rfl rfl ?_
  refine gEx.getR rfl rfl (h1 0 _ rfl) rfl ?_
  refine gEx.iconst rfl rfl ?_
  refine gEx.aload rfl rfl rfl ?_
  refine gEx.getR rfl rfl (h0 0 _ rfl) rfl ?_
  refine gEx.iconst rfl rfl ?_
  refine gEx.iconst rfl rfl ?_
  refine gEx.acopy rfl rfl (h1 9 _ rfl) (h0 9 _ rfl) rfl (fun m2 => ?_)
  exact gEx.retv rfl rfl
abbrev gcx_23 : gC := glook (gco_23_0)
set_option maxRecDepth 100000 in
set_option maxHeartbeats 4000000 in
theorem t_Ground_tellOil {d : Nat} (hd : 1 ≤ d) {sh : gH} {a : Nat} {x1 : Int32} {x2 : Int32} (h0 : gHas sh.1 a (gsh_Ground a)) {m : gM} : ∀ x, f_Ground_tellOil a x1 x2 m = some x → gR gmi gdf gcd d 23 [.ref a, .int x1, .int x2] (sh, m) ((grv x).1, (sh, (grv x).2)) := by
  obtain ⟨d, rfl⟩ : ∃ e, d = e + 1 := ⟨d - 1, by omega⟩
  refine gR_of (mx := 4) (code := gcx_23) rfl rfl (Nat.le_of_ble_eq_true rfl) ?_
  have hJ_48 : ∀ (v1 : Int32) (m1 : gM), gEx d gcx_23 sh grv 48 [some (.ref a), some (.int x1), some (.int x2), none] [.int v1] m1 (J_Ground_tellOil_48 a x1 x2 v1 m1) := by
    intro v1 m1
    unfold J_Ground_tellOil_48
    refine gEx.istore (ls' := [some (.ref a), some (.int x1), some (.int x2), some (.int v1)]) rfl rfl rfl ?_
    refine gEx.aload rfl rfl rfl ?_
    refine gEx.getR rfl rfl (h0 0 _ rfl) rfl ?_
    refine gEx.iload rfl rfl rfl ?_
    refine gEx.iconst rfl rfl ?_
    refine gEx.imul rfl rfl ?_
    refine gEx.iload rfl rfl rfl ?_
    refine gEx.iadd rfl rfl ?_
    refine gEx.iload rfl rfl rfl ?_
    refine gEx.iast rfl rfl (h0 9 _ rfl) (fun m2 => ?_)
    refine gEx.aload rfl rfl rfl ?_
    refine gEx.getR rfl rfl (h0 0 _ rfl) rfl ?_
    refine gEx.getR rfl rfl (h0 1 _ rfl) rfl ?_
    refine gEx.iload rfl rfl rfl ?_
    refine gEx.iload rfl rfl rfl ?_
    refine gEx.iast rfl rfl (h0 7 _ rfl) (fun m3 => ?_)
    exact gEx.retv rfl rfl
  have hJ_26 : ∀ (v2 : Int32) (m4 : gM), gEx d gcx_23 sh grv 26 [some (.ref a), some (.int x1), some (.int x2), some (.int v2)] [] m4 (J_Ground_tellOil_26 a x1 x2 v2 m4) := by
    intro v2 m4
    unfold J_Ground_tellOil_26
    refine gEx.aload rfl rfl rfl ?_
    refine gEx.getR rfl rfl (h0 0 _ rfl) rfl ?_
    refine gEx.iload rfl rfl rfl ?_
    refine gEx.iald rfl rfl (h0 8 _ rfl) ?_
    refine gEx.iconst rfl rfl ?_
    refine gEx.icmp_ne (tn := 42) rfl rfl rfl ?_ ?_
    · refine gEx.iconst rfl rfl ?_
      refine gEx.goto (tn := 48) rfl rfl rfl ?_
      exact gEx.lab rfl rfl (hJ_48 8 m4)
    · refine gEx.aload rfl rfl rfl ?_
      refine gEx.getR rfl rfl (h0 0 _ rfl) rfl ?_
      refine gEx.iload rfl rfl rfl ?_
      refine gEx.iald rfl rfl (h0 8 _ rfl) ?_
      exact gEx.lab rfl rfl (hJ_48 (grd m4 (a + 8) x1) m4)
  show gEx d gcx_23 sh grv 0 [some (.ref a), some (.int x1), some (.int x2), none] [] m (f_Ground_tellOil a x1 x2 m)
  unfold f_Ground_tellOil
  refine gEx.iconst rfl rfl ?_
  refine gEx.istore (ls' := [some (.ref a), some (.int x1), some (.int x2), some (.int 0)]) rfl rfl rfl ?_
  have hL_2 : ∀ (n : Nat) (v3 : Int32) (m5 : gM), gEx d gcx_23 sh grv 2 [some (.ref a), some (.int x1), some (.int x2), some (.int v3)] [] m5 (L_Ground_tellOil_2 a x1 (fun v3 m5 => J_Ground_tellOil_26 a x1 x2 v3 m5) n v3 m5) := by
    refine gfix_ind (P := fun (f : Int32 → gM → Option (gM)) => ∀ (v3 : Int32) (m5 : gM), gEx d gcx_23 sh grv 2 [some (.ref a), some (.int x1), some (.int x2), some (.int v3)] [] m5 (f v3 m5)) (fun _ _ => gEx.none) (fun rec_2 hrec_2 => ?_)
    intro v3 m5
    refine gEx.iload rfl rfl rfl ?_
    refine gEx.iconst rfl rfl ?_
    refine gEx.icmp_ge (tn := 26) rfl rfl rfl ?_ ?_
    · refine gEx.aload rfl rfl rfl ?_
      refine gEx.getR rfl rfl (h0 0 _ rfl) rfl ?_
      refine gEx.iload rfl rfl rfl ?_
      refine gEx.iconst rfl rfl ?_
      refine gEx.imul rfl rfl ?_
      refine gEx.iload rfl rfl rfl ?_
      refine gEx.iadd rfl rfl ?_
      refine gEx.iconst rfl rfl ?_
      refine gEx.iast rfl rfl (h0 9 _ rfl) (fun m6 => ?_)
      refine gEx.iinc (ls' := [some (.ref a), some (.int x1), some (.int x2), some (.int (v3 + 1))]) rfl rfl rfl rfl ?_
      refine gEx.goto (tn := 2) rfl rfl rfl ?_
      exact gEx.lab rfl rfl (hrec_2 (v3 + 1) m6)
    · exact gEx.lab rfl rfl (hJ_26 v3 m5)
  exact gEx.lab rfl rfl (hL_2 1000 0 m)
abbrev gcx_25 : gC := glook (gco_25_0)
set_option maxRecDepth 100000 in
set_option maxHeartbeats 4000000 in
theorem t_Ground_cellsOf {d : Nat} (hd : 1 ≤ d) {sh : gH} {a : Nat} {x1 : Int32} (h0 : gHas sh.1 a (gsh_Ground a)) {m : gM} : ∀ x, f_Ground_cellsOf a x1 m = some x → gR gmi gdf gcd d 25 [.ref a, .int x1] (sh, m) ((gri x).1, (sh, (gri x).2)) := by
  obtain ⟨d, rfl⟩ : ∃ e, d = e + 1 := ⟨d - 1, by omega⟩
  refine gR_of (mx := 4) (code := gcx_25) rfl rfl (Nat.le_of_ble_eq_true rfl) ?_
  show gEx d gcx_25 sh gri 0 [some (.ref a), some (.int x1), none, none] [] m (f_Ground_cellsOf a x1 m)
  unfold f_Ground_cellsOf
  refine gEx.iconst rfl rfl ?_
  refine gEx.istore (ls' := [some (.ref a), some (.int x1), some (.int 0), none]) rfl rfl rfl ?_
  refine gEx.iconst rfl rfl ?_
  refine gEx.istore (ls' := [some (.ref a), some (.int x1), some (.int 0), some (.int 0)]) rfl rfl rfl ?_
  have hL_4 : ∀ (n : Nat) (v1 : Int32) (v2 : Int32), gEx d gcx_25 sh gri 4 [some (.ref a), some (.int x1), some (.int v1), some (.int v2)] [] m (L_Ground_cellsOf_4 a x1 m n v1 v2) := by
    refine gfix_ind (P := fun (f : Int32 → Int32 → Option (Int32 × gM)) => ∀ (v1 : Int32) (v2 : Int32), gEx d gcx_25 sh gri 4 [some (.ref a), some (.int x1), some (.int v1), some (.int v2)] [] m (f v1 v2)) (fun _ _ => gEx.none) (fun rec_4 hrec_4 => ?_)
    have hJ_28 : ∀ (v3 : Int32) (v4 : Int32), gEx d gcx_25 sh gri 28 [some (.ref a), some (.int x1), some (.int v3), some (.int v4)] [] m (J_Ground_cellsOf_28 rec_4 v3 v4) := by
      intro v3 v4
      unfold J_Ground_cellsOf_28
      refine gEx.iinc (ls' := [some (.ref a), some (.int x1), some (.int v3), some (.int (v4 + 1))]) rfl rfl rfl rfl ?_
      refine gEx.goto (tn := 4) rfl rfl rfl ?_
      exact gEx.lab rfl rfl (hrec_4 v3 (v4 + 1))
    intro v1 v2
    refine gEx.iload rfl rfl rfl ?_
    refine gEx.aload rfl rfl rfl ?_
    refine gEx.getR rfl rfl (h0 0 _ rfl) rfl ?_
    refine gEx.getI rfl rfl (h0 1 _ rfl) rfl ?_
    refine gEx.icmp_ge (tn := 34) rfl rfl rfl ?_ ?_
    · refine gEx.aload rfl rfl rfl ?_
      refine gEx.getR rfl rfl (h0 0 _ rfl) rfl ?_
      refine gEx.iload rfl rfl rfl ?_
      refine gEx.iald rfl rfl (h0 8 _ rfl) ?_
      refine gEx.iload rfl rfl rfl ?_
      refine gEx.icmp_ne (tn := 28) rfl rfl rfl ?_ ?_
      · refine gEx.iinc (ls' := [some (.ref a), some (.int x1), some (.int (v1 + 1)), some (.int v2)]) rfl rfl rfl rfl ?_
        exact gEx.lab rfl rfl (hJ_28 (v1 + 1) v2)
      · exact gEx.lab rfl rfl (hJ_28 v1 v2)
    · refine gEx.iload rfl rfl rfl ?_
      exact gEx.reti rfl rfl
  exact gEx.lab rfl rfl (hL_4 1000 0 0)
abbrev gcx_49 : gC := glook (gco_49_0)
set_option maxRecDepth 100000 in
set_option maxHeartbeats 4000000 in
theorem t_Pool_howFar {d : Nat} (hd : 1 ≤ d) {sh : gH} {a : Nat} {x1 : Int32} {x2 : Int32} (h0 : gHas sh.1 a (gsh_Pool a)) {m : gM} : ∀ x, f_Pool_howFar a x1 x2 m = some x → gR gmi gdf gcd d 49 [.ref a, .int x1, .int x2] (sh, m) ((gri x).1, (sh, (gri x).2)) := by
  obtain ⟨d, rfl⟩ : ∃ e, d = e + 1 := ⟨d - 1, by omega⟩
  refine gR_of (mx := 3) (code := gcx_49) rfl rfl (Nat.le_of_ble_eq_true rfl) ?_
  show gEx d gcx_49 sh gri 0 [some (.ref a), some (.int x1), some (.int x2)] [] m (f_Pool_howFar a x1 x2 m)
  unfold f_Pool_howFar
  refine gEx.aload rfl rfl rfl ?_
  refine gEx.getR rfl rfl (h0 0 _ rfl) rfl ?_
  refine gEx.iload rfl rfl rfl ?_
  refine gEx.iald rfl rfl (h0 1 _ rfl) ?_
  refine gEx.aload rfl rfl rfl ?_
  refine gEx.getR rfl rfl (h0 0 _ rfl) rfl ?_
  refine gEx.iload rfl rfl rfl ?_
  refine gEx.iald rfl rfl (h0 1 _ rfl) ?_
  refine gEx.isub rfl rfl ?_
  refine gEx.mabs rfl rfl rfl ?_
  refine gEx.aload rfl rfl rfl ?_
  refine gEx.getR rfl rfl (h0 0 _ rfl) rfl ?_
  refine gEx.iload rfl rfl rfl ?_
  refine gEx.iald rfl rfl (h0 2 _ rfl) ?_
  refine gEx.aload rfl rfl rfl ?_
  refine gEx.getR rfl rfl (h0 0 _ rfl) rfl ?_
  refine gEx.iload rfl rfl rfl ?_
  refine gEx.iald rfl rfl (h0 2 _ rfl) ?_
  refine gEx.isub rfl rfl ?_
  refine gEx.mabs rfl rfl rfl ?_
  refine gEx.iadd rfl rfl ?_
  exact gEx.reti rfl rfl
abbrev gcx_26 : gC := glook (gco_26_0)
set_option maxRecDepth 100000 in
set_option maxHeartbeats 4000000 in
theorem t_Ground_strangerFrom {d : Nat} (hd : 2 ≤ d) {sh : gH} {a : Nat} {x1 : Int32} (h0 : gHas sh.1 a (gsh_Ground a)) {m : gM} : ∀ x, f_Ground_strangerFrom a x1 m = some x → gR gmi gdf gcd d 26 [.ref a, .int x1] (sh, m) ((gri x).1, (sh, (gri x).2)) := by
  obtain ⟨d, rfl⟩ : ∃ e, d = e + 1 := ⟨d - 1, by omega⟩
  refine gR_of (mx := 4) (code := gcx_26) rfl rfl (Nat.le_of_ble_eq_true rfl) ?_
  show gEx d gcx_26 sh gri 0 [some (.ref a), some (.int x1), none, none] [] m (f_Ground_strangerFrom a x1 m)
  unfold f_Ground_strangerFrom
  refine gEx.iconst rfl rfl ?_
  refine gEx.istore (ls' := [some (.ref a), some (.int x1), some (.int 99), none]) rfl rfl rfl ?_
  refine gEx.iconst rfl rfl ?_
  refine gEx.istore (ls' := [some (.ref a), some (.int x1), some (.int 99), some (.int 0)]) rfl rfl rfl ?_
  have hL_5 : ∀ (n : Nat) (v1 : Int32) (v2 : Int32) (m1 : gM), gEx d gcx_26 sh gri 5 [some (.ref a), some (.int x1), some (.int v1), some (.int v2)] [] m1 (L_Ground_strangerFrom_5 a x1 n v1 v2 m1) := by
    refine gfix_ind (P := fun (f : Int32 → Int32 → gM → Option (Int32 × gM)) => ∀ (v1 : Int32) (v2 : Int32) (m1 : gM), gEx d gcx_26 sh gri 5 [some (.ref a), some (.int x1), some (.int v1), some (.int v2)] [] m1 (f v1 v2 m1)) (fun _ _ _ => gEx.none) (fun rec_5 hrec_5 => ?_)
    have hJ_45 : ∀ (v3 : Int32) (v4 : Int32) (m2 : gM), gEx d gcx_26 sh gri 45 [some (.ref a), some (.int x1), some (.int v3), some (.int v4)] [] m2 (J_Ground_strangerFrom_45 rec_5 v3 v4 m2) := by
      intro v3 v4 m2
      unfold J_Ground_strangerFrom_45
      refine gEx.iinc (ls' := [some (.ref a), some (.int x1), some (.int v3), some (.int (v4 + 1))]) rfl rfl rfl rfl ?_
      refine gEx.goto (tn := 5) rfl rfl rfl ?_
      exact gEx.lab rfl rfl (hrec_5 v3 (v4 + 1) m2)
    intro v1 v2 m1
    refine gEx.iload rfl rfl rfl ?_
    refine gEx.aload rfl rfl rfl ?_
    refine gEx.getR rfl rfl (h0 0 _ rfl) rfl ?_
    refine gEx.getI rfl rfl (h0 1 _ rfl) rfl ?_
    refine gEx.icmp_ge (tn := 51) rfl rfl rfl ?_ ?_
    · refine gEx.aload rfl rfl rfl ?_
      refine gEx.getR rfl rfl (h0 0 _ rfl) rfl ?_
      refine gEx.iload rfl rfl rfl ?_
      refine gEx.iald rfl rfl (h0 8 _ rfl) ?_
      refine gEx.aload rfl rfl rfl ?_
      refine gEx.getR rfl rfl (h0 0 _ rfl) rfl ?_
      refine gEx.iload rfl rfl rfl ?_
      refine gEx.iald rfl rfl (h0 8 _ rfl) ?_
      refine gEx.icmp_eq (tn := 45) rfl rfl rfl ?_ ?_
      · exact gEx.lab rfl rfl (hJ_45 v1 v2 m1)
      · refine gEx.iload rfl rfl rfl ?_
        refine gEx.aload rfl rfl rfl ?_
        refine gEx.getR rfl rfl (h0 0 _ rfl) rfl ?_
        refine gEx.iload rfl rfl rfl ?_
        refine gEx.iload rfl rfl rfl ?_
        refine gEx.callVi rfl rfl rfl rfl (h0 1 _ rfl) rfl (fun _ h => (t_Pool_howFar (by omega) (gsub_Ground_1 h0)) _ h) (fun r1 => ?_)
        refine gEx.mmin rfl rfl rfl ?_
        refine gEx.istoreL (ls' := fun v5 => [some (.ref a), some (.int x1), some (.int v5), some (.int v2)]) rfl rfl (fun _ => rfl) (fun v5 => ?_)
        exact gEx.lab rfl rfl (hJ_45 v5 v2 r1.2)
    · refine gEx.iload rfl rfl rfl ?_
      exact gEx.reti rfl rfl
  exact gEx.lab rfl rfl (hL_5 1000 99 0 m)
abbrev gcx_28 : gC := glook (gco_28_0)
set_option maxRecDepth 100000 in
set_option maxHeartbeats 4000000 in
theorem t_Orders_copyFrom {d : Nat} (hd : 1 ≤ d) {sh : gH} {a : Nat} {p1 : Nat} (h0 : gHas sh.1 a (gsh_Orders a)) (h1 : gHas sh.1 p1 (gsh_Orders p1)) {m : gM} : ∀ x, f_Orders_copyFrom a p1 m = some x → gR gmi gdf gcd d 28 [.ref a, .ref p1] (sh, m) ((grv x).1, (sh, (grv x).2)) := by
  obtain ⟨d, rfl⟩ : ∃ e, d = e + 1 := ⟨d - 1, by omega⟩
  refine gR_of (mx := 3) (code := gcx_28) rfl rfl (Nat.le_of_ble_eq_true rfl) ?_
  show gEx d gcx_28 sh grv 0 [some (.ref a), some (.ref p1), none] [] m (f_Orders_copyFrom a p1 m)
  unfold f_Orders_copyFrom
  refine gEx.aload rfl rfl rfl ?_
  refine gEx.aload rfl rfl rfl ?_
  refine gEx.getI rfl rfl (h1 0 _ rfl) rfl ?_
  refine gEx.putI rfl rfl (h0 0 _ rfl) rfl rfl rfl (fun m1 => ?_)
  refine gEx.aload rfl rfl rfl ?_
  refine gEx.getR rfl rfl (h1 0 _ rfl) rfl ?_
  refine gEx.iconst rfl rfl ?_
  refine gEx.aload rfl rfl rfl ?_
  refine gEx.getR rfl rfl (h0 0 _ rfl) rfl ?_
  refine gEx.iconst rfl rfl ?_
  refine gEx.iconst rfl rfl ?_
  refine gEx.acopy rfl rfl (h1 1 _ rfl) (h0 1 _ rfl) rfl (fun m2 => ?_)
  refine gEx.aload rfl rfl rfl ?_
  refine gEx.getR rfl rfl (h1 0 _ rfl) rfl ?_
  refine gEx.iconst rfl rfl ?_
  refine gEx.aload rfl rfl rfl ?_
  refine gEx.getR rfl rfl (h0 0 _ rfl) rfl ?_
  refine gEx.iconst rfl rfl ?_
  refine gEx.iconst rfl rfl ?_
  refine gEx.acopy rfl rfl (h1 2 _ rfl) (h0 2 _ rfl) rfl (fun m3 => ?_)
  refine gEx.aload rfl rfl rfl ?_
  refine gEx.getR rfl rfl (h1 0 _ rfl) rfl ?_
  refine gEx.iconst rfl rfl ?_
  refine gEx.aload rfl rfl rfl ?_
  refine gEx.getR rfl rfl (h0 0 _ rfl) rfl ?_
  refine gEx.iconst rfl rfl ?_
  refine gEx.iconst rfl rfl ?_
  refine gEx.acopy rfl rfl (h1 3 _ rfl) (h0 3 _ rfl) rfl (fun m4 => ?_)
  refine gEx.iconst rfl rfl ?_
  refine gEx.istore (ls' := [some (.ref a), some (.ref p1), some (.int 0)]) rfl rfl rfl ?_
  have hL_55 : ∀ (n : Nat) (v1 : Int32) (m5 : gM), gEx d gcx_28 sh grv 55 [some (.ref a), some (.ref p1), some (.int v1)] [] m5 (L_Orders_copyFrom_55 a p1 n v1 m5) := by
    refine gfix_ind (P := fun (f : Int32 → gM → Option (gM)) => ∀ (v1 : Int32) (m5 : gM), gEx d gcx_28 sh grv 55 [some (.ref a), some (.ref p1), some (.int v1)] [] m5 (f v1 m5)) (fun _ _ => gEx.none) (fun rec_55 hrec_55 => ?_)
    intro v1 m5
    refine gEx.iload rfl rfl rfl ?_
    refine gEx.iconst rfl rfl ?_
    refine gEx.icmp_ge (tn := 79) rfl rfl rfl ?_ ?_
    · refine gEx.aload rfl rfl rfl ?_
      refine gEx.getR rfl rfl (h0 0 _ rfl) rfl ?_
      refine gEx.iload rfl rfl rfl ?_
      refine gEx.aload rfl rfl rfl ?_
      refine gEx.getR rfl rfl (h1 0 _ rfl) rfl ?_
      refine gEx.iload rfl rfl rfl ?_
      refine gEx.bald rfl rfl (h1 4 _ rfl) ?_
      refine gEx.bast rfl rfl (h0 4 _ rfl) (fun m6 => ?_)
      refine gEx.iinc (ls' := [some (.ref a), some (.ref p1), some (.int (v1 + 1))]) rfl rfl rfl rfl ?_
      refine gEx.goto (tn := 55) rfl rfl rfl ?_
      exact gEx.lab rfl rfl (hrec_55 (v1 + 1) m6)
    · exact gEx.retv rfl rfl
  exact gEx.lab rfl rfl (hL_55 1000 0 m4)
abbrev gcx_29 : gC := glook (gco_29_0)
set_option maxRecDepth 100000 in
set_option maxHeartbeats 4000000 in
theorem t_Orders_add {d : Nat} (hd : 1 ≤ d) {sh : gH} {a : Nat} {x1 : Int32} {x2 : Int32} {x3 : Int32} (h0 : gHas sh.1 a (gsh_Orders a)) {m : gM} : ∀ x, f_Orders_add a x1 x2 x3 m = some x → gR gmi gdf gcd d 29 [.ref a, .int x1, .int x2, .int x3] (sh, m) ((grv x).1, (sh, (grv x).2)) := by
  obtain ⟨d, rfl⟩ : ∃ e, d = e + 1 := ⟨d - 1, by omega⟩
  refine gR_of (mx := 4) (code := gcx_29) rfl rfl (Nat.le_of_ble_eq_true rfl) ?_
  show gEx d gcx_29 sh grv 0 [some (.ref a), some (.int x1), some (.int x2), some (.int x3)] [] m (f_Orders_add a x1 x2 x3 m)
  unfold f_Orders_add
  refine gEx.aload rfl rfl rfl ?_
  refine gEx.getI rfl rfl (h0 0 _ rfl) rfl ?_
  refine gEx.iconst rfl rfl ?_
  refine gEx.icmp_lt (tn := 10) rfl rfl rfl ?_ ?_
  · refine gEx.aload rfl rfl rfl ?_
    refine gEx.getR rfl rfl (h0 0 _ rfl) rfl ?_
    refine gEx.aload rfl rfl rfl ?_
    refine gEx.getI rfl rfl (h0 0 _ rfl) rfl ?_
    refine gEx.iload rfl rfl rfl ?_
    refine gEx.iast rfl rfl (h0 1 _ rfl) (fun m1 => ?_)
    refine gEx.aload rfl rfl rfl ?_
    refine gEx.getR rfl rfl (h0 0 _ rfl) rfl ?_
    refine gEx.aload rfl rfl rfl ?_
    refine gEx.getI rfl rfl (h0 0 _ rfl) rfl ?_
    refine gEx.iload rfl rfl rfl ?_
    refine gEx.iast rfl rfl (h0 2 _ rfl) (fun m2 => ?_)
    refine gEx.aload rfl rfl rfl ?_
    refine gEx.getR rfl rfl (h0 0 _ rfl) rfl ?_
    refine gEx.aload rfl rfl rfl ?_
    refine gEx.getI rfl rfl (h0 0 _ rfl) rfl ?_
    refine gEx.iload rfl rfl rfl ?_
    refine gEx.iast rfl rfl (h0 3 _ rfl) (fun m3 => ?_)
    refine gEx.aload rfl rfl rfl ?_
    refine gEx.getR rfl rfl (h0 0 _ rfl) rfl ?_
    refine gEx.aload rfl rfl rfl ?_
    refine gEx.getI rfl rfl (h0 0 _ rfl) rfl ?_
    refine gEx.iconst rfl rfl ?_
    refine gEx.bast rfl rfl (h0 4 _ rfl) (fun m4 => ?_)
    refine gEx.aload rfl rfl rfl ?_
    refine gEx.dupR rfl rfl ?_
    refine gEx.getI rfl rfl (h0 0 _ rfl) rfl ?_
    refine gEx.iconst rfl rfl ?_
    refine gEx.iadd rfl rfl ?_
    refine gEx.putI rfl rfl (h0 0 _ rfl) rfl rfl rfl (fun m5 => ?_)
    exact gEx.retv rfl rfl
  · exact gEx.retv rfl rfl
abbrev gcx_30 : gC := glook (gco_30_0)
set_option maxRecDepth 100000 in
set_option maxHeartbeats 4000000 in
theorem t_Orders_tells {d : Nat} (hd : 1 ≤ d) {sh : gH} {a : Nat} {x1 : Int32} {x2 : Int32} (h0 : gHas sh.1 a (gsh_Orders a)) {m : gM} : ∀ x, f_Orders_tells a x1 x2 m = some x → gR gmi gdf gcd d 30 [.ref a, .int x1, .int x2] (sh, m) ((gri x).1, (sh, (gri x).2)) := by
  obtain ⟨d, rfl⟩ : ∃ e, d = e + 1 := ⟨d - 1, by omega⟩
  refine gR_of (mx := 4) (code := gcx_30) rfl rfl (Nat.le_of_ble_eq_true rfl) ?_
  show gEx d gcx_30 sh gri 0 [some (.ref a), some (.int x1), some (.int x2), none] [] m (f_Orders_tells a x1 x2 m)
  unfold f_Orders_tells
  refine gEx.iconst rfl rfl ?_
  refine gEx.istore (ls' := [some (.ref a), some (.int x1), some (.int x2), some (.int 0)]) rfl rfl rfl ?_
  have hL_2 : ∀ (n : Nat) (v1 : Int32), gEx d gcx_30 sh gri 2 [some (.ref a), some (.int x1), some (.int x2), some (.int v1)] [] m (L_Orders_tells_2 a x1 x2 m n v1) := by
    refine gfix_ind (P := fun (f : Int32 → Option (Int32 × gM)) => ∀ (v1 : Int32), gEx d gcx_30 sh gri 2 [some (.ref a), some (.int x1), some (.int x2), some (.int v1)] [] m (f v1)) (fun _ => gEx.none) (fun rec_2 hrec_2 => ?_)
    have hJ_32 : ∀ (v2 : Int32), gEx d gcx_30 sh gri 32 [some (.ref a), some (.int x1), some (.int x2), some (.int v2)] [] m (J_Orders_tells_32 rec_2 v2) := by
      intro v2
      unfold J_Orders_tells_32
      refine gEx.iinc (ls' := [some (.ref a), some (.int x1), some (.int x2), some (.int (v2 + 1))]) rfl rfl rfl rfl ?_
      refine gEx.goto (tn := 2) rfl rfl rfl ?_
      exact gEx.lab rfl rfl (hrec_2 (v2 + 1))
    intro v1
    refine gEx.iload rfl rfl rfl ?_
    refine gEx.aload rfl rfl rfl ?_
    refine gEx.getI rfl rfl (h0 0 _ rfl) rfl ?_
    refine gEx.icmp_ge (tn := 38) rfl rfl rfl ?_ ?_
    · refine gEx.aload rfl rfl rfl ?_
      refine gEx.getR rfl rfl (h0 0 _ rfl) rfl ?_
      refine gEx.iload rfl rfl rfl ?_
      refine gEx.iald rfl rfl (h0 1 _ rfl) ?_
      refine gEx.iload rfl rfl rfl ?_
      refine gEx.icmp_ne (tn := 32) rfl rfl rfl ?_ ?_
      · refine gEx.aload rfl rfl rfl ?_
        refine gEx.getR rfl rfl (h0 0 _ rfl) rfl ?_
        refine gEx.iload rfl rfl rfl ?_
        refine gEx.iald rfl rfl (h0 2 _ rfl) ?_
        refine gEx.iload rfl rfl rfl ?_
        refine gEx.icmp_ne (tn := 32) rfl rfl rfl ?_ ?_
        · refine gEx.iconst rfl rfl ?_
          exact gEx.retz0 (by decide) rfl rfl
        · exact gEx.lab rfl rfl (hJ_32 v1)
      · exact gEx.lab rfl rfl (hJ_32 v1)
    · refine gEx.iconst rfl rfl ?_
      exact gEx.retz0 (by decide) rfl rfl
  exact gEx.lab rfl rfl (hL_2 1000 0)
abbrev gcx_31 : gC := glook (gco_31_0)
set_option maxRecDepth 100000 in
set_option maxHeartbeats 4000000 in
theorem t_Orders_tellsExcept {d : Nat} (hd : 1 ≤ d) {sh : gH} {a : Nat} {x1 : Int32} {x2 : Int32} (h0 : gHas sh.1 a (gsh_Orders a)) {m : gM} : ∀ x, f_Orders_tellsExcept a x1 x2 m = some x → gR gmi gdf gcd d 31 [.ref a, .int x1, .int x2] (sh, m) ((gri x).1, (sh, (gri x).2)) := by
  obtain ⟨d, rfl⟩ : ∃ e, d = e + 1 := ⟨d - 1, by omega⟩
  refine gR_of (mx := 4) (code := gcx_31) rfl rfl (Nat.le_of_ble_eq_true rfl) ?_
  show gEx d gcx_31 sh gri 0 [some (.ref a), some (.int x1), some (.int x2), none] [] m (f_Orders_tellsExcept a x1 x2 m)
  unfold f_Orders_tellsExcept
  refine gEx.iconst rfl rfl ?_
  refine gEx.istore (ls' := [some (.ref a), some (.int x1), some (.int x2), some (.int 0)]) rfl rfl rfl ?_
  have hL_2 : ∀ (n : Nat) (v1 : Int32), gEx d gcx_31 sh gri 2 [some (.ref a), some (.int x1), some (.int x2), some (.int v1)] [] m (L_Orders_tellsExcept_2 a x1 x2 m n v1) := by
    refine gfix_ind (P := fun (f : Int32 → Option (Int32 × gM)) => ∀ (v1 : Int32), gEx d gcx_31 sh gri 2 [some (.ref a), some (.int x1), some (.int x2), some (.int v1)] [] m (f v1)) (fun _ => gEx.none) (fun rec_2 hrec_2 => ?_)
    have hJ_42 : ∀ (v2 : Int32), gEx d gcx_31 sh gri 42 [some (.ref a), some (.int x1), some (.int x2), some (.int v2)] [] m (J_Orders_tellsExcept_42 rec_2 v2) := by
      intro v2
      unfold J_Orders_tellsExcept_42
      refine gEx.iinc (ls' := [some (.ref a), some (.int x1), some (.int x2), some (.int (v2 + 1))]) rfl rfl rfl rfl ?_
      refine gEx.goto (tn := 2) rfl rfl rfl ?_
      exact gEx.lab rfl rfl (hrec_2 (v2 + 1))
    intro v1
    refine gEx.iload rfl rfl rfl ?_
    refine gEx.aload rfl rfl rfl ?_
    refine gEx.getI rfl rfl (h0 0 _ rfl) rfl ?_
    refine gEx.icmp_ge (tn := 48) rfl rfl rfl ?_ ?_
    · refine gEx.aload rfl rfl rfl ?_
      refine gEx.getR rfl rfl (h0 0 _ rfl) rfl ?_
      refine gEx.iload rfl rfl rfl ?_
      refine gEx.iald rfl rfl (h0 1 _ rfl) ?_
      refine gEx.iconst rfl rfl ?_
      refine gEx.icmp_ne (tn := 42) rfl rfl rfl ?_ ?_
      · refine gEx.aload rfl rfl rfl ?_
        refine gEx.getR rfl rfl (h0 0 _ rfl) rfl ?_
        refine gEx.iload rfl rfl rfl ?_
        refine gEx.iald rfl rfl (h0 2 _ rfl) ?_
        refine gEx.iload rfl rfl rfl ?_
        refine gEx.icmp_ne (tn := 42) rfl rfl rfl ?_ ?_
        · refine gEx.aload rfl rfl rfl ?_
          refine gEx.getR rfl rfl (h0 0 _ rfl) rfl ?_
          refine gEx.iload rfl rfl rfl ?_
          refine gEx.iald rfl rfl (h0 3 _ rfl) ?_
          refine gEx.iload rfl rfl rfl ?_
          refine gEx.icmp_ne (tn := 42) rfl rfl rfl ?_ ?_
          · refine gEx.iconst rfl rfl ?_
            exact gEx.retz0 (by decide) rfl rfl
          · exact gEx.lab rfl rfl (hJ_42 v1)
        · exact gEx.lab rfl rfl (hJ_42 v1)
      · exact gEx.lab rfl rfl (hJ_42 v1)
    · refine gEx.iconst rfl rfl ?_
      exact gEx.retz0 (by decide) rfl rfl
  exact gEx.lab rfl rfl (hL_2 1000 0)
abbrev gcx_32 : gC := glook (gco_32_0)
set_option maxRecDepth 100000 in
set_option maxHeartbeats 4000000 in
theorem t_Orders_lineIn {d : Nat} (hd : 1 ≤ d) {sh : gH} {a : Nat} {x1 : Int32} {x2 : Int32} (h0 : gHas sh.1 a (gsh_Orders a)) {m : gM} : ∀ x, f_Orders_lineIn a x1 x2 m = some x → gR gmi gdf gcd d 32 [.ref a, .int x1, .int x2] (sh, m) ((gri x).1, (sh, (gri x).2)) := by
  obtain ⟨d, rfl⟩ : ∃ e, d = e + 1 := ⟨d - 1, by omega⟩
  refine gR_of (mx := 5) (code := gcx_32) rfl rfl (Nat.le_of_ble_eq_true rfl) ?_
  show gEx d gcx_32 sh gri 0 [some (.ref a), some (.int x1), some (.int x2), none, none] [] m (f_Orders_lineIn a x1 x2 m)
  unfold f_Orders_lineIn
  refine gEx.iconst rfl rfl ?_
  refine gEx.istore (ls' := [some (.ref a), some (.int x1), some (.int x2), some (.int (-4)), none]) rfl rfl rfl ?_
  refine gEx.iconst rfl rfl ?_
  refine gEx.istore (ls' := [some (.ref a), some (.int x1), some (.int x2), some (.int (-4)), some (.int 0)]) rfl rfl rfl ?_
  have hL_6 : ∀ (n : Nat) (v1 : Int32) (v2 : Int32), gEx d gcx_32 sh gri 6 [some (.ref a), some (.int x1), some (.int x2), some (.int v1), some (.int v2)] [] m (L_Orders_lineIn_6 a x1 x2 m n v1 v2) := by
    refine gfix_ind (P := fun (f : Int32 → Int32 → Option (Int32 × gM)) => ∀ (v1 : Int32) (v2 : Int32), gEx d gcx_32 sh gri 6 [some (.ref a), some (.int x1), some (.int x2), some (.int v1), some (.int v2)] [] m (f v1 v2)) (fun _ _ => gEx.none) (fun rec_6 hrec_6 => ?_)
    have hJ_72 : ∀ (v3 : Int32) (v4 : Int32), gEx d gcx_32 sh gri 72 [some (.ref a), some (.int x1), some (.int x2), some (.int v3), some (.int v4)] [] m (J_Orders_lineIn_72 rec_6 v3 v4) := by
      intro v3 v4
      unfold J_Orders_lineIn_72
      refine gEx.iinc (ls' := [some (.ref a), some (.int x1), some (.int x2), some (.int v3), some (.int (v4 + 1))]) rfl rfl rfl rfl ?_
      refine gEx.goto (tn := 6) rfl rfl rfl ?_
      exact gEx.lab rfl rfl (hrec_6 v3 (v4 + 1))
    have hJ_69 : ∀ (v5 : Int32) (v6 : Int32), gEx d gcx_32 sh gri 69 [some (.ref a), some (.int x1), some (.int x2), some (.int v5), some (.int v6)] [] m (J_Orders_lineIn_69 rec_6 v5 v6) := by
      intro v5 v6
      unfold J_Orders_lineIn_69
      refine gEx.iload rfl rfl rfl ?_
      refine gEx.istore (ls' := [some (.ref a), some (.int x1), some (.int x2), some (.int v6), some (.int v6)]) rfl rfl rfl ?_
      exact gEx.lab rfl rfl (hJ_72 v6 v6)
    intro v1 v2
    refine gEx.iload rfl rfl rfl ?_
    refine gEx.aload rfl rfl rfl ?_
    refine gEx.getI rfl rfl (h0 0 _ rfl) rfl ?_
    refine gEx.icmp_ge (tn := 78) rfl rfl rfl ?_ ?_
    · refine gEx.aload rfl rfl rfl ?_
      refine gEx.getR rfl rfl (h0 0 _ rfl) rfl ?_
      refine gEx.iload rfl rfl rfl ?_
      refine gEx.iald rfl rfl (h0 1 _ rfl) ?_
      refine gEx.iload rfl rfl rfl ?_
      refine gEx.icmp_ne (tn := 72) rfl rfl rfl ?_ ?_
      · refine gEx.aload rfl rfl rfl ?_
        refine gEx.getR rfl rfl (h0 0 _ rfl) rfl ?_
        refine gEx.iload rfl rfl rfl ?_
        refine gEx.bald rfl rfl (h0 4 _ rfl) ?_
        refine gEx.if_ne (tn := 72) rfl rfl rfl ?_ ?_
        · refine gEx.aload rfl rfl rfl ?_
          refine gEx.getR rfl rfl (h0 0 _ rfl) rfl ?_
          refine gEx.iload rfl rfl rfl ?_
          refine gEx.iald rfl rfl (h0 2 _ rfl) ?_
          refine gEx.iload rfl rfl rfl ?_
          refine gEx.icmp_gt (tn := 72) rfl rfl rfl ?_ ?_
          · exact gEx.lab rfl rfl (hJ_72 v1 v2)
          · refine gEx.iload rfl rfl rfl ?_
            refine gEx.iconst rfl rfl ?_
            refine gEx.icmp_eq (tn := 69) rfl rfl rfl ?_ ?_
            · exact gEx.lab rfl rfl (hJ_69 v1 v2)
            · refine gEx.aload rfl rfl rfl ?_
              refine gEx.getR rfl rfl (h0 0 _ rfl) rfl ?_
              refine gEx.iload rfl rfl rfl ?_
              refine gEx.iald rfl rfl (h0 2 _ rfl) ?_
              refine gEx.aload rfl rfl rfl ?_
              refine gEx.getR rfl rfl (h0 0 _ rfl) rfl ?_
              refine gEx.iload rfl rfl rfl ?_
              refine gEx.iald rfl rfl (h0 2 _ rfl) ?_
              refine gEx.icmp_le (tn := 72) rfl rfl rfl ?_ ?_
              · exact gEx.lab rfl rfl (hJ_69 v1 v2)
              · exact gEx.lab rfl rfl (hJ_72 v1 v2)
        · exact gEx.lab rfl rfl (hJ_72 v1 v2)
      · exact gEx.lab rfl rfl (hJ_72 v1 v2)
    · refine gEx.iload rfl rfl rfl ?_
      exact gEx.reti rfl rfl
  exact gEx.lab rfl rfl (hL_6 1000 (-4) 0)
abbrev gcx_33 : gC := glook (gco_33_0)
set_option maxRecDepth 100000 in
set_option maxHeartbeats 4000000 in
theorem t_Orders_numberIn {d : Nat} (hd : 2 ≤ d) {sh : gH} {a : Nat} {x1 : Int32} {x2 : Int32} (h0 : gHas sh.1 a (gsh_Orders a)) {m : gM} : ∀ x, f_Orders_numberIn a x1 x2 m = some x → gR gmi gdf gcd d 33 [.ref a, .int x1, .int x2] (sh, m) ((gri x).1, (sh, (gri x).2)) := by
  obtain ⟨d, rfl⟩ : ∃ e, d = e + 1 := ⟨d - 1, by omega⟩
  refine gR_of (mx := 4) (code := gcx_33) rfl rfl (Nat.le_of_ble_eq_true rfl) ?_
  show gEx d gcx_33 sh gri 0 [some (.ref a), some (.int x1), some (.int x2), none] [] m (f_Orders_numberIn a x1 x2 m)
  unfold f_Orders_numberIn
  refine gEx.aload rfl rfl rfl ?_
  refine gEx.iload rfl rfl rfl ?_
  refine gEx.iload rfl rfl rfl ?_
  refine gEx.callVi rfl rfl rfl rfl (h0 0 _ rfl) rfl (fun _ h => (t_Orders_lineIn (by omega) h0) _ h) (fun r1 => ?_)
  refine gEx.istore (ls' := [some (.ref a), some (.int x1), some (.int x2), some (.int r1.1)]) rfl rfl rfl ?_
  refine gEx.iload rfl rfl rfl ?_
  refine gEx.iconst rfl rfl ?_
  refine gEx.icmp_ne (tn := 17) rfl rfl rfl ?_ ?_
  · refine gEx.iconst rfl rfl ?_
    refine gEx.goto (tn := 23) rfl rfl rfl ?_
    refine gEx.lab (ls' := [some (.ref a), none, none, none]) rfl rfl ?_
    exact gEx.reti rfl rfl
  · refine gEx.aload rfl rfl rfl ?_
    refine gEx.getR rfl rfl (h0 0 _ rfl) rfl ?_
    refine gEx.iload rfl rfl rfl ?_
    refine gEx.iald rfl rfl (h0 3 _ rfl) ?_
    refine gEx.lab (ls' := [some (.ref a), none, none, none]) rfl rfl ?_
    exact gEx.reti rfl rfl
abbrev gcx_34 : gC := glook (gco_34_0)
set_option maxRecDepth 100000 in
set_option maxHeartbeats 4000000 in
theorem t_Orders_excepts {d : Nat} (hd : 1 ≤ d) {sh : gH} {a : Nat} {x1 : Int32} {x2 : Int32} (h0 : gHas sh.1 a (gsh_Orders a)) {m : gM} : ∀ x, f_Orders_excepts a x1 x2 m = some x → gR gmi gdf gcd d 34 [.ref a, .int x1, .int x2] (sh, m) ((gri x).1, (sh, (gri x).2)) := by
  obtain ⟨d, rfl⟩ : ∃ e, d = e + 1 := ⟨d - 1, by omega⟩
  refine gR_of (mx := 4) (code := gcx_34) rfl rfl (Nat.le_of_ble_eq_true rfl) ?_
  show gEx d gcx_34 sh gri 0 [some (.ref a), some (.int x1), some (.int x2), none] [] m (f_Orders_excepts a x1 x2 m)
  unfold f_Orders_excepts
  refine gEx.iconst rfl rfl ?_
  refine gEx.istore (ls' := [some (.ref a), some (.int x1), some (.int x2), some (.int 0)]) rfl rfl rfl ?_
  have hL_2 : ∀ (n : Nat) (v1 : Int32), gEx d gcx_34 sh gri 2 [some (.ref a), some (.int x1), some (.int x2), some (.int v1)] [] m (L_Orders_excepts_2 a x1 x2 m n v1) := by
    refine gfix_ind (P := fun (f : Int32 → Option (Int32 × gM)) => ∀ (v1 : Int32), gEx d gcx_34 sh gri 2 [some (.ref a), some (.int x1), some (.int x2), some (.int v1)] [] m (f v1)) (fun _ => gEx.none) (fun rec_2 hrec_2 => ?_)
    have hJ_51 : ∀ (v2 : Int32), gEx d gcx_34 sh gri 51 [some (.ref a), some (.int x1), some (.int x2), some (.int v2)] [] m (J_Orders_excepts_51 rec_2 v2) := by
      intro v2
      unfold J_Orders_excepts_51
      refine gEx.iinc (ls' := [some (.ref a), some (.int x1), some (.int x2), some (.int (v2 + 1))]) rfl rfl rfl rfl ?_
      refine gEx.goto (tn := 2) rfl rfl rfl ?_
      exact gEx.lab rfl rfl (hrec_2 (v2 + 1))
    intro v1
    refine gEx.iload rfl rfl rfl ?_
    refine gEx.aload rfl rfl rfl ?_
    refine gEx.getI rfl rfl (h0 0 _ rfl) rfl ?_
    refine gEx.icmp_ge (tn := 57) rfl rfl rfl ?_ ?_
    · refine gEx.aload rfl rfl rfl ?_
      refine gEx.getR rfl rfl (h0 0 _ rfl) rfl ?_
      refine gEx.iload rfl rfl rfl ?_
      refine gEx.iald rfl rfl (h0 1 _ rfl) ?_
      refine gEx.iconst rfl rfl ?_
      refine gEx.icmp_ne (tn := 51) rfl rfl rfl ?_ ?_
      · refine gEx.aload rfl rfl rfl ?_
        refine gEx.getR rfl rfl (h0 0 _ rfl) rfl ?_
        refine gEx.iload rfl rfl rfl ?_
        refine gEx.bald rfl rfl (h0 4 _ rfl) ?_
        refine gEx.if_ne (tn := 51) rfl rfl rfl ?_ ?_
        · refine gEx.aload rfl rfl rfl ?_
          refine gEx.getR rfl rfl (h0 0 _ rfl) rfl ?_
          refine gEx.iload rfl rfl rfl ?_
          refine gEx.iald rfl rfl (h0 2 _ rfl) ?_
          refine gEx.iload rfl rfl rfl ?_
          refine gEx.icmp_gt (tn := 51) rfl rfl rfl ?_ ?_
          · exact gEx.lab rfl rfl (hJ_51 v1)
          · refine gEx.aload rfl rfl rfl ?_
            refine gEx.getR rfl rfl (h0 0 _ rfl) rfl ?_
            refine gEx.iload rfl rfl rfl ?_
            refine gEx.iald rfl rfl (h0 3 _ rfl) ?_
            refine gEx.iload rfl rfl rfl ?_
            refine gEx.icmp_ne (tn := 51) rfl rfl rfl ?_ ?_
            · refine gEx.iconst rfl rfl ?_
              exact gEx.retz0 (by decide) rfl rfl
            · exact gEx.lab rfl rfl (hJ_51 v1)
        · exact gEx.lab rfl rfl (hJ_51 v1)
      · exact gEx.lab rfl rfl (hJ_51 v1)
    · refine gEx.iconst rfl rfl ?_
      exact gEx.retz0 (by decide) rfl rfl
  exact gEx.lab rfl rfl (hL_2 1000 0)
abbrev gcx_91 : gC := glook (gco_91_0)
set_option maxRecDepth 100000 in
set_option maxHeartbeats 4000000 in
theorem t_Town_shift {d : Nat} (hd : 1 ≤ d) {sh : gH} {a : Nat} (h0 : gHas sh.1 a (gsh_Town a)) {m : gM} : ∀ x, f_Town_shift a m = some x → gR gmi gdf gcd d 91 [.ref a] (sh, m) ((gri x).1, (sh, (gri x).2)) := by
  obtain ⟨d, rfl⟩ : ∃ e, d = e + 1 := ⟨d - 1, by omega⟩
  refine gR_of (mx := 1) (code := gcx_91) rfl rfl (Nat.le_of_ble_eq_true rfl) ?_
  show gEx d gcx_91 sh gri 0 [some (.ref a)] [] m (f_Town_shift a m)
  unfold f_Town_shift
  refine gEx.aload rfl rfl rfl ?_
  refine gEx.getI rfl rfl (h0 0 _ rfl) rfl ?_
  refine gEx.iconst rfl rfl ?_
  refine gEx.idiv rfl rfl ?_
  exact gEx.reti rfl rfl
abbrev gcx_95 : gC := glook (gco_95_0)
set_option maxRecDepth 100000 in
set_option maxHeartbeats 4000000 in
theorem t_Town_hasWellOn {d : Nat} (hd : 1 ≤ d) {sh : gH} {a : Nat} {x1 : Int32} {x2 : Int32} (h0 : gHas sh.1 a (gsh_Town a)) {m : gM} : ∀ x, f_Town_hasWellOn a x1 x2 m = some x → gR gmi gdf gcd d 95 [.ref a, .int x1, .int x2] (sh, m) ((gri x).1, (sh, (gri x).2)) := by
  obtain ⟨d, rfl⟩ : ∃ e, d = e + 1 := ⟨d - 1, by omega⟩
  refine gR_of (mx := 4) (code := gcx_95) rfl rfl (Nat.le_of_ble_eq_true rfl) ?_
  show gEx d gcx_95 sh gri 0 [some (.ref a), some (.int x1), some (.int x2), none] [] m (f_Town_hasWellOn a x1 x2 m)
  unfold f_Town_hasWellOn
  refine gEx.iconst rfl rfl ?_
  refine gEx.istore (ls' := [some (.ref a), some (.int x1), some (.int x2), some (.int 0)]) rfl rfl rfl ?_
  have hL_2 : ∀ (n : Nat) (v1 : Int32), gEx d gcx_95 sh gri 2 [some (.ref a), some (.int x1), some (.int x2), some (.int v1)] [] m (L_Town_hasWellOn_2 a x1 x2 m n v1) := by
    refine gfix_ind (P := fun (f : Int32 → Option (Int32 × gM)) => ∀ (v1 : Int32), gEx d gcx_95 sh gri 2 [some (.ref a), some (.int x1), some (.int x2), some (.int v1)] [] m (f v1)) (fun _ => gEx.none) (fun rec_2 hrec_2 => ?_)
    have hJ_49 : ∀ (v2 : Int32), gEx d gcx_95 sh gri 49 [some (.ref a), some (.int x1), some (.int x2), some (.int v2)] [] m (J_Town_hasWellOn_49 rec_2 v2) := by
      intro v2
      unfold J_Town_hasWellOn_49
      refine gEx.iinc (ls' := [some (.ref a), some (.int x1), some (.int x2), some (.int (v2 + 1))]) rfl rfl rfl rfl ?_
      refine gEx.goto (tn := 2) rfl rfl rfl ?_
      exact gEx.lab rfl rfl (hrec_2 (v2 + 1))
    intro v1
    refine gEx.iload rfl rfl rfl ?_
    refine gEx.aload rfl rfl rfl ?_
    refine gEx.getR rfl rfl (h0 0 _ rfl) rfl ?_
    refine gEx.getI rfl rfl (h0 17 _ rfl) rfl ?_
    refine gEx.icmp_ge (tn := 55) rfl rfl rfl ?_ ?_
    · refine gEx.aload rfl rfl rfl ?_
      refine gEx.getR rfl rfl (h0 0 _ rfl) rfl ?_
      refine gEx.getR rfl rfl (h0 17 _ rfl) rfl ?_
      refine gEx.iload rfl rfl rfl ?_
      refine gEx.iald rfl rfl (h0 18 _ rfl) ?_
      refine gEx.iload rfl rfl rfl ?_
      refine gEx.icmp_ne (tn := 49) rfl rfl rfl ?_ ?_
      · refine gEx.aload rfl rfl rfl ?_
        refine gEx.getR rfl rfl (h0 0 _ rfl) rfl ?_
        refine gEx.getR rfl rfl (h0 1 _ rfl) rfl ?_
        refine gEx.aload rfl rfl rfl ?_
        refine gEx.getR rfl rfl (h0 0 _ rfl) rfl ?_
        refine gEx.getR rfl rfl (h0 17 _ rfl) rfl ?_
        refine gEx.iload rfl rfl rfl ?_
        refine gEx.iald rfl rfl (h0 19 _ rfl) ?_
        refine gEx.iald rfl rfl (h0 9 _ rfl) ?_
        refine gEx.iload rfl rfl rfl ?_
        refine gEx.icmp_ne (tn := 49) rfl rfl rfl ?_ ?_
        · refine gEx.iconst rfl rfl ?_
          exact gEx.retz0 (by decide) rfl rfl
        · exact gEx.lab rfl rfl (hJ_49 v1)
      · exact gEx.lab rfl rfl (hJ_49 v1)
    · refine gEx.iconst rfl rfl ?_
      exact gEx.retz0 (by decide) rfl rfl
  exact gEx.lab rfl rfl (hL_2 1000 0)
abbrev gcx_94 : gC := glook (gco_94_0)
set_option maxRecDepth 100000 in
set_option maxHeartbeats 4000000 in
theorem t_Town_hasEnded {d : Nat} (hd : 2 ≤ d) {sh : gH} {a : Nat} {x1 : Int32} (h0 : gHas sh.1 a (gsh_Town a)) {m : gM} : ∀ x, f_Town_hasEnded a x1 m = some x → gR gmi gdf gcd d 94 [.ref a, .int x1] (sh, m) ((gri x).1, (sh, (gri x).2)) := by
  obtain ⟨d, rfl⟩ : ∃ e, d = e + 1 := ⟨d - 1, by omega⟩
  refine gR_of (mx := 2) (code := gcx_94) rfl rfl (Nat.le_of_ble_eq_true rfl) ?_
  show gEx d gcx_94 sh gri 0 [some (.ref a), some (.int x1)] [] m (f_Town_hasEnded a x1 m)
  unfold f_Town_hasEnded
  refine gEx.aload rfl rfl rfl ?_
  refine gEx.getI rfl rfl (h0 0 _ rfl) rfl ?_
  refine gEx.aload rfl rfl rfl ?_
  refine gEx.getR rfl rfl (h0 0 _ rfl) rfl ?_
  refine gEx.getR rfl rfl (h0 11 _ rfl) rfl ?_
  refine gEx.iload rfl rfl rfl ?_
  refine gEx.iald rfl rfl (h0 15 _ rfl) ?_
  refine gEx.icmp_lt (tn := 45) rfl rfl rfl ?_ ?_
  · refine gEx.lab (ls' := [some (.ref a), none]) rfl rfl ?_
    refine gEx.iconst rfl rfl ?_
    refine gEx.lab (ls' := [some (.ref a), none]) rfl rfl ?_
    exact gEx.retz0 (by decide) rfl rfl
  · refine gEx.aload rfl rfl rfl ?_
    refine gEx.aload rfl rfl rfl ?_
    refine gEx.getR rfl rfl (h0 0 _ rfl) rfl ?_
    refine gEx.getR rfl rfl (h0 11 _ rfl) rfl ?_
    refine gEx.iload rfl rfl rfl ?_
    refine gEx.iald rfl rfl (h0 14 _ rfl) ?_
    refine gEx.aload rfl rfl rfl ?_
    refine gEx.getR rfl rfl (h0 0 _ rfl) rfl ?_
    refine gEx.getR rfl rfl (h0 11 _ rfl) rfl ?_
    refine gEx.iload rfl rfl rfl ?_
    refine gEx.iald rfl rfl (h0 13 _ rfl) ?_
    refine gEx.callVi rfl rfl rfl rfl (h0 0 _ rfl) rfl (fun _ h => (t_Town_hasWellOn (by omega) h0) _ h) (fun r1 => ?_)
    refine gEx.if_ne (tn := 45) rfl rfl rfl ?_ ?_
    · refine gEx.iconst rfl rfl ?_
      refine gEx.goto (tn := 46) rfl rfl rfl ?_
      refine gEx.lab (ls' := [some (.ref a), none]) rfl rfl ?_
      exact gEx.retz0 (by decide) rfl rfl
    · refine gEx.lab (ls' := [some (.ref a), none]) rfl rfl ?_
      refine gEx.iconst rfl rfl ?_
      refine gEx.lab (ls' := [some (.ref a), none]) rfl rfl ?_
      exact gEx.retz0 (by decide) rfl rfl
abbrev gcx_96 : gC := glook (gco_96_0)
set_option maxRecDepth 100000 in
set_option maxHeartbeats 4000000 in
theorem t_Town_holderOf {d : Nat} (hd : 3 ≤ d) {sh : gH} {a : Nat} {x1 : Int32} (h0 : gHas sh.1 a (gsh_Town a)) {m : gM} : ∀ x, f_Town_holderOf a x1 m = some x → gR gmi gdf gcd d 96 [.ref a, .int x1] (sh, m) ((gri x).1, (sh, (gri x).2)) := by
  obtain ⟨d, rfl⟩ : ∃ e, d = e + 1 := ⟨d - 1, by omega⟩
  refine gR_of (mx := 4) (code := gcx_96) rfl rfl (Nat.le_of_ble_eq_true rfl) ?_
  have hJ_72 : ∀ (v1 : Int32) (v2 : Int32) (m1 : gM), gEx d gcx_96 sh gri 72 [some (.ref a), some (.int x1), some (.int v1), some (.int v2)] [] m1 (J_Town_holderOf_72 a x1 v1 v2 m1) := by
    intro v1 v2 m1
    unfold J_Town_holderOf_72
    refine gEx.iload rfl rfl rfl ?_
    refine gEx.iconst rfl rfl ?_
    refine gEx.icmp_ne (tn := 90) rfl rfl rfl ?_ ?_
    · refine gEx.aload rfl rfl rfl ?_
      refine gEx.getR rfl rfl (h0 0 _ rfl) rfl ?_
      refine gEx.getR rfl rfl (h0 11 _ rfl) rfl ?_
      refine gEx.iload rfl rfl rfl ?_
      refine gEx.iald rfl rfl (h0 12 _ rfl) ?_
      refine gEx.goto (tn := 99) rfl rfl rfl ?_
      refine gEx.lab (ls' := [some (.ref a), none, none, none]) rfl rfl ?_
      exact gEx.reti rfl rfl
    · refine gEx.aload rfl rfl rfl ?_
      refine gEx.getR rfl rfl (h0 0 _ rfl) rfl ?_
      refine gEx.getR rfl rfl (h0 11 _ rfl) rfl ?_
      refine gEx.iload rfl rfl rfl ?_
      refine gEx.iald rfl rfl (h0 14 _ rfl) ?_
      refine gEx.lab (ls' := [some (.ref a), none, none, none]) rfl rfl ?_
      exact gEx.reti rfl rfl
  show gEx d gcx_96 sh gri 0 [some (.ref a), some (.int x1), none, none] [] m (f_Town_holderOf a x1 m)
  unfold f_Town_holderOf
  refine gEx.iconst rfl rfl ?_
  refine gEx.istore (ls' := [some (.ref a), some (.int x1), some (.int (-4)), none]) rfl rfl rfl ?_
  refine gEx.iconst rfl rfl ?_
  refine gEx.istore (ls' := [some (.ref a), some (.int x1), some (.int (-4)), some (.int 0)]) rfl rfl rfl ?_
  have hL_5 : ∀ (n : Nat) (v3 : Int32) (v4 : Int32) (m2 : gM), gEx d gcx_96 sh gri 5 [some (.ref a), some (.int x1), some (.int v3), some (.int v4)] [] m2 (L_Town_holderOf_5 a x1 (fun v3 v4 m2 => J_Town_holderOf_72 a x1 v3 v4 m2) n v3 v4 m2) := by
    refine gfix_ind (P := fun (f : Int32 → Int32 → gM → Option (Int32 × gM)) => ∀ (v3 : Int32) (v4 : Int32) (m2 : gM), gEx d gcx_96 sh gri 5 [some (.ref a), some (.int x1), some (.int v3), some (.int v4)] [] m2 (f v3 v4 m2)) (fun _ _ _ => gEx.none) (fun rec_5 hrec_5 => ?_)
    have hJ_66 : ∀ (v5 : Int32) (v6 : Int32) (m3 : gM), gEx d gcx_96 sh gri 66 [some (.ref a), some (.int x1), some (.int v5), some (.int v6)] [] m3 (J_Town_holderOf_66 rec_5 v5 v6 m3) := by
      intro v5 v6 m3
      unfold J_Town_holderOf_66
      refine gEx.iinc (ls' := [some (.ref a), some (.int x1), some (.int v5), some (.int (v6 + 1))]) rfl rfl rfl rfl ?_
      refine gEx.goto (tn := 5) rfl rfl rfl ?_
      exact gEx.lab rfl rfl (hrec_5 v5 (v6 + 1) m3)
    have hJ_64 : ∀ (v7 : Int32) (v8 : Int32) (m4 : gM), gEx d gcx_96 sh gri 64 [some (.ref a), some (.int x1), some (.int v7), some (.int v8)] [] m4 (J_Town_holderOf_64 rec_5 v7 v8 m4) := by
      intro v7 v8 m4
      unfold J_Town_holderOf_64
      refine gEx.iload rfl rfl rfl ?_
      refine gEx.istore (ls' := [some (.ref a), some (.int x1), some (.int v8), some (.int v8)]) rfl rfl rfl ?_
      exact gEx.lab rfl rfl (hJ_66 v8 v8 m4)
    intro v3 v4 m2
    refine gEx.iload rfl rfl rfl ?_
    refine gEx.aload rfl rfl rfl ?_
    refine gEx.getR rfl rfl (h0 0 _ rfl) rfl ?_
    refine gEx.getI rfl rfl (h0 11 _ rfl) rfl ?_
    refine gEx.icmp_ge (tn := 72) rfl rfl rfl ?_ ?_
    · refine gEx.aload rfl rfl rfl ?_
      refine gEx.getR rfl rfl (h0 0 _ rfl) rfl ?_
      refine gEx.getR rfl rfl (h0 11 _ rfl) rfl ?_
      refine gEx.iload rfl rfl rfl ?_
      refine gEx.iald rfl rfl (h0 13 _ rfl) ?_
      refine gEx.iload rfl rfl rfl ?_
      refine gEx.icmp_ne (tn := 66) rfl rfl rfl ?_ ?_
      · refine gEx.aload rfl rfl rfl ?_
        refine gEx.iload rfl rfl rfl ?_
        refine gEx.callVi rfl rfl rfl rfl (h0 0 _ rfl) rfl (fun _ h => (t_Town_hasEnded (by omega) h0) _ h) (fun r1 => ?_)
        refine gEx.if_ne (tn := 66) rfl rfl rfl ?_ ?_
        · refine gEx.iload rfl rfl rfl ?_
          refine gEx.iconst rfl rfl ?_
          refine gEx.icmp_eq (tn := 64) rfl rfl rfl ?_ ?_
          · exact gEx.lab rfl rfl (hJ_64 v3 v4 r1.2)
          · refine gEx.aload rfl rfl rfl ?_
            refine gEx.getR rfl rfl (h0 0 _ rfl) rfl ?_
            refine gEx.getR rfl rfl (h0 11 _ rfl) rfl ?_
            refine gEx.iload rfl rfl rfl ?_
            refine gEx.iald rfl rfl (h0 16 _ rfl) ?_
            refine gEx.aload rfl rfl rfl ?_
            refine gEx.getR rfl rfl (h0 0 _ rfl) rfl ?_
            refine gEx.getR rfl rfl (h0 11 _ rfl) rfl ?_
            refine gEx.iload rfl rfl rfl ?_
            refine gEx.iald rfl rfl (h0 16 _ rfl) ?_
            refine gEx.icmp_ge (tn := 66) rfl rfl rfl ?_ ?_
            · exact gEx.lab rfl rfl (hJ_64 v3 v4 r1.2)
            · exact gEx.lab rfl rfl (hJ_66 v3 v4 r1.2)
        · exact gEx.lab rfl rfl (hJ_66 v3 v4 r1.2)
      · exact gEx.lab rfl rfl (hJ_66 v3 v4 m2)
    · exact gEx.lab rfl rfl (hJ_72 v3 v4 m2)
  exact gEx.lab rfl rfl (hL_5 1000 (-4) 0 m)
abbrev gcx_98 : gC := glook (gco_98_0)
set_option maxRecDepth 100000 in
set_option maxHeartbeats 4000000 in
theorem t_Town_nearestWellFrom {d : Nat} (hd : 2 ≤ d) {sh : gH} {a : Nat} {x1 : Int32} (h0 : gHas sh.1 a (gsh_Town a)) {m : gM} : ∀ x, f_Town_nearestWellFrom a x1 m = some x → gR gmi gdf gcd d 98 [.ref a, .int x1] (sh, m) ((gri x).1, (sh, (gri x).2)) := by
  obtain ⟨d, rfl⟩ : ∃ e, d = e + 1 := ⟨d - 1, by omega⟩
  refine gR_of (mx := 4) (code := gcx_98) rfl rfl (Nat.le_of_ble_eq_true rfl) ?_
  show gEx d gcx_98 sh gri 0 [some (.ref a), some (.int x1), none, none] [] m (f_Town_nearestWellFrom a x1 m)
  unfold f_Town_nearestWellFrom
  refine gEx.iconst rfl rfl ?_
  refine gEx.istore (ls' := [some (.ref a), some (.int x1), some (.int 99), none]) rfl rfl rfl ?_
  refine gEx.iconst rfl rfl ?_
  refine gEx.istore (ls' := [some (.ref a), some (.int x1), some (.int 99), some (.int 0)]) rfl rfl rfl ?_
  have hL_5 : ∀ (n : Nat) (v1 : Int32) (v2 : Int32) (m1 : gM), gEx d gcx_98 sh gri 5 [some (.ref a), some (.int x1), some (.int v1), some (.int v2)] [] m1 (L_Town_nearestWellFrom_5 a x1 n v1 v2 m1) := by
    refine gfix_ind (P := fun (f : Int32 → Int32 → gM → Option (Int32 × gM)) => ∀ (v1 : Int32) (v2 : Int32) (m1 : gM), gEx d gcx_98 sh gri 5 [some (.ref a), some (.int x1), some (.int v1), some (.int v2)] [] m1 (f v1 v2 m1)) (fun _ _ _ => gEx.none) (fun rec_5 hrec_5 => ?_)
    intro v1 v2 m1
    refine gEx.iload rfl rfl rfl ?_
    refine gEx.aload rfl rfl rfl ?_
    refine gEx.getR rfl rfl (h0 0 _ rfl) rfl ?_
    refine gEx.getI rfl rfl (h0 17 _ rfl) rfl ?_
    refine gEx.icmp_ge (tn := 47) rfl rfl rfl ?_ ?_
    · refine gEx.iload rfl rfl rfl ?_
      refine gEx.aload rfl rfl rfl ?_
      refine gEx.getR rfl rfl (h0 0 _ rfl) rfl ?_
      refine gEx.getR rfl rfl (h0 1 _ rfl) rfl ?_
      refine gEx.iload rfl rfl rfl ?_
      refine gEx.aload rfl rfl rfl ?_
      refine gEx.getR rfl rfl (h0 0 _ rfl) rfl ?_
      refine gEx.getR rfl rfl (h0 17 _ rfl) rfl ?_
      refine gEx.iload rfl rfl rfl ?_
      refine gEx.iald rfl rfl (h0 19 _ rfl) ?_
      refine gEx.callVi rfl rfl rfl rfl (h0 2 _ rfl) rfl (fun _ h => (t_Pool_howFar (by omega) (gsub_Town_2 h0)) _ h) (fun r1 => ?_)
      refine gEx.mmin rfl rfl rfl ?_
      refine gEx.istoreL (ls' := fun v3 => [some (.ref a), some (.int x1), some (.int v3), some (.int v2)]) rfl rfl (fun _ => rfl) (fun v3 => ?_)
      refine gEx.iinc (ls' := [some (.ref a), some (.int x1), some (.int v3), some (.int (v2 + 1))]) rfl rfl rfl rfl ?_
      refine gEx.goto (tn := 5) rfl rfl rfl ?_
      exact gEx.lab rfl rfl (hrec_5 v3 (v2 + 1) r1.2)
    · refine gEx.iload rfl rfl rfl ?_
      exact gEx.reti rfl rfl
  exact gEx.lab rfl rfl (hL_5 1000 99 0 m)
abbrev gcx_36 : gC := glook (gco_36_0)
set_option maxRecDepth 100000 in
set_option maxHeartbeats 4000000 in
theorem t_Orders_whyNotUnder {d : Nat} (hd : 4 ≤ d) {sh : gH} {a : Nat} {p1 : Nat} {x2 : Int32} {x3 : Int32} {x4 : Int32} {x5 : Int32} (h0 : gHas sh.1 a (gsh_Orders a)) (h1 : gHas sh.1 p1 (gsh_Town p1)) {m : gM} : ∀ x, f_Orders_whyNotUnder a p1 x2 x3 x4 x5 m = some x → gR gmi gdf gcd d 36 [.ref a, .ref p1, .int x2, .int x3, .int x4, .int x5] (sh, m) ((gri x).1, (sh, (gri x).2)) := by
  obtain ⟨d, rfl⟩ : ∃ e, d = e + 1 := ⟨d - 1, by omega⟩
  refine gR_of (mx := 7) (code := gcx_36) rfl rfl (Nat.le_of_ble_eq_true rfl) ?_
  show gEx d gcx_36 sh gri 0 [some (.ref a), some (.ref p1), some (.int x2), some (.int x3), some (.int x4), some (.int x5), none] [] m (f_Orders_whyNotUnder a p1 x2 x3 x4 x5 m)
  unfold f_Orders_whyNotUnder
  refine gEx.aload rfl rfl rfl ?_
  refine gEx.getR rfl rfl (h1 0 _ rfl) rfl ?_
  refine gEx.getR rfl rfl (h1 1 _ rfl) rfl ?_
  refine gEx.iload rfl rfl rfl ?_
  refine gEx.iald rfl rfl (h1 9 _ rfl) ?_
  refine gEx.istoreL (ls' := fun v1 => [some (.ref a), some (.ref p1), some (.int x2), some (.int x3), some (.int x4), some (.int x5), some (.int v1)]) rfl rfl (fun _ => rfl) (fun v1 => ?_)
  refine gEx.iload rfl rfl rfl ?_
  refine gEx.iconst rfl rfl ?_
  refine gEx.icmp_eq (tn := 28) rfl rfl rfl ?_ ?_
  · refine gEx.lab (ls' := [some (.ref a), none, none, none, none, none, none]) rfl rfl ?_
    refine gEx.iconst rfl rfl ?_
    exact gEx.reti rfl rfl
  · refine gEx.aload rfl rfl rfl ?_
    refine gEx.iload rfl rfl rfl ?_
    refine gEx.callVi rfl rfl rfl rfl (h1 0 _ rfl) rfl (fun _ h => (t_Town_holderOf (by omega) h1) _ h) (fun r1 => ?_)
    refine gEx.iload rfl rfl rfl ?_
    refine gEx.icmp_eq (tn := 30) rfl rfl rfl ?_ ?_
    · refine gEx.aload rfl rfl rfl ?_
      refine gEx.iload rfl rfl rfl ?_
      refine gEx.aload rfl rfl rfl ?_
      refine gEx.callVi rfl rfl rfl rfl (h1 0 _ rfl) rfl (fun _ h => (t_Town_shift (by omega) h1) _ h) (fun r2 => ?_)
      refine gEx.callVi rfl rfl rfl rfl (h0 0 _ rfl) rfl (fun _ h => (t_Orders_excepts (by omega) h0) _ h) (fun r3 => ?_)
      refine gEx.if_eq (tn := 44) rfl rfl rfl ?_ ?_
      · refine gEx.aload rfl rfl rfl ?_
        refine gEx.getR rfl rfl (h1 0 _ rfl) rfl ?_
        refine gEx.iload rfl rfl rfl ?_
        refine gEx.callVi rfl rfl rfl rfl (h1 1 _ rfl) rfl (fun _ h => (t_Ground_strangerFrom (by omega) (gsub_Town_1 h1)) _ h) (fun r4 => ?_)
        refine gEx.iload rfl rfl rfl ?_
        refine gEx.icmp_ge (tn := 59) rfl rfl rfl ?_ ?_
        · refine gEx.iconst rfl rfl ?_
          exact gEx.reti rfl rfl
        · refine gEx.aload rfl rfl rfl ?_
          refine gEx.iload rfl rfl rfl ?_
          refine gEx.callVi rfl rfl rfl rfl (h1 0 _ rfl) rfl (fun _ h => (t_Town_nearestWellFrom (by omega) h1) _ h) (fun r5 => ?_)
          refine gEx.iload rfl rfl rfl ?_
          refine gEx.icmp_ge (tn := 73) rfl rfl rfl ?_ ?_
          · refine gEx.iconst rfl rfl ?_
            refine gEx.goto (tn := 74) rfl rfl rfl ?_
            refine gEx.lab (ls' := [some (.ref a), none, none, none, none, none, none]) rfl rfl ?_
            exact gEx.reti rfl rfl
          · refine gEx.iconst rfl rfl ?_
            refine gEx.lab (ls' := [some (.ref a), none, none, none, none, none, none]) rfl rfl ?_
            exact gEx.reti rfl rfl
      · refine gEx.iconst rfl rfl ?_
        exact gEx.reti rfl rfl
    · refine gEx.lab (ls' := [some (.ref a), none, none, none, none, none, none]) rfl rfl ?_
      refine gEx.iconst rfl rfl ?_
      exact gEx.reti rfl rfl
abbrev gcx_35 : gC := glook (gco_35_0)
set_option maxRecDepth 100000 in
set_option maxHeartbeats 4000000 in
theorem t_Orders_whyNot {d : Nat} (hd : 5 ≤ d) {sh : gH} {a : Nat} {p1 : Nat} {x2 : Int32} {x3 : Int32} (h0 : gHas sh.1 a (gsh_Orders a)) (h1 : gHas sh.1 p1 (gsh_Town p1)) {m : gM} : ∀ x, f_Orders_whyNot a p1 x2 x3 m = some x → gR gmi gdf gcd d 35 [.ref a, .ref p1, .int x2, .int x3] (sh, m) ((gri x).1, (sh, (gri x).2)) := by
  obtain ⟨d, rfl⟩ : ∃ e, d = e + 1 := ⟨d - 1, by omega⟩
  refine gR_of (mx := 5) (code := gcx_35) rfl rfl (Nat.le_of_ble_eq_true rfl) ?_
  show gEx d gcx_35 sh gri 0 [some (.ref a), some (.ref p1), some (.int x2), some (.int x3), none] [] m (f_Orders_whyNot a p1 x2 x3 m)
  unfold f_Orders_whyNot
  refine gEx.aload rfl rfl rfl ?_
  refine gEx.callVi rfl rfl rfl rfl (h1 0 _ rfl) rfl (fun _ h => (t_Town_shift (by omega) h1) _ h) (fun r1 => ?_)
  refine gEx.istore (ls' := [some (.ref a), some (.ref p1), some (.int x2), some (.int x3), some (.int r1.1)]) rfl rfl rfl ?_
  refine gEx.aload rfl rfl rfl ?_
  refine gEx.aload rfl rfl rfl ?_
  refine gEx.iload rfl rfl rfl ?_
  refine gEx.iload rfl rfl rfl ?_
  refine gEx.aload rfl rfl rfl ?_
  refine gEx.iconst rfl rfl ?_
  refine gEx.iload rfl rfl rfl ?_
  refine gEx.callVi rfl rfl rfl rfl (h0 0 _ rfl) rfl (fun _ h => (t_Orders_numberIn (by omega) h0) _ h) (fun r2 => ?_)
  refine gEx.aload rfl rfl rfl ?_
  refine gEx.iconst rfl rfl ?_
  refine gEx.iload rfl rfl rfl ?_
  refine gEx.callVi rfl rfl rfl rfl (h0 0 _ rfl) rfl (fun _ h => (t_Orders_numberIn (by omega) h0) _ h) (fun r3 => ?_)
  refine gEx.callVi rfl rfl rfl rfl (h0 0 _ rfl) rfl (fun _ h => (t_Orders_whyNotUnder (by omega) h0 h1) _ h) (fun r4 => ?_)
  exact gEx.reti rfl rfl
