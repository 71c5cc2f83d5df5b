/-! ===== every call alike on both sides ===== -/
theorem gStep_of {n op : Nat} {as : List Value} {q : gS} {f g : gM → Option (Int32 × gM)} (H : gI n q) (hB : ∀ K : Nat, Inv n K q.2.1 → gBoth n K f g q.2) (hO : ∀ (sh : gH) (kl : List (Option Nat)), gHas sh.1 0 (gsh_OT kl) → ∀ (m : gM) (x : Int32 × gM), f m = some x → gR gmi gdf gcd 10 (109 + op) (.ref 0 :: as) (sh, m) ((gri x).1, (sh, (gri x).2))) (hM : ∀ sh : gH, gHas sh.1 81 gsh_MO → ∀ (m : gM) (x : Int32 × gM), g m = some x → gR gmi gdf gcd 10 (gqM op) (.ref 81 :: as) (sh, m) ((gri x).1, (sh, (gri x).2))) : gStep n op as q := by
  obtain ⟨K, h1, h2, h3, h4, I⟩ := H
  obtain ⟨sh, m⟩ := q
  obtain ⟨v, m1, m2, e1, e2, I'⟩ := hB K I
  exact ⟨v, (sh, m1), (sh, m2), hO sh (klOf K) h2 m (v, m1) e1, hM sh h3 m1 (v, m2) e2, ⟨K, h1, h2, h3, h4, I'⟩, ⟨_, h2 0 _ rfl⟩, ⟨_, h3 0 _ rfl⟩⟩
theorem s_field {n : Nat} {q : gS} (x1 x2 : Int32) (hn : n < 512) (H : gI n q) : gStep n 0 [.int x1, .int x2] q := gStep_of (f := f_OT_field x1 x2) (g := f_MO_field x1 x2) H (fun K I => p_field x1 x2 I) (fun sh kl h m x e => t_OT_field (by decide) h x e) (fun sh h m x e => t_MO_field (by decide) h x e)
theorem s_cell {n : Nat} {q : gS} (x1 x2 x3 x4 x5 : Int32) (hn : n < 512) (H : gI n q) : gStep n 1 [.int x1, .int x2, .int x3, .int x4, .int x5] q := gStep_of (f := f_OT_cell x1 x2 x3 x4 x5) (g := f_MO_cell x1 x2 x3 x4 x5) H (fun K I => p_cell x1 x2 x3 x4 x5 I) (fun sh kl h m x e => t_OT_cell (by decide) h x e) (fun sh h m x e => t_MO_cell (by decide) h x e)
theorem s_lay {n : Nat} {q : gS} (x1 x2 : Int32) (hn : n < 512) (H : gI n q) : gStep n 2 [.int x1, .int x2] q := gStep_of (f := f_OT_lay x1 x2) (g := f_MO_lay x1 x2) H (fun K I => p_lay x1 x2 I) (fun sh kl h m x e => t_OT_lay (by decide) h x e) (fun sh h m x e => t_MO_lay (by decide) h x e)
theorem s_cellOf {n : Nat} {q : gS} (x1 x2 : Int32) (hn : n < 512) (H : gI n q) : gStep n 3 [.int x1, .int x2] q := gStep_of (f := f_OT_cellOf x1 x2) (g := f_MO_cellOf x1 x2) H (fun K I => p_cellOf x1 x2 I) (fun sh kl h m x e => t_OT_cellOf (by decide) h x e) (fun sh h m x e => t_MO_cellOf (by decide) h x e)
theorem s_hour {n : Nat} {q : gS} (hn : n < 512) (H : gI n q) : gStep n 4 [] q := gStep_of (f := f_OT_hour) (g := f_MO_hour) H (fun K I => p_hour hn I) (fun sh kl h m x e => t_OT_hour (by decide) h x e) (fun sh h m x e => t_MO_hour (by decide) h x e)
theorem s_person {n : Nat} {q : gS} (hn : n < 512) (H : gI n q) : gStep n 5 [] q := gStep_of (f := f_OT_person) (g := f_MO_person) H (fun K I => p_person  I) (fun sh kl h m x e => t_OT_person (by decide) h x e) (fun sh h m x e => t_MO_person (by decide) h x e)
theorem s_owner {n : Nat} {q : gS} (x1 x2 : Int32) (hn : n < 512) (H : gI n q) : gStep n 6 [.int x1, .int x2] q := gStep_of (f := f_OT_owner x1 x2) (g := f_MO_owner x1 x2) H (fun K I => p_owner x1 x2 I) (fun sh kl h m x e => t_OT_owner (by decide) h x e) (fun sh h m x e => t_MO_owner (by decide) h x e)
theorem s_lease {n : Nat} {q : gS} (x1 x2 x3 x4 : Int32) (hn : n < 512) (H : gI n q) : gStep n 7 [.int x1, .int x2, .int x3, .int x4] q := gStep_of (f := f_OT_lease x1 x2 x3 x4) (g := f_MO_lease x1 x2 x3 x4) H (fun K I => p_lease x1 x2 x3 x4 I) (fun sh kl h m x e => t_OT_lease (by decide) h x e) (fun sh h m x e => t_MO_lease (by decide) h x e)
theorem s_leaseOf {n : Nat} {q : gS} (x1 x2 : Int32) (hn : n < 512) (H : gI n q) : gStep n 8 [.int x1, .int x2] q := gStep_of (f := f_OT_leaseOf x1 x2) (g := f_MO_leaseOf x1 x2) H (fun K I => p_leaseOf x1 x2 I) (fun sh kl h m x e => t_OT_leaseOf (by decide) h x e) (fun sh h m x e => t_MO_leaseOf (by decide) h x e)
theorem s_holds {n : Nat} {q : gS} (x1 : Int32) (hn : n < 512) (H : gI n q) : gStep n 9 [.int x1] q := gStep_of (f := f_OT_holds x1) (g := f_MO_holds x1) H (fun K I => p_holds x1 I) (fun sh kl h m x e => t_OT_holds (by decide) h x e) (fun sh h m x e => t_MO_holds (by decide) h x e)
theorem s_told {n : Nat} {q : gS} (x1 x2 : Int32) (hn : n < 512) (H : gI n q) : gStep n 10 [.int x1, .int x2] q := gStep_of (f := f_OT_told x1 x2) (g := f_MO_told x1 x2) H (fun K I => p_told x1 x2 I) (fun sh kl h m x e => t_OT_told (by decide) h x e) (fun sh h m x e => t_MO_told (by decide) h x e)
theorem s_drill {n : Nat} {q : gS} (x1 x2 x3 : Int32) (hn : n < 512) (H : gI n q) : gStep n 11 [.int x1, .int x2, .int x3] q := gStep_of (f := f_OT_drill x1 x2 x3) (g := f_MO_drill x1 x2 x3) H (fun K I => p_drill x1 x2 x3 I) (fun sh kl h m x e => t_OT_drill (by decide) h x e) (fun sh h m x e => t_MO_drill (by decide) h x e)
theorem s_why {n : Nat} {q : gS} (x1 x2 : Int32) (hn : n < 512) (H : gI n q) : gStep n 12 [.int x1, .int x2] q := gStep_of (f := f_OT_why x1 x2) (g := f_MO_why x1 x2) H (fun K I => p_why x1 x2 I) (fun sh kl h m x e => t_OT_why (by decide) h x e) (fun sh h m x e => t_MO_why (by decide) h x e)
theorem s_will {n : Nat} {q : gS} (x1 x2 : Int32) (hn : n < 512) (H : gI n q) : gStep n 13 [.int x1, .int x2] q := gStep_of (f := f_OT_will x1 x2) (g := f_MO_will x1 x2) H (fun K I => p_will x1 x2 I) (fun sh kl h m x e => t_OT_will (by decide) h x e) (fun sh h m x e => t_MO_will (by decide) h x e)
theorem s_opn {n : Nat} {q : gS} (x1 x2 : Int32) (h01 : x2 = 0 ∨ x2 = 1) (hn : n < 512) (H : gI n q) : gStep n 14 [.int x1, .int x2] q := gStep_of (f := f_OT_open x1 x2) (g := f_MO_open x1 x2) H (fun K I => p_opn x1 x2 h01 I) (fun sh kl h m x e => t_OT_open (by decide) h x e) (fun sh h m x e => t_MO_open (by decide) h x e)
theorem s_wellOf {n : Nat} {q : gS} (x1 x2 : Int32) (hn : n < 512) (H : gI n q) : gStep n 15 [.int x1, .int x2] q := gStep_of (f := f_OT_wellOf x1 x2) (g := f_MO_wellOf x1 x2) H (fun K I => p_wellOf x1 x2 I) (fun sh kl h m x e => t_OT_wellOf (by decide) h x e) (fun sh h m x e => t_MO_wellOf (by decide) h x e)
theorem s_drew {n : Nat} {q : gS} (x1 x2 x3 : Int32) (hn : n < 512) (H : gI n q) : gStep n 16 [.int x1, .int x2, .int x3] q := gStep_of (f := f_OT_drew x1 x2 x3) (g := f_MO_drew x1 x2 x3) H (fun K I => p_drew x1 x2 x3 I) (fun sh kl h m x e => t_OT_drew (by decide) h x e) (fun sh h m x e => t_MO_drew (by decide) h x e)
theorem s_sell {n : Nat} {q : gS} (x1 x2 : Int32) (hn : n < 512) (H : gI n q) : gStep n 17 [.int x1, .int x2] q := gStep_of (f := f_OT_sell x1 x2) (g := f_MO_sell x1 x2) H (fun K I => p_sell x1 x2 I) (fun sh kl h m x e => t_OT_sell (by decide) h x e) (fun sh h m x e => t_MO_sell (by decide) h x e)
theorem s_price {n : Nat} {q : gS} (x1 : Int32) (hn : n < 512) (H : gI n q) : gStep n 18 [.int x1] q := gStep_of (f := f_OT_price x1) (g := f_MO_price x1) H (fun K I => p_price x1 I) (fun sh kl h m x e => t_OT_price (by decide) h x e) (fun sh h m x e => t_MO_price (by decide) h x e)
theorem s_feed {n : Nat} {q : gS} (y : Int64) (hn : n < 512) (H : gI n q) : gStep n 19 [.long y] q := gStep_of (f := f_OT_feed y) (g := f_MO_feed y) H (fun K I => p_feed y I) (fun sh kl h m x e => t_OT_feed (by decide) h x e) (fun sh h m x e => t_MO_feed (by decide) h x e)
theorem s_end {n : Nat} {q : gS} (x1 : Int32) (hn : n < 512) (H : gI n q) : gStep n 20 [.int x1] q := gStep_of (f := f_OT_end x1) (g := f_MO_end x1) H (fun K I => p_end x1 I) (fun sh kl h m x e => t_OT_end (by decide) h x e) (fun sh h m x e => t_MO_end (by decide) h x e)
theorem s_orders {n : Nat} {q : gS} (hn : n < 512) (H : gI n q) : gStep n 21 [] q := gStep_of (f := f_OT_orders) (g := f_MO_orders) H (fun K I => p_orders  I) (fun sh kl h m x e => t_OT_orders (by decide) h x e) (fun sh h m x e => t_MO_orders (by decide) h x e)
theorem s_fault {n : Nat} {q : gS} (hn : n < 512) (H : gI n q) : gStep n 22 [] q := gStep_of (f := f_OT_fault) (g := f_MO_fault) H (fun K I => p_fault  I) (fun sh kl h m x e => t_OT_fault (by decide) h x e) (fun sh h m x e => t_MO_fault (by decide) h x e)
theorem s_line {n : Nat} {q : gS} (x1 x2 : Int32) (hn : n < 512) (H : gI n q) : gStep n 23 [.int x1, .int x2] q := gStep_of (f := f_OT_line x1 x2) (g := f_MO_line x1 x2) H (fun K I => p_line x1 x2 I) (fun sh kl h m x e => t_OT_line (by decide) h x e) (fun sh h m x e => t_MO_line (by decide) h x e)
theorem s_voids {n : Nat} {q : gS} (x1 : Int32) (hn : n < 512) (H : gI n q) : gStep n 24 [.int x1] q := gStep_of (f := f_OT_voids x1) (g := f_MO_voids x1) H (fun K I => p_voids x1 I) (fun sh kl h m x e => t_OT_voids (by decide) h x e) (fun sh h m x e => t_MO_voids (by decide) h x e)
theorem s_lets {n : Nat} {q : gS} (x1 x2 x3 : Int32) (hn : n < 512) (H : gI n q) : gStep n 25 [.int x1, .int x2, .int x3] q := gStep_of (f := f_OT_lets x1 x2 x3) (g := f_MO_lets x1 x2 x3) H (fun K I => p_lets x1 x2 x3 I) (fun sh kl h m x e => t_OT_lets (by decide) h x e) (fun sh h m x e => t_MO_lets (by decide) h x e)
theorem s_spot {n : Nat} {q : gS} (x1 x2 : Int32) (hn : n < 512) (H : gI n q) : gStep n 26 [.int x1, .int x2] q := gStep_of (f := f_OT_spot x1 x2) (g := f_MO_spot x1 x2) H (fun K I => p_spot x1 x2 I) (fun sh kl h m x e => t_OT_spot (by decide) h x e) (fun sh h m x e => t_MO_spot (by decide) h x e)
theorem s_gain {n : Nat} {q : gS} (x1 x2 x3 x4 x5 x6 : Int32) (hn : n < 512) (H : gI n q) : gStep n 27 [.int x1, .int x2, .int x3, .int x4, .int x5, .int x6] q := gStep_of (f := f_OT_gain x1 x2 x3 x4 x5 x6) (g := f_MO_gain x1 x2 x3 x4 x5 x6) H (fun K I => p_gain hn x1 x2 x3 x4 x5 x6 I) (fun sh kl h m x e => t_OT_gain (by decide) h x e) (fun sh h m x e => t_MO_gain (by decide) h x e)
theorem s_steady {n : Nat} {q : gS} (x1 x2 x3 x4 x5 : Int32) (hn : n < 512) (H : gI n q) : gStep n 28 [.int x1, .int x2, .int x3, .int x4, .int x5] q := gStep_of (f := f_OT_steady x1 x2 x3 x4 x5) (g := f_MO_steady x1 x2 x3 x4 x5) H (fun K I => p_steady hn x1 x2 x3 x4 x5 I) (fun sh kl h m x e => t_OT_steady (by decide) h x e) (fun sh h m x e => t_MO_steady (by decide) h x e)
theorem s_must {n : Nat} {q : gS} (x1 x2 x3 x4 x5 : Int32) (hn : n < 512) (H : gI n q) : gStep n 29 [.int x1, .int x2, .int x3, .int x4, .int x5] q := gStep_of (f := f_OT_must x1 x2 x3 x4 x5) (g := f_MO_must x1 x2 x3 x4 x5) H (fun K I => p_must hn x1 x2 x3 x4 x5 I) (fun sh kl h m x e => t_OT_must (by decide) h x e) (fun sh h m x e => t_MO_must (by decide) h x e)
theorem s_sheet {n : Nat} {q : gS} (x1 x2 x3 : Int32) (hn : n < 512) (H : gI n q) : gStep n 32 [.int x1, .int x2, .int x3] q := gStep_of (f := f_OT_sheet x1 x2 x3) (g := f_MO_sheet x1 x2 x3) H (fun K I => p_sheet x1 x2 x3 I) (fun sh kl h m x e => t_OT_sheet (by decide) h x e) (fun sh h m x e => t_MO_sheet (by decide) h x e)
theorem s_write {n : Nat} {q : gS} (x1 x2 x3 : Int32) (hn : n < 512) (H : gI n q) : gStep n 33 [.int x1, .int x2, .int x3] q := gStep_of (f := f_OT_write x1 x2 x3) (g := f_MO_write x1 x2 x3) H (fun K I => p_write x1 x2 x3 I) (fun sh kl h m x e => t_OT_write (by decide) h x e) (fun sh h m x e => t_MO_write (by decide) h x e)
theorem s_scan {n : Nat} {q : gS} (x1 x2 x3 : Int32) (hn : n < 512) (H : gI n q) : gStep n 34 [.int x1, .int x2, .int x3] q := gStep_of (f := f_OT_scan x1 x2 x3) (g := f_MO_scan x1 x2 x3) H (fun K I => p_scan x1 x2 x3 I) (fun sh kl h m x e => t_OT_scan (by decide) h x e) (fun sh h m x e => t_MO_scan (by decide) h x e)
theorem s_count {n : Nat} {q : gS} (x1 : Int32) (hn : n < 512) (H : gI n q) : gStep n 35 [.int x1] q := gStep_of (f := f_OT_count x1) (g := f_MO_count x1) H (fun K I => p_count x1 I) (fun sh kl h m x e => t_OT_count (by decide) h x e) (fun sh h m x e => t_MO_count (by decide) h x e)
theorem gsim_all : gSim gI := by
  refine ⟨fun k op x q hk hop H => ?_, fun k q hk H => H.skip⟩
  show gStep k op (gArg op x) q
  match op, hop with
  | 0, _ => exact s_field (x 1) (x 2) hk H
  | 1, _ => exact s_cell (x 1) (x 2) (x 3) (x 4) (x 5) hk H
  | 2, _ => exact s_lay (x 1) (x 2) hk H
  | 3, _ => exact s_cellOf (x 1) (x 2) hk H
  | 4, _ => exact s_hour  hk H
  | 5, _ => exact s_person  hk H
  | 6, _ => exact s_owner (x 1) (x 2) hk H
  | 7, _ => exact s_lease (x 1) (x 2) (x 3) (x 4) hk H
  | 8, _ => exact s_leaseOf (x 1) (x 2) hk H
  | 9, _ => exact s_holds (x 1) hk H
  | 10, _ => exact s_told (x 1) (x 2) hk H
  | 11, _ => exact s_drill (x 1) (x 2) (x 3) hk H
  | 12, _ => exact s_why (x 1) (x 2) hk H
  | 13, _ => exact s_will (x 1) (x 2) hk H
  | 14, _ => exact s_opn (x 1) (if x 2 = 0 then 0 else 1) (by split; exact Or.inl rfl; exact Or.inr rfl) hk H
  | 15, _ => exact s_wellOf (x 1) (x 2) hk H
  | 16, _ => exact s_drew (x 1) (x 2) (x 3) hk H
  | 17, _ => exact s_sell (x 1) (x 2) hk H
  | 18, _ => exact s_price (x 1) hk H
  | 19, _ => exact s_feed _ hk H
  | 20, _ => exact s_end (x 1) hk H
  | 21, _ => exact s_orders  hk H
  | 22, _ => exact s_fault  hk H
  | 23, _ => exact s_line (x 1) (x 2) hk H
  | 24, _ => exact s_voids (x 1) hk H
  | 25, _ => exact s_lets (x 1) (x 2) (x 3) hk H
  | 26, _ => exact s_spot (x 1) (x 2) hk H
  | 27, _ => exact s_gain (x 1) (x 2) (x 3) (x 4) (x 5) (x 6) hk H
  | 28, _ => exact s_steady (x 1) (x 2) (x 3) (x 4) (x 5) hk H
  | 29, _ => exact s_must (x 1) (x 2) (x 3) (x 4) (x 5) hk H
  | 30, _ => exact s_keep H
  | 31, _ => exact s_stand (x 1) H
  | 32, _ => exact s_sheet (x 1) (x 2) (x 3) hk H
  | 33, _ => exact s_write (x 1) (x 2) (x 3) hk H
  | 34, _ => exact s_scan (x 1) (x 2) (x 3) hk H
  | 35, _ => exact s_count (x 1) hk H
  | j + 36, h => omega
