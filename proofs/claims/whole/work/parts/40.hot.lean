/-! ===== hot barrels, sums ===== -/
def gsumI (f : Nat → Int32) : Nat → Int32
  | 0 => 0
  | n + 1 => gsumI f n + f n
theorem gsumI_congr {f g : Nat → Int32} : ∀ {n : Nat}, (∀ k, k < n → f k = g k) → gsumI f n = gsumI g n
  | 0, _ => rfl
  | n + 1, h => by
    show gsumI f n + f n = gsumI g n + g n
    rw [gsumI_congr (fun k hk => h k (by omega)), h n (by omega)]
theorem q6 : (6 : Int32) = nI 6 := rfl
theorem q10 : (10 : Int32) = nI 10 := rfl
theorem gmax0 (v : Int32) (m : gM) : (if v < 0 then some ((0 : Int32), m) else some (v, m)) = some (gmax 0 v, m) := by
  unfold gmax
  by_cases h : v < 0
  · rw [if_pos h, if_neg (Int32.not_lt.mpr (Int32.le_of_lt h))]
  · by_cases h2 : 0 < v
    · rw [if_neg h, if_pos h2]
    · rw [if_neg h, if_neg h2]
      have : v = 0 := Int32.le_antisymm (Int32.not_lt.mp h2) (Int32.not_lt.mp h)
      rw [this]
def sHotV (o : Nat) (lt : Int32) : Int32 := if lt = -4 then 0 else gmax 0 (nI o - lt)
theorem sHotV_0 {lt : Int32} (h : lt = -4 ∨ ∃ v, v ≤ 36000 ∧ lt = nI v) : sHotV 0 lt = 0 := by
  unfold sHotV
  rcases h with rfl | ⟨v, hv, rfl⟩
  · rfl
  · rw [if_neg (nI_ne4 (by omega))]
    cases v with
    | zero => decide
    | succ v =>
      rw [nI_sub_lt (by omega)]
      unfold gmax
      rw [if_neg (Int32.not_lt.mpr (Int32.le_of_lt (nI_neg_lt (by omega) (by omega))))]
section HOT
variable {w h9 n we nl k s hr : Nat} {wc ru fr nu vo ws : Nat → Nat} {m : gM}
theorem cl_hotIn {b a : Nat} (hn : n ≤ 36) (h0 : m.1 (a + 2) 2 = nI n) (hw0 : m.1 (a + 17) 0 = nI we) (hwe : we ≤ 10) (hwc : ∀ k, k < we → m.1 (a + 19) k = nI (wc k) ∧ wc k < 36) (hk : k < we) (g0 : m.1 b 0 = nI nl) (hnl : nl ≤ 12) (H : LawAt m.1 (b + 1, b + 2, b + 3, b + 4) nl ru fr nu vo) (hs : s < 50) (hws : m.1 (a + 25) (50 * k + s) = nI (ws (60 * k + s)) ∧ ws (60 * k + s) ≤ 12000) : f_Orders_hotIn b a (nI k) (nI s) m = some (sHotV (ws (60 * k + s)) (sLet (m.1 (a + 9)) ru fr nu vo wc n we nl k s), m) := by
  have hl := cl_letOf (a := a) hn h0 hw0 hwe hwc hk g0 hnl H (s := s) (by omega)
  have hc := sLet_cases (lt := m.1 (a + 9)) (ru := ru) (fr := fr) (nu := nu) (vo := vo) (wc := wc) (n := n) (we := we) (nl := nl) (k := k) (s := s) hn hnl (fun k hk => (H k hk).2.2.2.2.2.2.1)
  have e : m.1 (a + 25) (k * 50 + s) = nI (ws (60 * k + s)) := by rw [show k * 50 + s = 50 * k + s by omega]; exact hws.1
  have hb := hws.2
  unfold f_Orders_hotIn
  simp (disch := omega) only [gfd_eq, glet_eq, gbind_eq, nI_ltI, nI_1, gok_nI, grd_nI, nI_clamp, if_true, if_false, Nat.lt_irrefl, q50, pk_mul, nI_add, e, hl, nI_eq0]
  by_cases z : ws (60 * k + s) = 0
  · rw [if_pos z, z, sHotV_0 hc]
  · rw [if_neg z]
    unfold sHotV
    split <;> rfl
theorem mo_hotIn (hn : n ≤ 36) (h0 : m.1 81 0 = nI w) (h1 : m.1 81 1 = nI h9) (hwh : w * h9 = n) (hw0 : m.1 81 15 = nI we) (hwe : we ≤ 10) (hwc : ∀ k, k < we → m.1 93 k = nI (wc k) ∧ wc k < 36) (hk : k < we) (g0 : m.1 81 48 = nI nl) (hnl : nl ≤ 12) (H : LawAt m.1 (116, 117, 118, 119) nl ru fr nu vo) (hs : s < 50) (hws : m.1 99 (60 * k + s) = nI (ws (60 * k + s)) ∧ ws (60 * k + s) ≤ 12000) : f_MO_hotIn (nI k) (nI s) m = some (sHotV (ws (60 * k + s)) (sLet (m.1 85) ru fr nu vo wc n we nl k s), m) := by
  have hl := mo_letOf hn h0 h1 hwh hw0 (by omega) hwc hk g0 hnl H (s := s) (by omega)
  unfold f_MO_hotIn sHotV
  simp (disch := omega) only [gfd_eq, glet_eq, gbind_eq, nI_ltI, nI_1, gok_nI, grd_nI, nI_clamp, if_true, if_false, Nat.lt_irrefl, q60, pk_mul, nI_add, hws.1, hl, gmax0]
  split <;> rfl
def sHotW (lt : Nat → Int32) (ru fr nu vo wc ws : Nat → Nat) (n we nl k : Nat) : Int32 := gsumI (fun s => sHotV (ws (60 * k + s)) (sLet lt ru fr nu vo wc n we nl k s)) 50
theorem cl_hotOfWell {b a : Nat} (hn : n ≤ 36) (h0 : m.1 (a + 2) 2 = nI n) (hw0 : m.1 (a + 17) 0 = nI we) (hwe : we ≤ 10) (hwc : ∀ k, k < we → m.1 (a + 19) k = nI (wc k) ∧ wc k < 36) (hk : k < we) (g0 : m.1 b 0 = nI nl) (hnl : nl ≤ 12) (H : LawAt m.1 (b + 1, b + 2, b + 3, b + 4) nl ru fr nu vo) (hws : ∀ k s, k < we → s < 50 → m.1 (a + 25) (50 * k + s) = nI (ws (60 * k + s)) ∧ ws (60 * k + s) ≤ 12000) : f_Orders_hotOfWell b a (nI k) m = some (sHotW (m.1 (a + 9)) ru fr nu vo wc ws n we nl k, m) := by
  unfold f_Orders_hotOfWell L_Orders_hotOfWell_5
  refine gloopS (fun (f : Int32 → Int32 → gM → Option (Int32 × gM)) j (s : Int32) => f s (nI j) m) 50 (fun j => gsumI (fun s => sHotV (ws (60 * k + s)) (sLet (m.1 (a + 9)) ru fr nu vo wc n we nl k s)) j) _ ?_ ?_ 1000 (by omega)
  · intro g j hj
    simp (disch := omega) only [gfd_eq, glet_eq, gbind_eq, nI_ltI, nI_1, gok_nI, grd_nI, nI_clamp, if_true, if_false, Nat.lt_irrefl, q50, hj, cl_hotIn (a := a) hn h0 hw0 hwe hwc hk g0 hnl H hj (hws k j hk hj)]
    rfl
  · intro g
    simp (disch := omega) only [gfd_eq, glet_eq, gbind_eq, nI_ltI, nI_1, gok_nI, grd_nI, nI_clamp, if_true, if_false, Nat.lt_irrefl, q50]
    rfl
theorem mo_hotOf (hn : n ≤ 36) (h0 : m.1 81 0 = nI w) (h1 : m.1 81 1 = nI h9) (hwh : w * h9 = n) (hw0 : m.1 81 15 = nI we) (hwe : we ≤ 10) (hwc : ∀ k, k < we → m.1 93 k = nI (wc k) ∧ wc k < 36) (hk : k < we) (g0 : m.1 81 48 = nI nl) (hnl : nl ≤ 12) (H : LawAt m.1 (116, 117, 118, 119) nl ru fr nu vo) (hws : ∀ k s, k < we → s < 50 → m.1 99 (60 * k + s) = nI (ws (60 * k + s)) ∧ ws (60 * k + s) ≤ 12000) : f_MO_hotOf (nI k) m = some (sHotW (m.1 85) ru fr nu vo wc ws n we nl k, m) := by
  unfold f_MO_hotOf L_MO_hotOf_4
  refine gloopS (fun (f : Int32 → Int32 → gM → Option (Int32 × gM)) j (s : Int32) => f s (nI j) m) 50 (fun j => gsumI (fun s => sHotV (ws (60 * k + s)) (sLet (m.1 85) ru fr nu vo wc n we nl k s)) j) _ ?_ ?_ 1000 (by omega)
  · intro g j hj
    obtain ⟨e1, e2⟩ := hws k j hk hj
    have hc := sLet_cases (lt := m.1 85) (ru := ru) (fr := fr) (nu := nu) (vo := vo) (wc := wc) (n := n) (we := we) (nl := nl) (k := k) (s := j) hn hnl (fun k hk => (H k hk).2.2.2.2.2.2.1)
    have lt0 : ((0 : Int32) < nI (ws (60 * k + j))) ↔ 0 < ws (60 * k + j) := nI_ltI (a := 0) (by omega) (by omega)
    show _ = g (gsumI (fun s => sHotV (ws (60 * k + s)) (sLet (m.1 85) ru fr nu vo wc n we nl k s)) j + sHotV (ws (60 * k + j)) (sLet (m.1 85) ru fr nu vo wc n we nl k j)) _ _
    simp (disch := omega) only [gfd_eq, glet_eq, gbind_eq, nI_ltI, nI_1, gok_nI, grd_nI, nI_clamp, if_true, if_false, Nat.lt_irrefl, q50, q60, pk_mul, nI_add, hj, e1, lt0, mo_hotIn hn h0 h1 hwh hw0 hwe hwc hk g0 hnl H hj (hws k j hk hj), J_MO_hotOf_35]
    by_cases z : 0 < ws (60 * k + j)
    · rw [if_pos z]
    · rw [if_neg z, show ws (60 * k + j) = 0 by omega, sHotV_0 hc]
  · intro g
    simp (disch := omega) only [gfd_eq, glet_eq, gbind_eq, nI_ltI, nI_1, gok_nI, grd_nI, nI_clamp, if_true, if_false, Nat.lt_irrefl, q50]
    rfl
theorem cl_hotOfAll {b a : Nat} (hn : n ≤ 36) (h0 : m.1 (a + 2) 2 = nI n) (hw0 : m.1 (a + 17) 0 = nI we) (hwe : we ≤ 10) (hwc : ∀ k, k < we → m.1 (a + 19) k = nI (wc k) ∧ wc k < 36) (g0 : m.1 b 0 = nI nl) (hnl : nl ≤ 12) (H : LawAt m.1 (b + 1, b + 2, b + 3, b + 4) nl ru fr nu vo) (hws : ∀ k s, k < we → s < 50 → m.1 (a + 25) (50 * k + s) = nI (ws (60 * k + s)) ∧ ws (60 * k + s) ≤ 12000) : f_Orders_hotOfAll b a m = some (gsumI (sHotW (m.1 (a + 9)) ru fr nu vo wc ws n we nl) we, m) := by
  unfold f_Orders_hotOfAll L_Orders_hotOfAll_4
  refine gloopS (fun (f : Int32 → Int32 → gM → Option (Int32 × gM)) j (s : Int32) => f s (nI j) m) we (fun j => gsumI (sHotW (m.1 (a + 9)) ru fr nu vo wc ws n we nl) j) _ ?_ ?_ 1000 (by omega)
  · intro g j hj
    simp (disch := omega) only [gfd_eq, glet_eq, gbind_eq, nI_ltI, nI_1, gok_nI, grd_nI, nI_clamp, if_true, if_false, Nat.lt_irrefl, hw0, hj, cl_hotOfWell (a := a) hn h0 hw0 hwe hwc hj g0 hnl H hws]
    rfl
  · intro g
    simp (disch := omega) only [gfd_eq, glet_eq, gbind_eq, nI_ltI, nI_1, gok_nI, grd_nI, nI_clamp, if_true, if_false, Nat.lt_irrefl, hw0]
theorem mo_hotAll (hn : n ≤ 36) (h0 : m.1 81 0 = nI w) (h1 : m.1 81 1 = nI h9) (hwh : w * h9 = n) (hw0 : m.1 81 15 = nI we) (hwe : we ≤ 10) (hwc : ∀ k, k < we → m.1 93 k = nI (wc k) ∧ wc k < 36) (g0 : m.1 81 48 = nI nl) (hnl : nl ≤ 12) (H : LawAt m.1 (116, 117, 118, 119) nl ru fr nu vo) (hws : ∀ k s, k < we → s < 50 → m.1 99 (60 * k + s) = nI (ws (60 * k + s)) ∧ ws (60 * k + s) ≤ 12000) : f_MO_hotAll m = some (gsumI (sHotW (m.1 85) ru fr nu vo wc ws n we nl) we, m) := by
  unfold f_MO_hotAll L_MO_hotAll_4
  refine gloopS (fun (f : Int32 → Int32 → gM → Option (Int32 × gM)) j (s : Int32) => f s (nI j) m) we (fun j => gsumI (sHotW (m.1 85) ru fr nu vo wc ws n we nl) j) _ ?_ ?_ 1000 (by omega)
  · intro g j hj
    simp (disch := omega) only [gfd_eq, glet_eq, gbind_eq, nI_ltI, nI_1, gok_nI, grd_nI, nI_clamp, if_true, if_false, Nat.lt_irrefl, hw0, hj, mo_hotOf hn h0 h1 hwh hw0 hwe hwc hj g0 hnl H hws]
    rfl
  · intro g
    simp (disch := omega) only [gfd_eq, glet_eq, gbind_eq, nI_ltI, nI_1, gok_nI, grd_nI, nI_clamp, if_true, if_false, Nat.lt_irrefl, hw0]
def gsumP (wp : Nat → Int32) (p : Int32) (f : Nat → Int32) (n : Nat) : Int32 := gsumI (fun k => if wp k = p then f k else 0) n
theorem cl_hotOfPerson {b a : Nat} {p : Int32} (hn : n ≤ 36) (h0 : m.1 (a + 2) 2 = nI n) (hw0 : m.1 (a + 17) 0 = nI we) (hwe : we ≤ 10) (hwc : ∀ k, k < we → m.1 (a + 19) k = nI (wc k) ∧ wc k < 36) (g0 : m.1 b 0 = nI nl) (hnl : nl ≤ 12) (H : LawAt m.1 (b + 1, b + 2, b + 3, b + 4) nl ru fr nu vo) (hws : ∀ k s, k < we → s < 50 → m.1 (a + 25) (50 * k + s) = nI (ws (60 * k + s)) ∧ ws (60 * k + s) ≤ 12000) : f_Orders_hotOfPerson b a p m = some (gsumP (m.1 (a + 18)) p (sHotW (m.1 (a + 9)) ru fr nu vo wc ws n we nl) we, m) := by
  unfold f_Orders_hotOfPerson L_Orders_hotOfPerson_5
  refine gloopS (fun (f : Int32 → Int32 → gM → Option (Int32 × gM)) j (s : Int32) => f s (nI j) m) we (fun j => gsumP (m.1 (a + 18)) p (sHotW (m.1 (a + 9)) ru fr nu vo wc ws n we nl) j) _ ?_ ?_ 1000 (by omega)
  · intro g j hj
    simp (disch := omega) only [gfd_eq, glet_eq, gbind_eq, nI_ltI, nI_1, gok_nI, grd_nI, nI_clamp, if_true, if_false, Nat.lt_irrefl, hw0, hj, cl_hotOfWell (a := a) hn h0 hw0 hwe hwc hj g0 hnl H hws, J_Orders_hotOfPerson_41]
    show _ = g (gsumP (m.1 (a + 18)) p (sHotW (m.1 (a + 9)) ru fr nu vo wc ws n we nl) j + (if m.1 (a + 18) j = p then sHotW (m.1 (a + 9)) ru fr nu vo wc ws n we nl j else 0)) _ _
    by_cases z : m.1 (a + 18) j = p
    · rw [if_pos z, if_pos z]
    · rw [if_neg z, if_neg z, Int32.add_zero]
  · intro g
    simp (disch := omega) only [gfd_eq, glet_eq, gbind_eq, nI_ltI, nI_1, gok_nI, grd_nI, nI_clamp, if_true, if_false, Nat.lt_irrefl, hw0]
end HOT
theorem cl_sizeOf {a we : Nat} {p : Int32} {m : gM} (hw0 : m.1 a 0 = nI we) (hwe : we ≤ 10) : f_Wells_sizeOf a p m = some (gsumP (m.1 (a + 1)) p (fun _ => 1) we, m) := by
  unfold f_Wells_sizeOf L_Wells_sizeOf_4
  refine gloopS (fun (f : Int32 → Int32 → Option (Int32 × gM)) j (s : Int32) => f s (nI j)) we (fun j => gsumP (m.1 (a + 1)) p (fun _ => 1) j) _ ?_ ?_ 1000 (by omega)
  · intro g j hj
    simp (disch := omega) only [gfd_eq, glet_eq, gbind_eq, nI_ltI, nI_1, gok_nI, grd_nI, nI_clamp, if_true, if_false, Nat.lt_irrefl, hw0, hj, J_Wells_sizeOf_25]
    show _ = g (gsumP (m.1 (a + 1)) p (fun _ => 1) j + (if m.1 (a + 1) j = p then 1 else 0)) _
    by_cases z : m.1 (a + 1) j = p
    · rw [if_pos z, if_pos z]
    · rw [if_neg z, if_neg z, Int32.add_zero]
  · intro g
    simp (disch := omega) only [gfd_eq, glet_eq, gbind_eq, nI_ltI, nI_1, gok_nI, grd_nI, nI_clamp, if_true, if_false, Nat.lt_irrefl, hw0]
theorem cl_oilOf {a we : Nat} {p : Int32} {m : gM} (hw0 : m.1 a 0 = nI we) (hwe : we ≤ 10) : f_Wells_oilOf a p m = some (gsumP (m.1 (a + 1)) p (m.1 (a + 5)) we, m) := by
  unfold f_Wells_oilOf L_Wells_oilOf_4
  refine gloopS (fun (f : Int32 → Int32 → Option (Int32 × gM)) j (s : Int32) => f s (nI j)) we (fun j => gsumP (m.1 (a + 1)) p (m.1 (a + 5)) j) _ ?_ ?_ 1000 (by omega)
  · intro g j hj
    simp (disch := omega) only [gfd_eq, glet_eq, gbind_eq, nI_ltI, nI_1, gok_nI, grd_nI, nI_clamp, if_true, if_false, Nat.lt_irrefl, hw0, hj, J_Wells_oilOf_31]
    show _ = g (gsumP (m.1 (a + 1)) p (m.1 (a + 5)) j + (if m.1 (a + 1) j = p then m.1 (a + 5) j else 0)) _
    by_cases z : m.1 (a + 1) j = p
    · rw [if_pos z, if_pos z]
    · rw [if_neg z, if_neg z, Int32.add_zero]
  · intro g
    simp (disch := omega) only [gfd_eq, glet_eq, gbind_eq, nI_ltI, nI_1, gok_nI, grd_nI, nI_clamp, if_true, if_false, Nat.lt_irrefl, hw0]
theorem cl_oilOfLot {a we l : Nat} {p : Int32} {m : gM} (hw0 : m.1 a 0 = nI we) (hwe : we ≤ 10) (hl : l < 9) : f_Wells_oilOfLot a p (nI l) m = some (gsumP (m.1 (a + 1)) p (fun k => m.1 (a + 7) (9 * k + l)) we, m) := by
  unfold f_Wells_oilOfLot L_Wells_oilOfLot_5
  refine gloopS (fun (f : Int32 → Int32 → Option (Int32 × gM)) j (s : Int32) => f s (nI j)) we (fun j => gsumP (m.1 (a + 1)) p (fun k => m.1 (a + 7) (9 * k + l)) j) _ ?_ ?_ 1000 (by omega)
  · intro g j hj
    simp (disch := omega) only [gfd_eq, glet_eq, gbind_eq, nI_ltI, nI_1, gok_nI, grd_nI, nI_clamp, if_true, if_false, Nat.lt_irrefl, hw0, hj, J_Wells_oilOfLot_40, q9, pk_mul, nI_add]
    show _ = g (gsumP (m.1 (a + 1)) p (fun k => m.1 (a + 7) (9 * k + l)) j + (if m.1 (a + 1) j = p then m.1 (a + 7) (9 * j + l) else 0)) _
    rw [Nat.mul_comm j 9]
    by_cases z : m.1 (a + 1) j = p
    · rw [if_pos z, if_pos z]
    · rw [if_neg z, if_neg z, Int32.add_zero]
  · intro g
    simp (disch := omega) only [gfd_eq, glet_eq, gbind_eq, nI_ltI, nI_1, gok_nI, grd_nI, nI_clamp, if_true, if_false, Nat.lt_irrefl, hw0]
theorem cl_sumCells {a p n : Nat} {m : gM} (hn : n ≤ 36) (h0 : m.1 a 2 = nI n) : f_Pool_sumOverCells a p m = some (gsumI (m.1 p) n, m) := by
  unfold f_Pool_sumOverCells L_Pool_sumOverCells_4
  refine gloopS (fun (f : Int32 → Int32 → Option (Int32 × gM)) j (s : Int32) => f s (nI j)) n (fun j => gsumI (m.1 p) j) _ ?_ ?_ 1000 (by omega)
  · intro g j hj
    simp (disch := omega) only [gfd_eq, glet_eq, gbind_eq, nI_ltI, nI_1, gok_nI, grd_nI, nI_clamp, if_true, if_false, Nat.lt_irrefl, h0, hj]
    rfl
  · intro g
    simp (disch := omega) only [gfd_eq, glet_eq, gbind_eq, nI_ltI, nI_1, gok_nI, grd_nI, nI_clamp, if_true, if_false, Nat.lt_irrefl, h0]
theorem cl_sumPers {p : Nat} {m : gM} : f_Books_sumOverPersons p m = some (gsumI (m.1 p) 6, m) := by
  unfold f_Books_sumOverPersons L_Books_sumOverPersons_4
  refine gloopS (fun (f : Int32 → Int32 → Option (Int32 × gM)) j (s : Int32) => f s (nI j)) 6 (fun j => gsumI (m.1 p) j) _ ?_ ?_ 1000 (by omega)
  · intro g j hj
    simp (disch := omega) only [gfd_eq, glet_eq, gbind_eq, nI_ltI, nI_1, gok_nI, grd_nI, nI_clamp, if_true, if_false, Nat.lt_irrefl, q6, hj]
    rfl
  · intro g
    simp (disch := omega) only [gfd_eq, glet_eq, gbind_eq, nI_ltI, nI_1, gok_nI, grd_nI, nI_clamp, if_true, if_false, Nat.lt_irrefl, q6]
theorem mo_oilOf {c : Nat} {ol : Nat → Nat} {m : gM} (hc : c < 36) (h : m.1 86 = fun i => nI (ol i)) : f_MO_oilOf (nI c) m = some (nI (osum ol c), m) := by
  unfold f_MO_oilOf L_MO_oilOf_4
  have e : ∀ i, m.1 86 i = nI (ol i) := fun i => congrFun h i
  refine (gloopS (fun (f : Int32 → Int32 → Option (Int32 × gM)) j (s : Nat) => f (nI s) (nI j)) 9 (fun j => gsum (fun i => ol (9 * c + i)) j) (some (nI (gsum (fun i => ol (9 * c + i)) 9), m)) ?_ ?_ 1000 (by omega)).trans ?_
  · intro g j hj
    simp (disch := omega) only [gfd_eq, glet_eq, gbind_eq, nI_ltI, nI_1, gok_nI, grd_nI, nI_clamp, if_true, if_false, Nat.lt_irrefl, q9, hj, pk_mul, nI_add, e]
    rfl
  · intro g
    simp (disch := omega) only [gfd_eq, glet_eq, gbind_eq, nI_ltI, nI_1, gok_nI, grd_nI, nI_clamp, if_true, if_false, Nat.lt_irrefl, q9]
  · show some (nI (0 + ol (9 * c + 0) + ol (9 * c + 1) + ol (9 * c + 2) + ol (9 * c + 3) + ol (9 * c + 4) + ol (9 * c + 5) + ol (9 * c + 6) + ol (9 * c + 7) + ol (9 * c + 8)), m) = some (nI (osum ol c), m)
    rw [Nat.zero_add]
    rfl
