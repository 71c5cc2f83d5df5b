/-! ===== what a well is let, hot barrels ===== -/
def gcnt (p : Nat → Bool) : Nat → Nat
  | 0 => 0
  | n + 1 => gcnt p n + (if p n = true then 1 else 0)
theorem gcnt_le (p : Nat → Bool) : ∀ n, gcnt p n ≤ n
  | 0 => Nat.le_refl _
  | n + 1 => by
    have := gcnt_le p n
    show gcnt p n + (if p n = true then 1 else 0) ≤ n + 1
    split <;> omega
theorem gcnt_pos {p : Nat → Bool} {k : Nat} (hk : p k = true) : ∀ {n}, k < n → 0 < gcnt p n
  | n + 1, h => by
    show 0 < gcnt p n + (if p n = true then 1 else 0)
    by_cases e : k = n
    · subst e; rw [hk, if_pos rfl]; omega
    · have := gcnt_pos hk (n := n) (by omega); omega
def sLot (lt : Nat → Int32) (l : Int32) (c : Nat) : Bool := decide (lt c = l)
def sOn (lt : Nat → Int32) (wc : Nat → Nat) (l : Int32) (k : Nat) : Bool := decide (lt (wc k) = l)
theorem cl_cellsOf {a n : Nat} {l : Int32} {m : gM} (hn : n ≤ 36) (h0 : m.1 (a + 1) 2 = nI n) : f_Ground_cellsOf a l m = some (nI (gcnt (sLot (m.1 (a + 8)) l) n), m) := by
  unfold f_Ground_cellsOf L_Ground_cellsOf_4
  refine gloopS (fun (f : Int32 → Int32 → Option (Int32 × gM)) j (s : Nat) => f (nI s) (nI j)) n (fun j => gcnt (sLot (m.1 (a + 8)) l) j) _ ?_ ?_ 1000 (by omega)
  · intro g j hj
    simp (disch := omega) only [gfd_eq, glet_eq, gbind_eq, nI_ltI, nI_1, gok_nI, grd_nI, nI_clamp, if_true, if_false, Nat.lt_irrefl, h0, hj, J_Ground_cellsOf_28]
    show _ = g (nI (gcnt (sLot (m.1 (a + 8)) l) j + (if decide (m.1 (a + 8) j = l) = true then 1 else 0))) _
    by_cases h1 : m.1 (a + 8) j = l <;> simp [h1]
  · intro g
    simp (disch := omega) only [gfd_eq, glet_eq, gbind_eq, nI_ltI, nI_1, gok_nI, grd_nI, nI_clamp, if_true, if_false, Nat.lt_irrefl, h0]
theorem cl_wellsOn {a we : Nat} {wc : Nat → Nat} {l : Int32} {m : gM} (hw0 : m.1 (a + 17) 0 = nI we) (hwe : we ≤ 10) (hwc : ∀ k, k < we → m.1 (a + 19) k = nI (wc k) ∧ wc k < 36) : f_Town_wellsOn a l m = some (nI (gcnt (sOn (m.1 (a + 9)) wc l) we), m) := by
  unfold f_Town_wellsOn L_Town_wellsOn_4
  refine gloopS (fun (f : Int32 → Int32 → Option (Int32 × gM)) j (s : Nat) => f (nI s) (nI j)) we (fun j => gcnt (sOn (m.1 (a + 9)) wc l) j) _ ?_ ?_ 1000 (by omega)
  · intro g j hj
    obtain ⟨e1, e2⟩ := hwc j hj
    simp (disch := omega) only [gfd_eq, glet_eq, gbind_eq, nI_ltI, nI_1, gok_nI, grd_nI, nI_clamp, if_true, if_false, Nat.lt_irrefl, hw0, hj, e1, J_Town_wellsOn_39]
    show _ = g (nI (gcnt (sOn (m.1 (a + 9)) wc l) j + (if decide (m.1 (a + 9) (wc j) = l) = true then 1 else 0))) _
    by_cases h1 : m.1 (a + 9) (wc j) = l <;> simp [h1]
  · intro g
    simp (disch := omega) only [gfd_eq, glet_eq, gbind_eq, nI_ltI, nI_1, gok_nI, grd_nI, nI_clamp, if_true, if_false, Nat.lt_irrefl, hw0]
def sShare (lt : Nat → Int32) (wc : Nat → Nat) (n we k ac : Nat) : Nat := if lt (wc k) = -4 then 0 else ac * gcnt (sLot lt (lt (wc k))) n / gcnt (sOn lt wc (lt (wc k))) we
theorem sShare_le (lt : Nat → Int32) (wc : Nat → Nat) {n we k ac : Nat} (hn : n ≤ 36) (ha : ac ≤ 999) : sShare lt wc n we k ac ≤ 36000 := by
  unfold sShare
  split
  · omega
  · have h1 := gcnt_le (sLot lt (lt (wc k))) n
    have h2 : ac * gcnt (sLot lt (lt (wc k))) n ≤ 999 * 36 := Nat.mul_le_mul ha (by omega)
    have h3 := Nat.div_le_self (ac * gcnt (sLot lt (lt (wc k))) n) (gcnt (sOn lt wc (lt (wc k))) we)
    omega
theorem cl_share {a n we k ac : Nat} {wc : Nat → Nat} {m : gM} (hn : n ≤ 36) (h0 : m.1 (a + 2) 2 = nI n) (hw0 : m.1 (a + 17) 0 = nI we) (hwe : we ≤ 10) (hwc : ∀ k, k < we → m.1 (a + 19) k = nI (wc k) ∧ wc k < 36) (hk : k < we) (ha : ac ≤ 999) : f_Town_shareByAcres a (nI k) (nI ac) m = some (nI (sShare (m.1 (a + 9)) wc n we k ac), m) := by
  obtain ⟨e1, e2⟩ := hwc k hk
  unfold f_Town_shareByAcres sShare
  have c1 := cl_cellsOf (a := a + 1) (l := m.1 (a + 9) (wc k)) hn h0
  have c2 := cl_wellsOn (a := a) (l := m.1 (a + 9) (wc k)) hw0 hwe hwc
  have p1 : 0 < gcnt (sOn (m.1 (a + 9)) wc (m.1 (a + 9) (wc k))) we := gcnt_pos (k := k) (decide_eq_true rfl) hk
  have p2 := gcnt_le (sOn (m.1 (a + 9)) wc (m.1 (a + 9) (wc k))) we
  have p3 := gcnt_le (sLot (m.1 (a + 1 + 8)) (m.1 (a + 9) (wc k))) n
  have p3 : gcnt (sLot (m.1 (a + 9)) (m.1 (a + 9) (wc k))) n ≤ n := p3
  have c1 : f_Ground_cellsOf (a + 1) (m.1 (a + 9) (wc k)) m = some (nI (gcnt (sLot (m.1 (a + 9)) (m.1 (a + 9) (wc k))) n), m) := c1
  have p4 : ac * gcnt (sLot (m.1 (a + 9)) (m.1 (a + 9) (wc k))) n ≤ 999 * 36 := Nat.mul_le_mul ha (by omega)
  by_cases h4 : m.1 (a + 9) (wc k) = -4
  · simp (disch := omega) only [gfd_eq, glet_eq, gbind_eq, nI_ltI, nI_1, gok_nI, grd_nI, nI_clamp, if_true, if_false, Nat.lt_irrefl, e1, h4, J_Town_shareByAcres_33, Int32.lt_irrefl]
    rfl
  · have g1 : (0 : Int32) < nI (gcnt (sOn (m.1 (a + 9)) wc (m.1 (a + 9) (wc k))) we) := nI_lt (a := 0) p1 (by omega)
    have g2 := nI_ne0 p1 (by omega)
    simp (disch := omega) only [gfd_eq, glet_eq, gbind_eq, nI_ltI, nI_1, gok_nI, grd_nI, nI_clamp, if_true, if_false, Nat.lt_irrefl, e1, h4, J_Town_shareByAcres_33, c2, g1, c1, gnz, g2, pk_mul, pk_div]
def sLet (lt : Nat → Int32) (ru fr nu vo wc : Nat → Nat) (n we nl k s : Nat) : Int32 :=
  if ¬ sLine ru fr vo 4 s nl = -4 then 0 else
  if sLine ru fr vo 3 s nl = -4 then (if sLine ru fr vo 2 s nl = -4 then -4 else nI (nu (sLine ru fr vo 2 s nl).toNatClampNeg)) else
  if sLine ru fr vo 2 s nl = -4 then nI (sShare lt wc n we k (nu (sLine ru fr vo 3 s nl).toNatClampNeg)) else nI (min (nu (sLine ru fr vo 2 s nl).toNatClampNeg) (sShare lt wc n we k (nu (sLine ru fr vo 3 s nl).toNatClampNeg)))
theorem sLet_cases {lt : Nat → Int32} {ru fr nu vo wc : Nat → Nat} {n we nl k s : Nat} (hn : n ≤ 36) (hnl : nl ≤ 12) (hnu : ∀ k, k < nl → nu k ≤ 999) : sLet lt ru fr nu vo wc n we nl k s = -4 ∨ ∃ v, v ≤ 36000 ∧ sLet lt ru fr nu vo wc n we nl k s = nI v := by
  unfold sLet
  by_cases h4 : sLine ru fr vo 4 s nl = -4
  · rw [if_neg (fun z => z h4)]
    rcases sLine_cases ru fr vo 3 s hnl with e3 | ⟨k3, h3, e3⟩ <;> rcases sLine_cases ru fr vo 2 s hnl with e2 | ⟨k2, h2, e2⟩
    · exact Or.inl (by rw [e3, e2]; rfl)
    · have := hnu k2 h2
      refine Or.inr ⟨nu k2, by omega, ?_⟩
      rw [e3, e2, if_pos rfl, if_neg (nI_ne4 (by omega)), nI_clamp (by omega)]
    · have := hnu k3 h3
      refine Or.inr ⟨_, sShare_le lt wc (we := we) (k := k) hn this, ?_⟩
      rw [e3, e2, if_neg (nI_ne4 (by omega)), if_pos rfl, nI_clamp (by omega)]
    · have a3 := hnu k3 h3
      have a2 := hnu k2 h2
      have := sShare_le lt wc (we := we) (k := k) hn a3
      refine Or.inr ⟨min (nu k2) (sShare lt wc n we k (nu k3)), by omega, ?_⟩
      rw [e3, e2, if_neg (nI_ne4 (by omega)), if_neg (nI_ne4 (by omega)), nI_clamp (by omega), nI_clamp (by omega)]
  · exact Or.inr ⟨0, by omega, by rw [if_pos h4]; rfl⟩
theorem cl_letOf {b a n we nl k s : Nat} {wc ru fr nu vo : Nat → Nat} {m : gM} (hn : n ≤ 36) (h0 : m.1 (a + 2) 2 = nI n) (hw0 : m.1 (a + 17) 0 = nI we) (hwe : we ≤ 10) (hwc : ∀ k, k < we → m.1 (a + 19) k = nI (wc k) ∧ wc k < 36) (hk : k < we) (g0 : m.1 b 0 = nI nl) (hnl : nl ≤ 12) (H : LawAt m.1 (b + 1, b + 2, b + 3, b + 4) nl ru fr nu vo) (hs : s ≤ 100) : f_Orders_letOf b a (nI k) (nI s) m = some (sLet (m.1 (a + 9)) ru fr nu vo wc n we nl k s, m) := by
  have l4 := cl_lineIn g0 hnl H (q := 4) (s := s) (by omega) hs
  have l3 := cl_lineIn g0 hnl H (q := 3) (s := s) (by omega) hs
  have l2 := cl_lineIn g0 hnl H (q := 2) (s := s) (by omega) hs
  have l4 : f_Orders_lineIn b 4 (nI s) m = _ := l4
  have l3 : f_Orders_lineIn b 3 (nI s) m = _ := l3
  have l2 : f_Orders_lineIn b 2 (nI s) m = _ := l2
  unfold f_Orders_letOf sLet
  rcases sLine_cases ru fr vo 4 s hnl with e4 | ⟨k4, h4, e4⟩
  · rcases sLine_cases ru fr vo 3 s hnl with e3 | ⟨k3, h3, e3⟩ <;> rcases sLine_cases ru fr vo 2 s hnl with e2 | ⟨k2, h2, e2⟩
    · rw [e4] at l4; rw [e3] at l3; rw [e2] at l2
      simp (disch := omega) only [gfd_eq, glet_eq, gbind_eq, nI_ltI, nI_1, gok_nI, grd_nI, nI_clamp, if_true, if_false, Nat.lt_irrefl, l4, l3, l2, e4, e3, e2, not_true]
    · obtain ⟨f1, f2, f3, f4, f5, f6, f7, f8⟩ := H k2 h2
      dsimp only at f3
      rw [e4] at l4; rw [e3] at l3; rw [e2] at l2
      simp (disch := omega) only [gfd_eq, glet_eq, gbind_eq, nI_ltI, nI_1, gok_nI, grd_nI, nI_clamp, if_true, if_false, Nat.lt_irrefl, l4, l3, l2, e4, e3, e2, not_true, nI_ne4, f3]
    · obtain ⟨f1, f2, f3, f4, f5, f6, f7, f8⟩ := H k3 h3
      dsimp only at f3
      rw [e4] at l4; rw [e3] at l3; rw [e2] at l2
      simp (disch := omega) only [gfd_eq, glet_eq, gbind_eq, nI_ltI, nI_1, gok_nI, grd_nI, nI_clamp, if_true, if_false, Nat.lt_irrefl, l4, l3, l2, e4, e3, e2, not_true, nI_ne4, f3, cl_share (a := a) hn h0 hw0 hwe hwc hk f7]
    · obtain ⟨f1, f2, f3, f4, f5, f6, f7, f8⟩ := H k3 h3
      obtain ⟨d1, d2, d3, d4, d5, d6, d7, d8⟩ := H k2 h2
      dsimp only at f3 d3
      have := sShare_le (m.1 (a + 9)) wc (we := we) (k := k) hn f7
      rw [e4] at l4; rw [e3] at l3; rw [e2] at l2
      simp (disch := omega) only [gfd_eq, glet_eq, gbind_eq, nI_ltI, nI_1, gok_nI, grd_nI, nI_clamp, if_true, if_false, Nat.lt_irrefl, l4, l3, l2, e4, e3, e2, not_true, nI_ne4, f3, d3, cl_share (a := a) hn h0 hw0 hwe hwc hk f7, gmin_nI]
  · rw [e4] at l4
    simp (disch := omega) only [gfd_eq, glet_eq, gbind_eq, nI_ltI, nI_1, gok_nI, grd_nI, nI_clamp, if_true, if_false, Nat.lt_irrefl, l4, e4, nI_ne4, not_false_eq_true]
theorem mo_letOf {w h9 n we nl k s : Nat} {wc ru fr nu vo : Nat → Nat} {m : gM} (hn : n ≤ 36) (h0 : m.1 81 0 = nI w) (h1 : m.1 81 1 = nI h9) (hwh : w * h9 = n) (hw0 : m.1 81 15 = nI we) (hwe : we ≤ 14) (hwc : ∀ k, k < we → m.1 93 k = nI (wc k) ∧ wc k < 36) (hk : k < we) (g0 : m.1 81 48 = nI nl) (hnl : nl ≤ 12) (H : LawAt m.1 (116, 117, 118, 119) nl ru fr nu vo) (hs : s ≤ 100) : f_MO_letOf (nI k) (nI s) m = some (sLet (m.1 85) ru fr nu vo wc n we nl k s, m) := by
  have hcells : f_MO_cells m = some (nI n, m) := by
    unfold f_MO_cells
    rw [gfd_eq, gfd_eq, h0, h1, pk_mul, hwh]
  obtain ⟨w1, w2⟩ := hwc k hk
  have lp2 : ∀ (l : Int32) (z : Int32 → Int32 → Option (Int32 × gM)), L_MO_letOf_116 l m z 1000 0 0 = z (nI (gcnt (sOn (m.1 85) wc l) we)) (nI we) := by
    intro l z
    unfold L_MO_letOf_116
    refine gloopS (fun (f : Int32 → Int32 → Option (Int32 × gM)) j (s : Nat) => f (nI s) (nI j)) we (fun j => gcnt (sOn (m.1 85) wc l) j) _ ?_ ?_ 1000 (by omega)
    · intro g j hj
      obtain ⟨e1, e2⟩ := hwc j hj
      simp (disch := omega) only [gfd_eq, glet_eq, gbind_eq, nI_ltI, nI_1, gok_nI, grd_nI, nI_clamp, if_true, if_false, Nat.lt_irrefl, hw0, hj, e1, J_MO_letOf_149]
      show _ = g (nI (gcnt (sOn (m.1 85) wc l) j + (if decide (m.1 85 (wc j) = l) = true then 1 else 0))) _
      by_cases h1 : m.1 85 (wc j) = l <;> simp [h1]
    · intro g
      simp (disch := omega) only [gfd_eq, glet_eq, gbind_eq, nI_ltI, nI_1, gok_nI, grd_nI, nI_clamp, if_true, if_false, Nat.lt_irrefl, hw0]
  have lp1 : ∀ (l : Int32) (z : Int32 → Int32 → gM → Option (Int32 × gM)), L_MO_letOf_76 l z 1000 0 0 m = z (nI (gcnt (sLot (m.1 85) l) n)) (nI n) m := by
    intro l z
    unfold L_MO_letOf_76
    refine gloopS (fun (f : Int32 → Int32 → gM → Option (Int32 × gM)) j (s : Nat) => f (nI s) (nI j) m) n (fun j => gcnt (sLot (m.1 85) l) j) _ ?_ ?_ 1000 (by omega)
    · intro g j hj
      simp (disch := omega) only [gfd_eq, glet_eq, gbind_eq, nI_ltI, nI_1, gok_nI, grd_nI, nI_clamp, if_true, if_false, Nat.lt_irrefl, hcells, hj, J_MO_letOf_104]
      show _ = g (nI (gcnt (sLot (m.1 85) l) j + (if decide (m.1 85 j = l) = true then 1 else 0))) _ _
      by_cases h1 : m.1 85 j = l <;> simp [h1]
    · intro g
      simp (disch := omega) only [gfd_eq, glet_eq, gbind_eq, nI_ltI, nI_1, gok_nI, grd_nI, nI_clamp, if_true, if_false, Nat.lt_irrefl, hcells]
  have p1 : 0 < gcnt (sOn (m.1 85) wc (m.1 85 (wc k))) we := gcnt_pos (k := k) (decide_eq_true rfl) hk
  have p2 := gcnt_le (sOn (m.1 85) wc (m.1 85 (wc k))) we
  have p3 := gcnt_le (sLot (m.1 85) (m.1 85 (wc k))) n
  have share : ∀ k3 v : Nat, k3 < nl → ∀ (x y : Int32), J_MO_letOf_45 (nI k) x (nI k3) y m = J_MO_letOf_182 x (nI k3) y (nI (sShare (m.1 85) wc n we k (nu k3))) m := by
    intro k3 v h3 x y
    obtain ⟨f1, f2, f3, f4, f5, f6, f7, f8⟩ := H k3 h3
    dsimp only at f3
    have p4 : nu k3 * gcnt (sLot (m.1 85) (m.1 85 (wc k))) n ≤ 999 * 36 := Nat.mul_le_mul f7 (by omega)
    have g2 := nI_ne0 p1 (by omega)
    unfold J_MO_letOf_45 sShare
    simp (disch := omega) only [gfd_eq, glet_eq, gbind_eq, nI_ltI, nI_1, gok_nI, grd_nI, nI_clamp, if_true, if_false, Nat.lt_irrefl, nI_ne4, w1, lp1, J_MO_letOf_113, lp2, J_MO_letOf_158]
    by_cases h4 : m.1 85 (wc k) = -4
    · simp (disch := omega) only [gfd_eq, glet_eq, gbind_eq, nI_ltI, nI_1, gok_nI, grd_nI, nI_clamp, if_true, if_false, Nat.lt_irrefl, h4]
      rfl
    · simp (disch := omega) only [gfd_eq, glet_eq, gbind_eq, nI_ltI, nI_1, gok_nI, grd_nI, nI_clamp, if_true, if_false, Nat.lt_irrefl, h4, f3, gnz, g2, pk_mul, pk_div]
  have l4 := mo_lineAt g0 hnl H (q := 4) (s := s) (by omega) hs
  have l3 := mo_lineAt g0 hnl H (q := 3) (s := s) (by omega) hs
  have l2 := mo_lineAt g0 hnl H (q := 2) (s := s) (by omega) hs
  have l4 : f_MO_lineAt 4 (nI s) m = _ := l4
  have l3 : f_MO_lineAt 3 (nI s) m = _ := l3
  have l2 : f_MO_lineAt 2 (nI s) m = _ := l2
  unfold f_MO_letOf sLet
  rcases sLine_cases ru fr vo 4 s hnl with e4 | ⟨k4, h4, e4⟩
  · rcases sLine_cases ru fr vo 3 s hnl with e3 | ⟨k3, h3, e3⟩ <;> rcases sLine_cases ru fr vo 2 s hnl with e2 | ⟨k2, h2, e2⟩
    · rw [e4] at l4; rw [e3] at l3; rw [e2] at l2
      simp (disch := omega) only [gfd_eq, glet_eq, gbind_eq, nI_ltI, nI_1, gok_nI, grd_nI, nI_clamp, if_true, if_false, Nat.lt_irrefl, l4, l3, l2, e4, e3, e2, not_true, J_MO_letOf_45]
    · obtain ⟨f1, f2, f3, f4, f5, f6, f7, f8⟩ := H k2 h2
      dsimp only at f3
      rw [e4] at l4; rw [e3] at l3; rw [e2] at l2
      simp (disch := omega) only [gfd_eq, glet_eq, gbind_eq, nI_ltI, nI_1, gok_nI, grd_nI, nI_clamp, if_true, if_false, Nat.lt_irrefl, l4, l3, l2, e4, e3, e2, not_true, nI_ne4, f3, J_MO_letOf_45]
    · rw [e4] at l4; rw [e3] at l3; rw [e2] at l2
      simp (disch := omega) only [gfd_eq, glet_eq, gbind_eq, nI_ltI, nI_1, gok_nI, grd_nI, nI_clamp, if_true, if_false, Nat.lt_irrefl, l4, l3, l2, e4, e3, e2, not_true, nI_ne4, share k3 0 h3, J_MO_letOf_182, J_MO_letOf_198, J_MO_letOf_205]
    · obtain ⟨f1, f2, f3, f4, f5, f6, f7, f8⟩ := H k3 h3
      obtain ⟨d1, d2, d3, d4, d5, d6, d7, d8⟩ := H k2 h2
      dsimp only at f3 d3
      have := sShare_le (m.1 85) wc (we := we) (k := k) hn f7
      rw [e4] at l4; rw [e3] at l3; rw [e2] at l2
      simp (disch := omega) only [gfd_eq, glet_eq, gbind_eq, nI_ltI, nI_1, gok_nI, grd_nI, nI_clamp, if_true, if_false, Nat.lt_irrefl, l4, l3, l2, e4, e3, e2, not_true, nI_ne4, d3, share k3 0 h3, J_MO_letOf_182, J_MO_letOf_198, J_MO_letOf_205]
      by_cases z : sShare (m.1 85) wc n we k (nu k3) < nu k2
      · rw [if_pos z, show min (nu k2) (sShare (m.1 85) wc n we k (nu k3)) = sShare (m.1 85) wc n we k (nu k3) by omega]
      · rw [if_neg z, show min (nu k2) (sShare (m.1 85) wc n we k (nu k3)) = nu k2 by omega]
  · rw [e4] at l4
    simp (disch := omega) only [gfd_eq, glet_eq, gbind_eq, nI_ltI, nI_1, gok_nI, grd_nI, nI_clamp, if_true, if_false, Nat.lt_irrefl, l4, e4, nI_ne4, not_false_eq_true]
