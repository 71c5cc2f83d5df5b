/-! ===== scan ===== -/
def scC (C : gN) (v : Nat → Nat) : Nat → gN
  | 0 => C
  | j + 1 => gup (grw (scC C v j) 10 (putO (scC C v j 10) j (plOf (scC C v j 9 j)) (nI (v j)))) 8 j (nI (v j))
def scV (V : gN) (v : Nat → Nat) : Nat → gN
  | 0 => V
  | j + 1 => grw (scV V v j) 4 (putO (scV V v j 4) j (plOf (scV V v j 3 j)) (nI (v j)))
def scN (N : gN) (v : Nat → Nat) : Nat → gN
  | 0 => N
  | j + 1 => gup (grw (scN N v j) 11 (putO (scN N v j 11) j (plOf (scN N v j 10 j)) (nI (v j)))) 9 j (nI (v j))
def scM (N : gN) (v : Nat → Nat) : Nat → gN
  | 0 => N
  | j + 1 => grw (scM N v j) 86 (putO (scM N v j 86) j (plOf (scM N v j 85 j)) (nI (v j)))
theorem FRel.scan {n : Nat} {C V : gN} (H : FRel n C V) {v : Nat → Nat} : ∀ j, j ≤ 36 → (∀ i, i < j → v i ≤ 999) → FRel n (scC C v j) (scV V v j)
  | 0, _, _ => H
  | j + 1, hj, hv => (FRel.scan H j (by omega) (fun i hi => hv i (by omega))).oil (by omega) (hv j (by omega))
theorem scN_ne (N : gN) (v : Nat → Nat) {q : Nat} (h : q ≠ 9 ∧ q ≠ 11) : ∀ j, scN N v j q = N q
  | 0 => rfl
  | j + 1 => by
    show gup (grw (scN N v j) 11 _) 9 j _ q = N q
    rw [gup_ne h.1, grw_ne h.2]
    exact scN_ne N v h j
theorem scM_ne (N : gN) (v : Nat → Nat) {q : Nat} (h : q ≠ 86) : ∀ j, scM N v j q = N q
  | 0 => rfl
  | j + 1 => by
    show grw (scM N v j) 86 _ q = N q
    rw [grw_ne h]
    exact scM_ne N v h j
theorem scN_blk (N : gN) (v : Nat → Nat) : ∀ j, (fun k => scN N v j (1 + k)) = scC (fun k => N (1 + k)) v j
  | 0 => rfl
  | j + 1 => by
    have ih := scN_blk N v j
    show (fun k => gup (grw (scN N v j) (1 + 10) _) (1 + 8) j _ (1 + k)) = _
    rw [gblk, gblk_g, ih]
    have h11 : scN N v j 11 = scC (fun k => N (1 + k)) v j 10 := congrFun ih 10
    have h10 : scN N v j 10 = scC (fun k => N (1 + k)) v j 9 := congrFun ih 9
    rw [h11, h10]
    rfl
theorem scM_fvL (N : gN) (v : Nat → Nat) : ∀ j, fvL (scM N v j) = scV (fvL N) v j
  | 0 => rfl
  | j + 1 => by
    have ih := scM_fvL N v j
    show fvL (grw (scM N v j) 86 _) = _
    rw [fvL_g86, ih]
    have h4 : scM N v j 86 = scV (fvL N) v j 4 := congrFun ih 4
    have h3 : scM N v j 85 = scV (fvL N) v j 3 := congrFun ih 3
    rw [h4, h3]
    rfl
theorem fvL_scN (N : gN) (v : Nat → Nat) (j : Nat) : fvL (scN N v j) = fvL N := fvL_cong (fun q h1 h2 => scN_ne N v (by omega) j)
theorem cl_tellFrom {a t n : Nat} {v : Nat → Nat} {m : gM} (hn : m.1 3 2 = nI n) (hn36 : n ≤ 36) (ha : a + 1 ≠ 9 ∧ a + 1 ≠ 11) (ht : t + n ≤ 72) (hv : ∀ i, i < n → m.1 (a + 1) (t + i) = nI (v i)) (hl : ∀ c, c < 36 → m.1 10 c = -4 ∨ ∃ l, l < 8 ∧ m.1 10 c = nI l) : f_OT_tellOilFrom a (nI t) m = some (scN m.1 v n, m.2) := by
  unfold f_OT_tellOilFrom
  rw [gfd_eq, hn, glet_eq]
  unfold L_OT_tellOilFrom_17
  refine gloopS0 (fun (f : Int32 → gM → Option gM) j (s : gM) => f (nI j) s) n (fun j => (scN m.1 v j, m.2)) _ rfl ?_ ?_ 1000 (by omega)
  · intro g j hj
    have e1 : scN m.1 v j (a + 1) = m.1 (a + 1) := scN_ne _ _ ha j
    have e2 : scN m.1 v j 10 = m.1 10 := scN_ne _ _ (by omega) j
    have c := cl_tellOil (c := j) (x := nI (v j)) (m := (scN m.1 v j, m.2)) (by omega) (by (try dsimp only); rw [e2]; exact hl j (by omega))
    have r := hv j hj
    simp (disch := omega) only [gfd_eq, glet_eq, gbind_eq, nI_ltI, nI_1, gok_nI, grd_nI, nI_clamp, if_true, if_false, Nat.lt_irrefl, hj, nI_add, e1, r, c, i10, gokT]
    rfl
  · intro g
    simp (disch := omega) only [gfd_eq, glet_eq, gbind_eq, nI_ltI, nI_1, gok_nI, grd_nI, nI_clamp, if_true, if_false, Nat.lt_irrefl, i10, gokT]
theorem mo_scanL {i t w h9 n : Nat} {v : Nat → Nat} {m : gM} (x0 : m.1 81 0 = nI w) (x1 : m.1 81 1 = nI h9) (zn : w * h9 = n) (hn36 : n ≤ 36) (hi : i < 4) (ht : t + n ≤ 72) (hv : ∀ j, j < n → m.1 127 (72 * i + t + j) = nI (v j)) (hl : ∀ c, c < 36 → m.1 85 c = -4 ∨ ∃ l, l < 8 ∧ m.1 85 c = nI l) : L_MO_scan_135 (nI i) (nI t) 1000 0 0 m = some (nI (gsum v n), (scM m.1 v n, m.2)) := by
  unfold L_MO_scan_135
  refine gloopS0 (fun (f : Int32 → Int32 → gM → Option (Int32 × gM)) j (s : Int32 × gM) => f s.1 (nI j) s.2) n (fun j => (nI (gsum v j), (scM m.1 v j, m.2))) _ (s0 := (0, m)) rfl ?_ ?_ 1000 (by omega)
  · intro g j hj
    have e1 : scM m.1 v j 127 = m.1 127 := scM_ne _ _ (by omega) j
    have e2 : scM m.1 v j 85 = m.1 85 := scM_ne _ _ (by omega) j
    have e3 : scM m.1 v j 81 = m.1 81 := scM_ne _ _ (by omega) j
    have k := mo_cells (m := (scM m.1 v j, m.2)) (by (try dsimp only); rw [e3]; exact x0) (by (try dsimp only); rw [e3]; exact x1) zn
    have c := mo_putOil (c := j) (x := nI (v j)) (m := (scM m.1 v j, m.2)) (by omega) (by (try dsimp only); rw [e2]; exact hl j (by omega))
    have e4 : grw (scM m.1 v j) 86 (putO (scM m.1 v j 86) j (plOf (scM m.1 v j 85 j)) (nI (v j))) 127 = m.1 127 := by rw [grw_ne (by decide), e1]
    have r := hv j hj
    simp (disch := omega) only [gfd_eq, glet_eq, gbind_eq, nI_ltI, nI_1, gok_nI, grd_nI, nI_clamp, if_true, if_false, Nat.lt_irrefl, k, hj, q72, pk_mul, nI_add, e1, r, c, e4, i10, gokT]
    rfl
  · intro g
    have e3 : scM m.1 v n 81 = m.1 81 := scM_ne _ _ (by omega) n
    have k := mo_cells (m := (scM m.1 v n, m.2)) (by (try dsimp only); rw [e3]; exact x0) (by (try dsimp only); rw [e3]; exact x1) zn
    simp (disch := omega) only [gfd_eq, glet_eq, gbind_eq, nI_ltI, nI_1, gok_nI, grd_nI, nI_clamp, if_true, if_false, Nat.lt_irrefl, k, i10, gokT]
theorem toI64_add {a b : Nat} (h : a + b < 2 ^ 31) : (nI a).toInt64 + (nI b).toInt64 = (nI (a + b)).toInt64 := by
  apply Int64.toInt_inj.mp
  rw [Int64.toInt_add, Int32.toInt_toInt64, Int32.toInt_toInt64, Int32.toInt_toInt64, nI_toInt (by omega), nI_toInt (by omega), nI_toInt h]
  rw [Int.bmod_eq_of_le (by omega) (by omega)]
  omega
theorem L58_s (x1 x3 : Int32) (k : Int32 → gM → Option (Int32 × gM)) (f : Nat) (v6 : Int32) (m4 : gM) : L_MO_scan_58 x1 x3 k (f + 1) v6 m4 = ((f_MO_cells m4).bind fun (r5 : Int32 × gM) => if v6 < r5.1 then (gok (gib x1 4) ((f_MO_in ((Int32.toInt64 x3) + (Int32.toInt64 v6)) (Int32.toInt64 0) (Int32.toInt64 ((grd r5.2 126 x1) - 1)) r5.2).bind fun (r6 : Int32 × gM) => if r6.1 = 0 then (some ((-12), r6.2)) else (gok (gib (((72 * x1) + x3) + v6) 288) ((f_MO_in (Int32.toInt64 (grd r6.2 127 (((72 * x1) + x3) + v6))) (Int32.toInt64 0) (Int32.toInt64 999) r6.2).bind fun (r7 : Int32 × gM) => if r7.1 = 0 then (J_MO_scan_117 v6 r7.2) else (L_MO_scan_58 x1 x3 k f (v6 + 1) r7.2))))) else (k v6 r5.2)) := rfl
theorem L5_s (a : Nat) (x1 x2 : Int32) (m : gM) (k : Int32 → Int32 → Option (Int32 × gM)) (f : Nat) (v3 v4 : Int32) : L_Sheet_sumOf_5 a x1 x2 m k (f + 1) v3 v4 = (if v4 < x2 then (if x1 < 0 then (some ((-12), m)) else (if x1 < ((gfd m a 1) - v4) then (gok (gib (x1 + v4) 72) (glet (grd m (a + 1) (x1 + v4)) fun (v5 : Int32) => if v5 < 0 then (k v3 v4) else (if 999 < v5 then (k v3 v4) else (L_Sheet_sumOf_5 a x1 x2 m k f (v3 + v5) (v4 + 1))))) else (some ((-12), m)))) else (some (v3, m))) := rfl
/-- what is read: a fault in one of the first places, or all of them good -/
theorem scan_read {a i t sz w h9 n : Nat} {m : gM} (x0 : m.1 81 0 = nI w) (x1 : m.1 81 1 = nI h9) (zn : w * h9 = n) (hn36 : n ≤ 36) (hi : i < 4) (hsz : sz ≤ 72) (s3 : m.1 a 1 = nI sz) (s4 : m.1 126 i = nI sz) (s5 : ∀ q, q < 72 → m.1 (a + 1) q = m.1 127 (72 * i + q)) : ∀ (r c : Nat), c + r = n → t + c ≤ sz + 1 → (c = 0 ∨ t + c ≤ sz) → t < 2 ^ 31 - 100 → (∃ e : Int32, e < 0 ∧ (∀ (s : Nat) (k) (fuel : Nat), r < fuel → L_Sheet_sumOf_5 a (nI t) (nI n) m (fun v3 v4 => J_Sheet_sumOf_53 m v3 v4) fuel (nI s) (nI c) = some (e, m) ∧ L_MO_scan_58 (nI i) (nI t) k fuel (nI c) m = some (e, m))) ∨ ((∀ j, c ≤ j → j < n → t + j < sz ∧ ∃ u, u ≤ 999 ∧ m.1 127 (72 * i + (t + j)) = nI u) ∧ ∀ (k) (fuel : Nat), r < fuel → L_MO_scan_58 (nI i) (nI t) k fuel (nI c) m = k (nI n) m)
  | 0, c, hc, h1, h2, ht => by
    have e : c = n := by omega
    subst e
    refine Or.inr ⟨fun j h1 h2 => by omega, fun k fuel hf => ?_⟩
    obtain ⟨f, rfl⟩ : ∃ f, fuel = f + 1 := ⟨fuel - 1, by omega⟩
    rw [L58_s]
    simp (disch := omega) only [gfd_eq, glet_eq, gbind_eq, nI_ltI, nI_1, gok_nI, grd_nI, nI_clamp, if_true, if_false, Nat.lt_irrefl, mo_cells x0 x1 zn, i10, gokT]
  | r + 1, c, hc, h1, h2, ht => by
    have hcn : c < n := by omega
    have K := mo_cells x0 x1 zn
    by_cases hlt : t + c < sz
    · have hsub : nI sz - nI c = nI (sz - c) := pk_sub (by omega)
      have b := mo_in0 (x := nI (t + c)) (n := sz) (by omega) m
      rw [gib_iff.mpr ⟨t + c, hlt, rfl, by omega⟩] at b
      have b' : f_MO_in ((nI t).toInt64 + (nI c).toInt64) (Int32.toInt64 0) (nI sz - 1).toInt64 m = some (1, m) := by rw [toI64_add (by omega)]; exact b
      have row := s5 (t + c) (by omega)
      have bi : ∀ x : Int32, f_MO_in x.toInt64 (Int32.toInt64 0) (Int32.toInt64 999) m = some (if gib x 1000 = true then 1 else 0, m) := fun x => mo_in_n (x := x) (n := 999) (by omega) m
      have lt : nI t < nI (sz - c) := nI_lt (by omega) (by omega)
      have t0 : ¬ nI t < 0 := nI_pos (by omega)
      rcases gib_cases (m.1 127 (72 * i + (t + c))) 1000 with hg | ⟨u, hu, hu1, hu2⟩
      · refine Or.inl ⟨(-100) - nI c, ?_, fun s k fuel hf => ?_⟩
        · rw [Int32.lt_iff_toInt_lt, Int32.toInt_sub, nI_toInt (by omega)]
          have : (-100 : Int32).toInt = -100 := by decide
          rw [this, Int.bmod_eq_of_le (by omega) (by omega)]
          show -100 - (c : Int) < 0
          omega
        · obtain ⟨f, rfl⟩ : ∃ f, fuel = f + 1 := ⟨fuel - 1, by omega⟩
          constructor
          · rw [L5_s]
            unfold J_Sheet_sumOf_53
            simp (disch := omega) only [gfd_eq, glet_eq, gbind_eq, nI_ltI, nI_1, gok_nI, grd_nI, nI_clamp, if_true, if_false, Nat.lt_irrefl, hcn, s3, hsub, lt, t0, nI_add, row, i10, gokT]
            have : ¬ ¬ (m.1 127 (72 * i + (t + c)) < 0 ∨ (999 : Int32) < m.1 127 (72 * i + (t + c))) := fun z => by
              have z0 : ¬ m.1 127 (72 * i + (t + c)) < 0 := fun y => z (Or.inl y)
              obtain ⟨u, hu, e⟩ := nI_of z0
              have : gib (m.1 127 (72 * i + (t + c))) 1000 = true := by
                refine gib_iff.mpr ⟨u, ?_, e, hu⟩
                rcases Nat.lt_or_ge u 1000 with q | q
                · exact q
                · exact absurd (Or.inr (by (try dsimp only); rw [e]; exact nI_lt (a := 999) (by omega) hu)) z
              rw [hg] at this; cases this
            by_cases z1 : m.1 127 (72 * i + (t + c)) < 0
            · rw [if_pos z1]
            · rw [if_neg z1]
              by_cases z2 : (999 : Int32) < m.1 127 (72 * i + (t + c))
              · rw [if_pos z2]
              · exact absurd (fun z => z.elim z1 z2) this
          · rw [L58_s]
            unfold J_MO_scan_117
            simp (disch := omega) only [gfd_eq, glet_eq, gbind_eq, nI_ltI, nI_1, gok_nI, grd_nI, nI_clamp, if_true, if_false, Nat.lt_irrefl, K, hcn, s4, b', q72, pk_mul, nI_add, Nat.add_assoc, bi, hg, Bool.false_eq_true, i10, gokT]
      · have g := gib_iff.mpr ⟨u, hu, hu1, hu2⟩
        have v0 : ¬ m.1 127 (72 * i + (t + c)) < 0 := by rw [hu1]; exact nI_pos hu2
        have v1 : ¬ (999 : Int32) < m.1 127 (72 * i + (t + c)) := by rw [hu1]; exact nI_nlt (a := 999) (by omega) (by omega)
        rcases scan_read x0 x1 zn hn36 hi hsz s3 s4 s5 r (c + 1) (by omega) (by omega) (by omega) ht with ⟨e, he, ih⟩ | ⟨ih1, ih2⟩
        · refine Or.inl ⟨e, he, fun s k fuel hf => ?_⟩
          obtain ⟨f, rfl⟩ : ∃ f, fuel = f + 1 := ⟨fuel - 1, by omega⟩
          have I1 := ih (s + u) k f (by omega)
          constructor
          · have := I1.1
            rw [L5_s]
            simp (disch := omega) only [gfd_eq, glet_eq, gbind_eq, nI_ltI, nI_1, gok_nI, grd_nI, nI_clamp, if_true, if_false, Nat.lt_irrefl, hcn, s3, hsub, lt, t0, nI_add, row, v0, v1, i10, gokT]
            rw [hu1, nI_add]
            exact this
          · have := I1.2
            rw [L58_s]
            simp (disch := omega) only [gfd_eq, glet_eq, gbind_eq, nI_ltI, nI_1, gok_nI, grd_nI, nI_clamp, if_true, if_false, Nat.lt_irrefl, K, hcn, s4, b', q72, pk_mul, nI_add, Nat.add_assoc, bi, g, i10, gokT]
            exact this
        · refine Or.inr ⟨fun j h3 h4 => ?_, fun k fuel hf => ?_⟩
          · rcases Nat.lt_or_ge c j with q | q
            · exact ih1 j q h4
            · have : j = c := by omega
              subst this
              exact ⟨hlt, u, by omega, hu1⟩
          · obtain ⟨f, rfl⟩ : ∃ f, fuel = f + 1 := ⟨fuel - 1, by omega⟩
            have := ih2 k f (by omega)
            rw [L58_s]
            simp (disch := omega) only [gfd_eq, glet_eq, gbind_eq, nI_ltI, nI_1, gok_nI, grd_nI, nI_clamp, if_true, if_false, Nat.lt_irrefl, K, hcn, s4, b', q72, pk_mul, nI_add, Nat.add_assoc, bi, g, i10, gokT]
            exact this
    · refine Or.inl ⟨-12, by decide, fun s k fuel hf => ?_⟩
      obtain ⟨f, rfl⟩ : ∃ f, fuel = f + 1 := ⟨fuel - 1, by omega⟩
      have hcs : c ≤ sz := by omega
      have hsub : nI sz - nI c = nI (sz - c) := pk_sub hcs
      have b := mo_in0 (x := nI (t + c)) (n := sz) (by omega) m
      have gf : gib (nI (t + c)) sz = false := by
        cases hg : gib (nI (t + c)) sz with
        | false => rfl
        | true =>
          obtain ⟨j, h3, h4, h5⟩ := gib_iff.mp hg
          have := (nI_eq (by omega) h5).mp h4
          omega
      rw [gf] at b
      have b' : f_MO_in ((nI t).toInt64 + (nI c).toInt64) (Int32.toInt64 0) (nI sz - 1).toInt64 m = some (if false = true then 1 else 0, m) := by rw [toI64_add (by omega)]; exact b
      have lt : ¬ nI t < nI (sz - c) := nI_nlt (by omega) (by omega)
      have t0 : ¬ nI t < 0 := nI_pos (by omega)
      constructor
      · rw [L5_s]
        simp (disch := omega) only [gfd_eq, glet_eq, gbind_eq, nI_ltI, nI_1, gok_nI, grd_nI, nI_clamp, if_true, if_false, Nat.lt_irrefl, hcn, s3, hsub, lt, t0, i10, gokT]
      · rw [L58_s]
        simp (disch := omega) only [gfd_eq, glet_eq, gbind_eq, nI_ltI, nI_1, gok_nI, grd_nI, nI_clamp, if_true, if_false, Nat.lt_irrefl, K, hcn, s4, b', Bool.false_eq_true, i10, gokT]
theorem cl_sumOf {a t sz n : Nat} {v : Nat → Nat} {m : gM} (s3 : m.1 a 1 = nI sz) (hsz : sz ≤ 72) (ht : ∀ i, i < n → t + i < sz) (hn : n ≤ 36) (h1 : 1 ≤ n) (hv : ∀ i, i < n → m.1 (a + 1) (t + i) = nI (v i) ∧ v i ≤ 999) : f_Sheet_sumOf a (nI t) (nI n) m = some (nI (gsum v n), m) := by
  have h0 := ht 0 (by omega)
  unfold f_Sheet_sumOf L_Sheet_sumOf_5
  refine gloopS0 (fun (f : Int32 → Int32 → Option (Int32 × gM)) j (s : Int32) => f s (nI j)) n (fun j => nI (gsum v j)) _ (s0 := 0) rfl ?_ ?_ 1000 (by omega)
  · intro g j hj
    have q1 := ht j hj
    obtain ⟨q2, q3⟩ := hv j hj
    have hsub : nI sz - nI j = nI (sz - j) := pk_sub (by omega)
    have lt : nI t < nI (sz - j) := nI_lt (by omega) (by omega)
    have t0 : ¬ nI t < 0 := nI_pos (by omega)
    have v0 : ¬ nI (v j) < 0 := nI_pos (by omega)
    have v1 : ¬ (999 : Int32) < nI (v j) := nI_nlt (a := 999) (by omega) (by omega)
    simp (disch := omega) only [gfd_eq, glet_eq, gbind_eq, nI_ltI, nI_1, gok_nI, grd_nI, nI_clamp, if_true, if_false, Nat.lt_irrefl, hj, s3, hsub, lt, t0, nI_add, q2, v0, v1, i10, gokT]
    rfl
  · intro g
    simp (disch := omega) only [gfd_eq, glet_eq, gbind_eq, nI_ltI, nI_1, gok_nI, grd_nI, nI_clamp, if_true, if_false, Nat.lt_irrefl, i10, gokT]
theorem gsum_bd {v : Nat → Nat} {B : Nat} : ∀ {n : Nat}, (∀ i, i < n → v i ≤ B) → gsum v n ≤ B * n
  | 0, _ => Nat.zero_le _
  | n + 1, h => by
    have h1 := gsum_bd (v := v) (B := B) (n := n) (fun i hi => h i (by omega))
    have h2 := h n (by omega)
    show gsum v n + v n ≤ B * (n + 1)
    rw [Nat.mul_add]
    omega
theorem p_scan {n0 K : Nat} {m : gM} (x y z : Int32) (I : Inv n0 K m.1) : gBoth n0 K (f_OT_scan x y z) (f_MO_scan x y z) m := by
  obtain ⟨w, h9, n, hr, le, we, nl, np, ol, wp, wc, ww, wo, ws, ru, fr, nu, vo, F⟩ := I.fx
  have lots := F.lots_c
  obtain ⟨⟨zn, z1, z36, zw, zh, zhr, zle, zwe, znl, znp⟩, ⟨y0, y1, y2, yhr, yle, ywe, ynl, ynp⟩, ⟨x0, x1, xhr, xle, xwe, xnl, xnp⟩, ⟨r6, r7, r8, r10, r11, r13, r14, r15, r16, r17, r19, r20, r21, r22, r28, r29, r30, r31⟩, ⟨ecol, eoil, e9, elot⟩, ⟨fp, fc, fw, fo, fb, fo1, frow, fws⟩, g1, g2, gn⟩ := F
  have a1 := ot_isSheet x m
  have a2 := ot_isLane y m
  have b1 : ∀ m : gM, f_MO_in x.toInt64 (Int32.toInt64 0) (Int32.toInt64 3) m = _ := fun m => mo_in_n (x := x) (n := 3) (by omega) m
  have b2 : ∀ m : gM, f_MO_in y.toInt64 (Int32.toInt64 0) (Int32.toInt64 2) m = _ := fun m => mo_in_n (x := y) (n := 2) (by omega) m
  rcases gib_cases x 4 with hg | ⟨i, hi, rfl, hi2⟩
  · rw [hg] at a1
    refine gBoth.same (-1) I ?_ ?_
    · unfold f_OT_scan; rw [a1]; rfl
    · unfold f_MO_scan; rw [b1, hg]; rfl
  have hgi := gib_iff.mpr ⟨i, hi, rfl, hi2⟩
  rw [hgi] at a1
  rcases gib_cases y 3 with hg | ⟨la, hla, rfl, hla2⟩
  · rw [hg] at a2
    refine gBoth.same (-1) I ?_ ?_
    · unfold f_OT_scan
      simp (disch := omega) only [gfd_eq, glet_eq, gbind_eq, nI_ltI, nI_1, gok_nI, grd_nI, nI_clamp, if_true, if_false, Nat.lt_irrefl, a1, a2, Bool.false_eq_true, i10, gokT]
    · unfold f_MO_scan
      simp (disch := omega) only [gfd_eq, glet_eq, gbind_eq, nI_ltI, nI_1, gok_nI, grd_nI, nI_clamp, if_true, if_false, Nat.lt_irrefl, b1, hgi, b2, hg, Bool.false_eq_true, i10, gokT]
  have hgl := gib_iff.mpr ⟨la, hla, rfl, hla2⟩
  rw [hgl] at a2
  obtain ⟨s1, s2, ⟨sz, hsz, s3, s4⟩, s5⟩ := I.sheet_at hi
  rcases s2 with h4 | ⟨lb, hlb, hl⟩
  · have h4' := s1.trans h4
    have hne : ¬ (-4 : Int32) = nI la := fun e => nI_ne4 (by omega) e.symm
    refine gBoth.same (-11) I ?_ ?_
    · unfold f_OT_scan
      simp (disch := omega) only [gfd_eq, glet_eq, gbind_eq, nI_ltI, nI_1, gok_nI, grd_nI, nI_clamp, if_true, if_false, Nat.lt_irrefl, a1, a2, h4', i10, gokT]
    · unfold f_MO_scan
      simp (disch := omega) only [gfd_eq, glet_eq, gbind_eq, nI_ltI, nI_1, gok_nI, grd_nI, nI_clamp, if_true, if_false, Nat.lt_irrefl, b1, hgi, b2, hgl, h4, hne, i10, gokT]
  have hl' := s1.trans hl
  have hne : ¬ nI lb = -4 := nI_ne4 (by omega)
  by_cases hab : lb = la
  · subst hab
    have s5' : ∀ q, q < 72 → m.1 (73 + 2 * i + 1) q = m.1 127 (72 * i + q) := fun q hq => by rw [← s5 q hq, show 73 + 2 * i + 1 = 74 + 2 * i by omega]
    by_cases z0 : z < 0
    · refine gBoth.same (-12) I ?_ ?_
      · have : f_Sheet_sumOf (73 + 2 * i) z (nI n) m = some (-12, m) := by
          unfold f_Sheet_sumOf
          rw [show 1000 = 999 + 1 from rfl, L5_s]
          show (if (0 : Int32) < nI n then _ else _) = _
          rw [if_pos (show (0 : Int32) < nI n from nI_lt (a := 0) (by omega) (by omega)), if_pos z0]
        unfold f_OT_scan
        simp (disch := omega) only [gfd_eq, glet_eq, gbind_eq, nI_ltI, nI_1, gok_nI, grd_nI, nI_clamp, if_true, if_false, Nat.lt_irrefl, a1, a2, hl', hne, y2, this, i10, gokT]
        rfl
      · have : ∀ k, L_MO_scan_58 (nI i) z k 1000 0 m = some (-12, m) := by
          intro k
          have bz : f_MO_in (z.toInt64 + (Int32.toInt64 0)) (Int32.toInt64 0) (nI sz - 1).toInt64 m = some (0, m) := by
            rw [show Int32.toInt64 0 = 0 from rfl, Int64.add_zero, show (0 : Int64) = Int32.toInt64 0 from rfl, mo_in, if_pos z0]
          rw [show 1000 = 999 + 1 from rfl, L58_s, mo_cells x0 x1 zn, gbind_eq]
          show (if (0 : Int32) < nI n then _ else _) = _
          rw [if_pos (show (0 : Int32) < nI n from nI_lt (a := 0) (by omega) (by omega))]
          simp (disch := omega) only [gfd_eq, glet_eq, gbind_eq, nI_ltI, nI_1, gok_nI, grd_nI, nI_clamp, if_true, if_false, Nat.lt_irrefl, s4, bz, i10, gokT]
        unfold f_MO_scan
        simp (disch := omega) only [gfd_eq, glet_eq, gbind_eq, nI_ltI, nI_1, gok_nI, grd_nI, nI_clamp, if_true, if_false, Nat.lt_irrefl, b1, hgi, b2, hgl, hl, this, i10, gokT]
    obtain ⟨t, ht, rfl⟩ := nI_of z0
    by_cases htz : t < sz
    · rcases scan_read (a := 73 + 2 * i) (t := t) x0 x1 zn (by omega) hi hsz s3 s4 s5' n 0 (by omega) (by omega) (by omega) (by omega) with ⟨e, he, ih⟩ | ⟨ih1, ih2⟩
      · refine gBoth.same e I ?_ ?_
        · have := (ih 0 (fun _ _ => none) 1000 (by omega)).1
          have : f_Sheet_sumOf (73 + 2 * i) (nI t) (nI n) m = some (e, m) := this
          unfold f_OT_scan
          simp (disch := omega) only [gfd_eq, glet_eq, gbind_eq, nI_ltI, nI_1, gok_nI, grd_nI, nI_clamp, if_true, if_false, Nat.lt_irrefl, a1, a2, hl', hne, y2, this, he, i10, gokT]
        · have := (ih 0 (fun v6 m4 => J_MO_scan_129 (nI i) (nI t) v6 m4) 1000 (by omega)).2
          have : L_MO_scan_58 (nI i) (nI t) (fun v6 m4 => J_MO_scan_129 (nI i) (nI t) v6 m4) 1000 0 m = some (e, m) := this
          unfold f_MO_scan
          simp (disch := omega) only [gfd_eq, glet_eq, gbind_eq, nI_ltI, nI_1, gok_nI, grd_nI, nI_clamp, if_true, if_false, Nat.lt_irrefl, b1, hgi, b2, hgl, hl, this, i10, gokT]
      · let v : Nat → Nat := fun j => (m.1 127 (72 * i + (t + j))).toNatClampNeg
        have hv : ∀ j, j < n → m.1 127 (72 * i + (t + j)) = nI (v j) ∧ v j ≤ 999 := by
          intro j hj
          obtain ⟨-, u, hu, e⟩ := ih1 j (by omega) hj
          have : v j = u := by
            show (m.1 127 (72 * i + (t + j))).toNatClampNeg = u
            rw [e, nI_clamp (by omega)]
          rw [this]
          exact ⟨e, hu⟩
        have hlast := (ih1 (n - 1) (by omega) (by omega)).1
        have c0 := cl_sumOf (a := 73 + 2 * i) (t := t) (v := v) (m := m) s3 hsz (fun j hj => (ih1 j (by omega) hj).1) (by omega) (by omega) (fun j hj => ⟨by rw [s5' _ (by omega)]; exact (hv j hj).1, (hv j hj).2⟩)
        have c1 := cl_tellFrom (a := 73 + 2 * i) (t := t) (v := v) (m := m) y2 (by omega) (by omega) (by omega) (fun j hj => by rw [s5' _ (by omega)]; exact (hv j hj).1) lots
        have q1 : ∀ q, q ≠ 9 ∧ q ≠ 11 → scN m.1 v n q = m.1 q := fun q hq => scN_ne _ _ hq n
        have c2 := mo_scanL (i := i) (t := t) (v := v) (m := (scN m.1 v n, m.2)) (by (try dsimp only); rw [q1 81 (by decide)]; exact x0) (by (try dsimp only); rw [q1 81 (by decide)]; exact x1) zn (by omega) hi (by omega) (fun j hj => by (try dsimp only); rw [q1 127 (by decide), Nat.add_assoc]; exact (hv j hj).1) (by (try dsimp only); rw [q1 85 (by decide)]; exact elot)
        have hs := gsum_bd (v := v) (B := 999) (n := n) (fun j hj => (hv j hj).2)
        have hs0 : ¬ nI (gsum v n) < 0 := nI_pos (by omega)
        refine ⟨nI (gsum v n), (scN m.1 v n, m.2), (scM (scN m.1 v n) v n, m.2), ?_, ?_, ?_⟩
        · unfold f_OT_scan
          simp (disch := omega) only [gfd_eq, glet_eq, gbind_eq, nI_ltI, nI_1, gok_nI, grd_nI, nI_clamp, if_true, if_false, Nat.lt_irrefl, a1, a2, hl', hne, y2, c0, hs0, c1, i10, gokT]
        · rcases scan_read (a := 73 + 2 * i) (t := t) (m := (scN m.1 v n, m.2)) (by (try dsimp only); rw [q1 81 (by decide)]; exact x0) (by (try dsimp only); rw [q1 81 (by decide)]; exact x1) zn (by omega) hi hsz (by (try dsimp only); rw [q1 _ (by omega)]; exact s3) (by (try dsimp only); rw [q1 126 (by decide)]; exact s4) (fun q hq => by (try dsimp only); rw [q1 _ (by omega), q1 127 (by decide)]; exact s5' q hq) n 0 (by omega) (by omega) (by omega) (by omega) with ⟨e, he, jh⟩ | ⟨jh1, jh2⟩
          · exfalso
            have h1 := (jh 0 (fun _ _ => none) 1000 (by omega)).1
            have h2 := cl_sumOf (a := 73 + 2 * i) (t := t) (v := v) (m := (scN m.1 v n, m.2)) (by (try dsimp only); rw [q1 _ (by omega)]; exact s3) hsz (fun j hj => (ih1 j (by omega) hj).1) (by omega) (by omega) (fun j hj => ⟨by dsimp only; rw [q1 _ (by omega), s5' _ (by omega)]; exact (hv j hj).1, (hv j hj).2⟩)
            have h1 : f_Sheet_sumOf (73 + 2 * i) (nI t) (nI n) (scN m.1 v n, m.2) = some (e, (scN m.1 v n, m.2)) := h1
            rw [h2] at h1
            have h3 : nI (gsum v n) = e := (Prod.mk.inj (Option.some.inj h1)).1
            rw [← h3] at he
            exact hs0 he
          · have j2 := jh2 (fun v6 m4 => J_MO_scan_129 (nI i) (nI t) v6 m4) 1000 (by omega)
            have j2 : L_MO_scan_58 (nI i) (nI t) (fun v6 m4 => J_MO_scan_129 (nI i) (nI t) v6 m4) 1000 0 (scN m.1 v n, m.2) = L_MO_scan_135 (nI i) (nI t) 1000 0 0 (scN m.1 v n, m.2) := j2
            rw [c2] at j2
            have q125 := q1 125 (by decide)
            unfold f_MO_scan
            simp (disch := omega) only [gfd_eq, glet_eq, gbind_eq, nI_ltI, nI_1, gok_nI, grd_nI, nI_clamp, if_true, if_false, Nat.lt_irrefl, b1, hgi, b2, hgl, q125, hl, j2, i10, gokT]
        · refine (I.mono (Nat.le_succ n0)).fld (fun q hq => ?_) ?_ ?_ ?_ ?_ ?_ ?_
          · unfold gOut at hq
            show scM (scN m.1 v n) v n q = _
            rw [scM_ne _ _ (by omega), scN_ne _ _ (by omega)]
          · show scM (scN m.1 v n) v n 81 8 = _
            rw [scM_ne _ _ (by omega), scN_ne _ _ (by omega)]
          · show scM (scN m.1 v n) v n 81 37 = _
            rw [scM_ne _ _ (by omega), scN_ne _ _ (by omega)]
          · show scM (scN m.1 v n) v n 81 38 = _
            rw [scM_ne _ _ (by omega), scN_ne _ _ (by omega)]
          · show scM (scN m.1 v n) v n 81 48 = _
            rw [scM_ne _ _ (by omega), scN_ne _ _ (by omega)]
          · show scM (scN m.1 v n) v n 81 60 = _
            rw [scM_ne _ _ (by omega), scN_ne _ _ (by omega)]
          · show FRel _ (fun j => scM (scN m.1 v n) v n (1 + j)) (fvL (scM (scN m.1 v n) v n))
            rw [scM_fvL, fvL_scN]
            have L := (I.mono (Nat.le_succ n0)).1.scan (v := v) n (by omega) (fun j hj => (hv j hj).2)
            rw [← scN_blk] at L
            exact FRel.blk (fun k hk => scM_ne _ _ (by omega) n) L
    · refine gBoth.same (-12) I ?_ ?_
      · have : f_Sheet_sumOf (73 + 2 * i) (nI t) (nI n) m = some (-12, m) := by
          unfold f_Sheet_sumOf
          rw [show 1000 = 999 + 1 from rfl, L5_s]
          show (if (0 : Int32) < nI n then _ else _) = _
          rw [if_pos (show (0 : Int32) < nI n from nI_lt (a := 0) (by omega) (by omega)), if_neg z0, gfd_eq, s3]
          show (if nI t < nI sz - 0 then _ else _) = _
          rw [Int32.sub_zero, if_neg (nI_nlt (by omega) ht)]
        unfold f_OT_scan
        simp (disch := omega) only [gfd_eq, glet_eq, gbind_eq, nI_ltI, nI_1, gok_nI, grd_nI, nI_clamp, if_true, if_false, Nat.lt_irrefl, a1, a2, hl', hne, y2, this, i10, gokT]
        rfl
      · have : ∀ k, L_MO_scan_58 (nI i) (nI t) k 1000 0 m = some (-12, m) := by
          intro k
          have gf : gib (nI t) sz = false := by
            cases hg : gib (nI t) sz with
            | false => rfl
            | true =>
              obtain ⟨j, h3, h4, h5⟩ := gib_iff.mp hg
              have := (nI_eq ht h5).mp h4
              omega
          have bz : f_MO_in ((nI t).toInt64 + (Int32.toInt64 0)) (Int32.toInt64 0) (nI sz - 1).toInt64 m = some (0, m) := by
            rw [show (nI t).toInt64 + Int32.toInt64 0 = (nI t).toInt64 from Int64.add_zero _, mo_in0 (by omega), gf]
            rfl
          rw [show 1000 = 999 + 1 from rfl, L58_s, mo_cells x0 x1 zn, gbind_eq]
          show (if (0 : Int32) < nI n then _ else _) = _
          rw [if_pos (show (0 : Int32) < nI n from nI_lt (a := 0) (by omega) (by omega))]
          simp (disch := omega) only [gfd_eq, glet_eq, gbind_eq, nI_ltI, nI_1, gok_nI, grd_nI, nI_clamp, if_true, if_false, Nat.lt_irrefl, s4, bz, i10, gokT]
        unfold f_MO_scan
        simp (disch := omega) only [gfd_eq, glet_eq, gbind_eq, nI_ltI, nI_1, gok_nI, grd_nI, nI_clamp, if_true, if_false, Nat.lt_irrefl, b1, hgi, b2, hgl, hl, this, i10, gokT]
  · have hn : ¬ nI lb = nI la := fun e => hab ((nI_eq (by omega) (by omega)).mp e)
    refine gBoth.same (-13) I ?_ ?_
    · unfold f_OT_scan
      simp (disch := omega) only [gfd_eq, glet_eq, gbind_eq, nI_ltI, nI_1, gok_nI, grd_nI, nI_clamp, if_true, if_false, Nat.lt_irrefl, a1, a2, hl', hne, hn, i10, gokT]
    · unfold f_MO_scan
      simp (disch := omega) only [gfd_eq, glet_eq, gbind_eq, nI_ltI, nI_1, gok_nI, grd_nI, nI_clamp, if_true, if_false, Nat.lt_irrefl, b1, hgi, b2, hgl, hl, hn, hne, i10, gokT]
