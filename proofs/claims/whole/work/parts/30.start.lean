/-! ===== the law: its start ===== -/
def gIN : List Nat := [274, 422, 180, 106, 360, 112, 455, 492, 354, 100, 217, 92, 1188]
theorem gIN_all : (List.range 13).all (fun k => match gnth gcl k with
  | some r => gix (gIN.getD k 0) (.instantiable r.1 r.2.2)
  | none => false) = true := by decide +kernel
theorem gclasses {args : Array Value} {s : State} (hts : ∀ w ∈ gT, w.before args s = true) : ∃ D : va_G, ∀ (k : Nat) (r : vw_C), gcl[k]? = some r → u_Kn s r.1 r.2.1 r.2.2 (D.1 k) (D.2 k) := by
  have h : ∀ k : Nat, ∃ q : ClassId × (Nat → Nat), ∀ r, gcl[k]? = some r → u_Kn s r.1 r.2.1 r.2.2 q.1 q.2 := by
    intro k
    cases hr : gcl[k]? with
    | none => exact ⟨(0, fun _ => 0), fun r h => by cases h⟩
    | some r =>
      have hm := List.mem_of_getElem? hr
      have hk : k < 13 := (List.getElem?_eq_some_iff.mp hr).1
      have hw := List.all_eq_true.mp gIN_all k (List.mem_range.mpr hk)
      rw [gnth_get, hr] at hw
      obtain ⟨cC, iS, hu⟩ := u_known (C := r.1) (T := r.2.1) (N := r.2.2) (n := r.2.2) hts (gcl_ok r hm).1 (hts _ (gix_mem hw))
      exact ⟨(cC, iS), fun r' h => by cases h; exact hu⟩
  obtain ⟨f, hf⟩ := Classical.axiomOfChoice h
  exact ⟨(fun k => (f k).1, fun k => (f k).2), fun k r hr => hf k r hr⟩
theorem garrP {args : Array Value} {s : State} {ty : FieldType} (h : (Cond.arrayClass ty).before args s = true) (hty : ∀ C, ty ≠ .object C) : ∃ cA, ArrOfT s cA ty ∧ va_RA s cA ty := by
  obtain ⟨c, k, comp, h1, h2, h3⟩ := Cond.arrayClass_spec h
  refine ⟨c, fun n z => ⟨fun k q => (by cases q), k, h2, comp, h3⟩, ?_⟩
  unfold va_RA
  split
  · rename_i C
    exact absurd rfl (hty C)
  · exact h1
theorem garrO {args : Array Value} {s : State} {C : String} (h : (Cond.arrayOver (.object C)).before args s = true) : ∃ cA, ArrOfT s cA (.object C) ∧ va_RA s cA (.object C) := by
  obtain ⟨comp, c, k, h1, h2, h3, h4, h5⟩ := Cond.arrayOver_spec h
  exact ⟨c, fun n z => ⟨fun k q => (by cases q), k, h3, comp, h4⟩, k, comp, h3, h4, h1, h5⟩
theorem gnest_all : gML.all (fun e => !(Nat.beq e.2.2.2.1 3) || (match gnth gtab e.2.2.1, gnth lw_tbl e.2.2.2.2.1 with
  | some x, some w => decide (w = .methodLinkNest (gnm e.1) e.2.1 x.1.1 RX11)
  | _, _ => false)) = true := by decide +kernel
def gtm (i : Nat) : Term := .string "OilTown$Tape" (107 + 2 * i)
def gfl : List Cond := flatC (Cond.and given_1 narrow_1)
def glenS (i : Nat) : Nat := [4, 5, 4, 4, 4, 6, 4].getD i 0
theorem gS_all : (List.range 7).all (fun i => decide (Cond.exactly (gtm i) "java/lang/String" ∈ gfl) && (decide (Cond.eq (.field (gtm i) "java/lang/String" "coder" "B") (.int 0) ∈ gfl) && (decide (Cond.arrayOf (.field (gtm i) "java/lang/String" "value" "[B") .byte ∈ gfl) && decide (Cond.eq (.length (.field (gtm i) "java/lang/String" "value" "[B")) (.int (Int32.ofNat (glenS i))) ∈ gfl)))) = true := by decide +kernel
theorem gS_el : (List.range 7).all (fun i => (List.range (glenS i)).all (fun j => decide (Cond.eq (.elem (.field (gtm i) "java/lang/String" "value" "[B") (.int (Int32.ofNat j))) (.int ((gstrs.getD i []).getD j 0)) ∈ gfl))) = true := by decide +kernel
theorem gS_ne : (List.range 7).all (fun i => (List.range 7).all (fun j => Nat.beq i j || (decide (Cond.not (Cond.eq (gtm i) (gtm j)) ∈ gfl) || decide (Cond.not (Cond.eq (gtm j) (gtm i)) ∈ gfl)))) = true := by decide +kernel
theorem gS_rf : gSO.all (fun q => match gnth lw_tbl (873 + q.2.2) with
  | some w => decide (w = .stringRef (gnm q.1) q.2.1 (gstx.getD q.2.2 "")) && decide (Term.string (gnm q.1) q.2.1 = gtm q.2.2) && Nat.blt q.2.2 7
  | none => false) = true := by decide +kernel
theorem gz_1 : Cond.eq (.static "java/lang/String" "COMPACT_STRINGS" "Z") (.int 1) ∈ gfl := by decide +kernel
theorem gz_2 : Cond.isRef (.static "jdk/internal/util/Preconditions" "SIOOBE_FORMATTER" "Ljava/util/function/BiFunction;") ∈ gfl := by decide +kernel
theorem gz_3 : gnth lw_tbl 893 = some (.laysStatic "java/lang/String" "COMPACT_STRINGS" "Z") := by decide +kernel
theorem gz_4 : gnth lw_tbl 909 = some (.laysStatic "jdk/internal/util/Preconditions" "SIOOBE_FORMATTER" "Ljava/util/function/BiFunction;") := by decide +kernel
theorem gz_5 : gnth lw_tbl 352 = some (.arrayOver (.object RX9)) ∧ gnth lw_tbl 490 = some (.arrayOver (.object RX7)) := by decide +kernel
theorem gstart {args : Array Value} {s : State} (hts : ∀ w ∈ lw_tbl, w.before args s = true) (hgv : (Cond.and given_1 narrow_1).before args s = true) : ∃ (D : va_G) (ax : Nat → ClassId) (str : Nat → Nat), genv D ax str s ∧ gstr str s.heap.size s s.heap := by
  have hT : ∀ w ∈ gT, w.before args s = true := fun w hw => hts w (List.mem_filter.mp hw).1
  have hf : ∀ w ∈ gfl, w.before args s = true := flat_of_before _ hgv
  have hA : ∀ a : Nat, a < s.heap.size → ¬ s.heap.size ≤ a := fun a h => by omega
  obtain ⟨D, hD⟩ := gclasses hT
  obtain ⟨a0, i0⟩ := garrP (hT _ gW_ci) (fun C => by intro h; cases h)
  obtain ⟨a1, i1⟩ := garrP (hT _ gW_cz) (fun C => by intro h; cases h)
  obtain ⟨a2, i2⟩ := garrP (hT _ gW_cj) (fun C => by intro h; cases h)
  have o9 := hts _ (gnth_mem gz_5.1)
  have o7 := hts _ (gnth_mem gz_5.2)
  obtain ⟨a12, i12⟩ := garrO o9
  obtain ⟨a10, i10⟩ := garrO o7
  have hk : ∀ i : Nat, i < 7 → _ := fun i hi => List.all_eq_true.mp gS_all i (List.mem_range.mpr hi)
  simp only [Bool.and_eq_true, decide_eq_true_eq] at hk
  obtain ⟨str, adV, hS, hev⟩ := vk_Sof (N := 7) (tm := gtm) (len := [4, 5, 4, 4, 4, 6, 4]) (byt := gstrs) (A := fun x => s.heap.size ≤ x) (args := args) (s := s) (by decide +kernel) (fun i hi => hf _ (hk i hi).1) (fun i hi => hf _ (hk i hi).2.1) (fun i hi => hf _ (hk i hi).2.2.1) (fun i hi => hf _ (hk i hi).2.2.2)
    (fun i hi j hj => hf _ (of_decide_eq_true (List.all_eq_true.mp (List.all_eq_true.mp gS_el i (List.mem_range.mpr hi)) j (List.mem_range.mpr hj))))
    (fun i j hi hj hij => by
      have h := List.all_eq_true.mp (List.all_eq_true.mp gS_ne i (List.mem_range.mpr hi)) j (List.mem_range.mpr hj)
      rw [Bool.or_eq_true, Bool.or_eq_true, decide_eq_true_eq, decide_eq_true_eq] at h
      rcases h with h | h | h
      · exact absurd (Nat.eq_of_beq_eq_true h) hij
      · exact Or.inl (hf _ h)
      · exact Or.inr (hf _ h)) hA
  refine ⟨D, fun k => match k with | 0 => a0 | 1 => a1 | 2 => a2 | 12 => a12 | _ => a10, str, ⟨⟨hD, ?_⟩, ?_, ⟨va_AO.of o9, va_AO.of o7⟩, ?_⟩, ⟨adV, hS⟩, va_Zof (hts _ (gnth_mem gz_3)) (hT _ gs_86) (va_eqt (hf _ gz_1)) hA, va_Zqof (hts _ (gnth_mem gz_4)) (hT _ gs_88) (hf _ gz_2) hA⟩
  · intro k q hq
    match k, hq with
    | 0, hq => cases hq; exact i0
    | 1, hq => cases hq; exact i1
    | 2, hq => cases hq; exact i2
    | 3, hq => cases hq; exact i12
    | 4, hq => cases hq; exact i10
    | k + 5, hq => simp at hq
  · intro e9 he hk3 x hx
    have h := List.all_eq_true.mp gnest_all e9 he
    rw [hk3, hx] at h
    rw [Nat.beq_refl] at h
    cases hw : gnth lw_tbl e9.2.2.2.2.1 with
    | none => rw [hw] at h; cases h
    | some w =>
      rw [hw] at h
      have e1 : w = .methodLinkNest (gnm e9.1) e9.2.1 x.1.1 RX11 := of_decide_eq_true (by simpa using h)
      subst e1
      exact va_Nw.of rfl (hts _ (gnth_mem hw))
  · intro q hq
    have h := List.all_eq_true.mp gS_rf q hq
    cases hw : gnth lw_tbl (873 + q.2.2) with
    | none => rw [hw] at h; cases h
    | some w =>
      rw [hw] at h
      rw [Bool.and_eq_true, Bool.and_eq_true, decide_eq_true_eq, decide_eq_true_eq] at h
      obtain ⟨⟨e1, e2⟩, e3⟩ := h
      subst e1
      exact vk_R.of (hts _ (gnth_mem hw)) (by rw [e2]; exact hev _ (Nat.le_of_ble_eq_true e3))
