/-! ===== soundness: helpers ===== -/
theorem gb_eq_t {x y : Int32} {A B : Prop} (z : x = y) (h : if x = y then A else B) : A := by rw [if_pos z] at h; exact h
theorem gb_eq_f {x y : Int32} {A B : Prop} (z : ¬ x = y) (h : if x = y then A else B) : B := by rw [if_neg z] at h; exact h
theorem gb_ne_t {x y : Int32} {A B : Prop} (z : ¬ x = y) (h : if x = y then B else A) : A := by rw [if_neg z] at h; exact h
theorem gb_ne_f {x y : Int32} {A B : Prop} (z : x = y) (h : if x = y then B else A) : B := by rw [if_pos z] at h; exact h
theorem gb_lt_t {x y : Int32} {A B : Prop} (z : x < y) (h : if x < y then A else B) : A := by rw [if_pos z] at h; exact h
theorem gb_lt_f {x y : Int32} {A B : Prop} (z : ¬ x < y) (h : if x < y then A else B) : B := by rw [if_neg z] at h; exact h
theorem gb_ge_t {x y : Int32} {A B : Prop} (z : y ≤ x) (h : if x < y then B else A) : A := by rw [if_neg (Int32.not_lt.mpr z)] at h; exact h
theorem gb_ge_f {x y : Int32} {A B : Prop} (z : ¬ y ≤ x) (h : if x < y then B else A) : B := by rw [if_pos (Int32.not_le.mp z)] at h; exact h
theorem gb_gt_t {x y : Int32} {A B : Prop} (z : y < x) (h : if y < x then A else B) : A := by rw [if_pos z] at h; exact h
theorem gb_gt_f {x y : Int32} {A B : Prop} (z : ¬ y < x) (h : if y < x then A else B) : B := by rw [if_neg z] at h; exact h
theorem gb_le_t {x y : Int32} {A B : Prop} (z : x ≤ y) (h : if y < x then B else A) : A := by rw [if_neg (Int32.not_lt.mpr z)] at h; exact h
theorem gb_le_f {x y : Int32} {A B : Prop} (z : ¬ x ≤ y) (h : if y < x then B else A) : B := by rw [if_pos (Int32.not_le.mp z)] at h; exact h
theorem gnth_get {α : Type} : ∀ (l : List α) (i : Nat), gnth l i = l[i]?
  | [], i => by simp [gnth]
  | a :: l, 0 => by simp [gnth]
  | a :: l, i + 1 => by simp [gnth, gnth_get l i]
theorem gcan_w {c1 c2 : Nat} {bd : Nat × Nat} {st : List Value} (h : gcan c1 c2 bd st = true) : c1 ≤ bd.1 ∧ c2 ≤ bd.2 ∧ gw st ≤ 8 := by
  unfold gcan at h
  rw [Bool.and_eq_true, Bool.and_eq_true] at h
  exact ⟨Nat.le_of_ble_eq_true h.1, Nat.le_of_ble_eq_true h.2.1, Nat.le_of_ble_eq_true h.2.2⟩
theorem gfb_of {o i ci k p : Nat} (h : gfb (o, i, ci, k, p) = true) : ∃ (C : String) (T : u_T) (N : Nat), gcl[ci]? = some (C, T, N) ∧ Cond.fieldLink (gnm o) i (T k).1 (T k).2.1 (T k).2.2.1 ∈ gT := by
  unfold gfb at h
  dsimp only at h
  split at h
  · rename_i r hr
    rw [gnth_get] at hr
    exact ⟨r.1, r.2.1, r.2.2, hr, gix_mem h⟩
  · cases h
theorem gfbI_of {o i ci k p : Nat} (h : gfbI (o, i, ci, k, p) = true) : ∃ (C : String) (T : u_T) (N : Nat), gcl[ci]? = some (C, T, N) ∧ Cond.fieldLink (gnm o) i (T k).1 (T k).2.1 (T k).2.2.1 ∈ gT ∧ (T k).2.2.2 = false ∧ parseFieldDescriptor (T k).2.2.1 = some (cond (gZf ci k) .boolean .int) ∧ (gdf ci)[k]? = some none := by
  unfold gfbI at h
  rw [Bool.and_eq_true] at h
  obtain ⟨C, T, N, hc, hw⟩ := gfb_of h.1
  have h2 := h.2
  dsimp only at h2
  rw [gnth_get, hc] at h2
  simp only [Bool.and_eq_true, Bool.not_eq_true', decide_eq_true_eq] at h2
  exact ⟨C, T, N, hc, hw, h2.1.1, h2.1.2, h2.2⟩
theorem gfbR_of {o i ci k p : Nat} (h : gfbR (o, i, ci, k, p) = true) : ∃ (C : String) (T : u_T) (N : Nat) (ty : FieldType), gcl[ci]? = some (C, T, N) ∧ Cond.fieldLink (gnm o) i (T k).1 (T k).2.1 (T k).2.2.1 ∈ gT ∧ (T k).2.2.2 = true ∧ (T k).1 = gnm o ∧ parseFieldDescriptor (T k).2.2.1 = some ty ∧ (∀ x : Nat, narrow ty (.ref x) = .ref x ∧ fits ty (.ref x) = true) ∧ (gdf ci)[k]? = some (some none) := by
  unfold gfbR at h
  rw [Bool.and_eq_true] at h
  obtain ⟨C, T, N, hc, hw⟩ := gfb_of h.1
  have h2 := h.2
  dsimp only at h2
  rw [gnth_get, hc] at h2
  simp only [Bool.and_eq_true, decide_eq_true_eq] at h2
  obtain ⟨h3, ⟨h4, h5⟩, h6⟩ := h2
  cases hp : parseFieldDescriptor (T k).2.2.1 with
  | none => rw [hp] at h5; cases h5
  | some ty =>
    refine ⟨C, T, N, ty, hc, hw, h3, h4, hp, fun x => ?_, h6⟩
    rw [hp] at h5
    cases ty <;> first | exact ⟨rfl, rfl⟩ | cases h5
theorem gckB_of (b : Nat) (str : Nat → Nat) {a1 a2 a3 a4 a5 a6 : Nat} (h : gckB (a1, a2, a3, a4, a5, a6) = true) : ∃ (C : String) (T : u_T) (N : Nat), gcl[a3]? = some (C, T, N) ∧ Cond.classLink (gnm a1) a2 C ∈ gT ∧ Cond.instantiable C N ∈ gT ∧ Cond.initialized C ∈ gT ∧ (gdf a3).length = N ∧
    ∀ ty : Nat → FieldType, (∀ k, k < N → parseFieldDescriptor (T k).2.2.1 = some (ty k)) → ∀ k, k < N → defaultValue (ty k) = genc b str (gfv (fun _ _ => 0, fun _ _ => 0) 0 k ((gdf a3).getD k none)) := by
  unfold gckB at h
  dsimp only at h
  split at h
  · rename_i r hr
    rw [gnth_get] at hr
    simp only [Bool.and_eq_true] at h
    obtain ⟨h1, h2, h3, h4, h5⟩ := h
    refine ⟨r.1, r.2.1, r.2.2, hr, gix_mem h1, gix_mem h2, gix_mem h3, Nat.eq_of_beq_eq_true h4, fun ty hty k hk => ?_⟩
    have h6 := List.all_eq_true.mp h5 k (List.mem_range.mpr hk)
    rw [hty k hk] at h6
    revert h6
    generalize (gdf a3).getD k none = f
    generalize ty k = t
    intro h6
    rcases f with _ | _ | f
    · cases t <;> first | rfl | cases h6
    · cases t <;> first | rfl | cases h6
    · cases t <;> cases h6
  · cases h
theorem galB_of {ax : Nat → ClassId} {s : State} (hE : va_AO RX9 s ∧ va_AO RX7 s) {a1 a2 a3 a4 : Nat} (h : galB (a1, a2, a3, a4) = true) : ∃ (C : String) (t0 : Nat), (gtys ax)[t0]? = some (ax a3, .object C) ∧ Cond.classLink (gnm a1) a2 C ∈ gT ∧ va_AO C s := by
  unfold galB at h
  dsimp only at h
  split at h
  · rename_i r hr
    rw [gnth_get] at hr
    rw [Bool.and_eq_true, Bool.or_eq_true] at h
    rcases h.2 with h2 | h2
    · cases Nat.eq_of_beq_eq_true h2
      have : r = (RX7, TX7, 3) := (Option.some.inj hr).symm
      subst this
      exact ⟨RX7, 4, rfl, gix_mem h.1, hE.2⟩
    · cases Nat.eq_of_beq_eq_true h2
      have : r = (RX9, TX9, 5) := (Option.some.inj hr).symm
      subst this
      exact ⟨RX9, 3, rfl, gix_mem h.1, hE.1⟩
  · cases h
section GX
variable {p : Program} {l : Launch} {e : Env} {R : Room} {s : State} {m : MethodId} {args : Array Value} {below : List Frame} {meth : Method} {c : Code} {H : Heap} {locs : List Loc} {cells slots : Nat} {Q : State → Prop} {cc : ByteArray} {pc : Nat} {als : Array Slot} {rest : List Value}
theorem gsw_in {x : Int32} {A : Nat → Prop} : ∀ {ps : List (Int × Int)} {d : Nat}, gsw x A ps d → (∃ a ∈ ps, x = Int32.ofInt a.1 ∧ A a.2.toNat ∧ ∃ i : Nat, ps[i]? = some a) ∨ ((∀ a ∈ ps, x ≠ Int32.ofInt a.1) ∧ A d)
  | [], d, h => Or.inr ⟨fun a ha => (List.not_mem_nil ha).elim, h⟩
  | (v, t) :: ps, d, h => by
    unfold gsw at h
    by_cases hv : x = Int32.ofInt v
    · rw [if_pos hv] at h
      exact Or.inl ⟨(v, t), List.mem_cons_self, hv, h, 0, rfl⟩
    · rw [if_neg hv] at h
      rcases gsw_in (ps := ps) h with ⟨a, ha, h1, h2, i, hi⟩ | ⟨h1, h2⟩
      · exact Or.inl ⟨a, List.mem_cons_of_mem _ ha, h1, h2, i + 1, hi⟩
      · refine Or.inr ⟨fun a ha => ?_, h2⟩
        rcases List.mem_cons.mp ha with rfl | ha
        · exact hv
        · exact h1 a ha
theorem glsw {x : Int32} {A : Nat → Prop} {pc : Nat} {d' : Int} {d : Nat} (hd : (pc : Int) + d' = (d : Int)) : ∀ {ps ps' : List (Int × Int)}, ps.map (fun a => a.1) = ps'.map (fun a => a.1) → ps.map (fun a => ((a.2.toNat : Nat) : Int)) = ps'.map (fun a => (pc : Int) + a.2) → (∀ a ∈ ps, (Int32.ofInt a.1).toInt = a.1) → gsw x A ps d → ∃ t : Nat, A t ∧ (pc : Int) + Op.lookupswitch.offset ps' d' x.toInt = (t : Int)
  | [], [], _, _, _, h => ⟨d, h, hd⟩
  | [], _ :: _, h1, _, _, _ => by cases h1
  | _ :: _, [], h1, _, _, _ => by cases h1
  | (v, t) :: ps, (v', t') :: ps', h1, h2, h3, h => by
    simp only [List.map_cons, List.cons.injEq] at h1 h2
    obtain ⟨rfl, h1⟩ := h1
    unfold gsw at h
    rw [Op.lookupswitch.offset_cons]
    by_cases hv : x = Int32.ofInt v
    · rw [if_pos hv] at h
      have e1 : x.toInt = v := by rw [hv]; exact h3 (v, t) List.mem_cons_self
      rw [if_pos e1.symm]
      exact ⟨_, h, h2.1.symm⟩
    · rw [if_neg hv] at h
      have e1 : ¬ v = x.toInt := fun z => hv (Int32.toInt_inj.mp (by rw [h3 (v, t) List.mem_cons_self]; exact z.symm))
      rw [if_neg e1]
      exact glsw hd h1 h2.2 (fun a ha => h3 a (List.mem_cons_of_mem _ ha)) h
theorem gswitch (hx : p.tables.exec = Jvm.exec) (hb : c.code = cc) {o : Nat} {ini : Bool} {rt : Option FieldType} {mx len : Nat} {cins : Instr} {v x : Int32} {dd : Int} {ps : Array (Int × Int)} {A : Nat → Prop} (hd : decode cc pc = .ok (cins, len)) (hm : gmt o ini rt mx pc len cins (.lookupswitch dd ps) v = true) (h : gsw x A ps.toList dd.toNat)
    (kk : ∀ t, A t → W p l e R s m args below meth c H locs cells slots Q (F0 m t als rest)) : W p l e R s m args below meth c H locs cells slots Q (F0 m pc als (.int x :: rest)) := by
  unfold gmt at hm
  dsimp only at hm
  split at hm
  · rename_i d' ps'
    simp only [Bool.and_eq_true, decide_eq_true_eq, List.all_eq_true] at hm
    obtain ⟨h1, h2, h3, h4, h5⟩ := hm
    obtain ⟨t, ht, hto⟩ := glsw h2 h3 h4 h5 h
    exact lv_lookup hx hb hd (List.all_eq_true.mpr (fun a ha => by have := h1 a ha; simpa using this)) rfl hto (kk t ht)
  · rename_i d' lo hi offs
    simp only [Bool.and_eq_true, decide_eq_true_eq, List.all_eq_true] at hm
    obtain ⟨h2, h1, h3, h4, h5⟩ := hm
    rcases gsw_in h with ⟨a, ha, e1, hA, i, hi⟩ | ⟨hno, hA⟩
    · have g3 : (ps.toList.map (fun a => a.1))[i]? = some a.1 := by rw [List.getElem?_map, hi]; rfl
      have g4 : (ps.toList.map (fun a => ((a.2.toNat : Nat) : Int)))[i]? = some ((a.2.toNat : Nat) : Int) := by rw [List.getElem?_map, hi]; rfl
      rw [h3, List.getElem?_map] at g3
      rw [h4, List.getElem?_map] at g4
      have hi2 : i < offs.size := by
        have := (List.getElem?_eq_some_iff.mp (show (List.range offs.size)[i]? = some ((List.range offs.size)[i]?.getD 0) by
          cases hz : (List.range offs.size)[i]? with
          | none => rw [hz] at g3; cases g3
          | some y => rfl)).1
        rw [List.length_range] at this
        exact this
      rw [List.getElem?_range hi2] at g3
      have e2 : lo + (i : Int) = a.1 := Option.some.inj g3
      have e3 : x.toInt = a.1 := by rw [e1]; exact h5 a ha
      have hoff : offs.toList[i]? = some offs[i] := by rw [Array.getElem?_toList]; exact Array.getElem?_eq_getElem hi2
      rw [hoff] at g4
      have e4 : (pc : Int) + offs[i] = ((a.2.toNat : Nat) : Int) := Option.some.inj g4
      refine lv_tableIn hx hb hd (by omega) (by omega) (off := offs[i]) ?_ e4 (kk _ hA)
      rw [show (x.toInt - lo).toNat = i by omega]
      exact Array.getElem?_eq_getElem hi2
    · refine lv_tableOut hx hb hd ?_ h2 (kk _ hA)
      by_cases hlo : x.toInt < lo
      · exact Or.inl hlo
      · refine Or.inr ?_
        by_cases hhi : hi < x.toInt
        · exact hhi
        · exfalso
          have hj : (x.toInt - lo).toNat < offs.size := by omega
          have hz : (ps.toList.map (fun a => a.1))[(x.toInt - lo).toNat]? = some (lo + (((x.toInt - lo).toNat : Nat) : Int)) := by
            rw [h3, List.getElem?_map, List.getElem?_range hj]
            rfl
          rw [List.getElem?_map] at hz
          cases hq : ps.toList[(x.toInt - lo).toNat]? with
          | none => rw [hq] at hz; cases hz
          | some a =>
            rw [hq] at hz
            have e5 : a.1 = lo + (((x.toInt - lo).toNat : Nat) : Int) := Option.some.inj hz
            have ha := List.mem_of_getElem? hq
            refine hno a ha (Int32.toInt_inj.mp ?_)
            rw [h5 a ha, e5]
            omega
  · cases hm
end GX
