/-! ===== soundness: locals, environment ===== -/
def gas (b : Nat) (str : Nat → Nat) : Nat → gL → List (Nat × Value)
  | _, [] => []
  | k, none :: l => gas b str (k + 1) l
  | k, some v :: l => (k, genc b str v) :: gas b str (k + 1) l
theorem gas_mem {b : Nat} {str : Nat → Nat} : ∀ {l : gL} {k : Nat} {x : Nat × Value}, x ∈ gas b str k l → ∃ j v, x = (k + j, genc b str v) ∧ gget l j = some v
  | [], k, x, h => by cases h
  | none :: l, k, x, h => by
    obtain ⟨j, v, h1, h2⟩ := gas_mem (l := l) (k := k + 1) h
    exact ⟨j + 1, v, by rw [h1, show k + 1 + j = k + (j + 1) by omega], h2⟩
  | some w :: l, k, x, h => by
    rcases List.mem_cons.mp h with h | h
    · exact ⟨0, w, h, rfl⟩
    · obtain ⟨j, v, h1, h2⟩ := gas_mem (l := l) (k := k + 1) h
      exact ⟨j + 1, v, by rw [h1, show k + 1 + j = k + (j + 1) by omega], h2⟩
theorem gas_in {b : Nat} {str : Nat → Nat} : ∀ {l : gL} {k j : Nat} {v : Value}, gget l j = some v → (k + j, genc b str v) ∈ gas b str k l
  | [], k, j, v, h => by cases h
  | none :: l, k, 0, v, h => by cases h
  | none :: l, k, j + 1, v, h => by
    have := gas_in (b := b) (str := str) (l := l) (k := k + 1) (j := j) (v := v) h
    rw [show k + (j + 1) = k + 1 + j by omega]
    exact this
  | some w :: l, k, 0, v, h => by
    cases h
    exact List.mem_cons_self
  | some w :: l, k, j + 1, v, h => by
    have := gas_in (b := b) (str := str) (l := l) (k := k + 1) (j := j) (v := v) h
    rw [show k + (j + 1) = k + 1 + j by omega]
    exact List.mem_cons_of_mem _ this
theorem genc_cat (b : Nat) (str : Nat → Nat) (v : Value) : (genc b str v).category = v.category := by cases v <;> rfl
theorem gget_gset : ∀ {l : gL} {i j : Nat} {v w : Value}, gget (gset l i v) j = some w → (j = i ∧ w = v) ∨ (j ≠ i ∧ gget l j = some w ∧ ¬ (j + 1 = i ∧ w.category = 2))
  | [], i, j, v, w, h => by simp [gset, gget] at h
  | a :: l, 0, 0, v, w, h => by
    left
    exact ⟨rfl, (Option.some.inj h).symm⟩
  | a :: l, 0, j + 1, v, w, h => Or.inr ⟨by omega, h, by omega⟩
  | a :: l, 1, 0, v, w, h => by
    right
    refine ⟨by omega, ?_, ?_⟩
    · rcases a with _ | a
      · cases h
      · cases a <;> first | exact h | cases h
    · rcases a with _ | a
      · cases h
      · cases a <;> first | (cases h; done) | (have h2 := Option.some.inj h; subst h2; simp [Value.category])
  | a :: l, 1, j + 1, v, w, h => by
    rcases gget_gset (l := l) (i := 0) (j := j) (v := v) (w := w) h with ⟨h1, h2⟩ | ⟨h1, h2, h3⟩
    · exact Or.inl ⟨by omega, h2⟩
    · exact Or.inr ⟨by omega, h2, by omega⟩
  | a :: l, n + 2, 0, v, w, h => Or.inr ⟨by omega, h, by omega⟩
  | a :: l, n + 2, j + 1, v, w, h => by
    rcases gget_gset (l := l) (i := n + 1) (j := j) (v := v) (w := w) h with ⟨h1, h2⟩ | ⟨h1, h2, h3⟩
    · exact Or.inl ⟨by omega, h2⟩
    · exact Or.inr ⟨by omega, h2, fun z => h3 ⟨by omega, z.2⟩⟩
theorem gget_gnon : ∀ {l : gL} {i j : Nat} {w : Value}, gget (gnon l i) j = some w → j ≠ i ∧ gget l j = some w
  | [], i, j, w, h => by simp [gnon, gget] at h
  | a :: l, 0, 0, w, h => by cases h
  | a :: l, 0, j + 1, w, h => ⟨by omega, h⟩
  | a :: l, n + 1, 0, w, h => ⟨by omega, h⟩
  | a :: l, n + 1, j + 1, w, h => by
    obtain ⟨h1, h2⟩ := gget_gnon (l := l) (i := n) (j := j) h
    exact ⟨by omega, h2⟩
theorem gget_gset2 {l : gL} {i j : Nat} {v w : Value} (h : gget (gset2 l i v) j = some w) : (j = i ∧ w = v) ∨ (j ≠ i ∧ j ≠ i + 1 ∧ gget l j = some w ∧ ¬ (j + 1 = i ∧ w.category = 2)) := by
  obtain ⟨h1, h2⟩ := gget_gnon h
  rcases gget_gset h2 with h3 | ⟨h3, h4, h5⟩
  · exact Or.inl h3
  · exact Or.inr ⟨h3, h1, h4, h5⟩
theorem gget_gcut : ∀ {l : gL} {n j : Nat} {w : Value}, gget (gcut l n) j = some w → gget l j = some w
  | [], n, j, w, h => by simp [gcut, gget] at h
  | a :: l, 0, 0, w, h => by cases h
  | a :: l, 0, j + 1, w, h => gget_gcut (l := l) (n := 0) (j := j) h
  | a :: l, n + 1, 0, w, h => h
  | a :: l, n + 1, j + 1, w, h => gget_gcut (l := l) (n := n) (j := j) h
theorem gkeep_sub {b : Nat} {str : Nat → Nat} {l : gL} {n : Nat} {als : Array Slot} {mx : Nat} (h : lv_has als mx (gas b str 0 l)) : lv_has als mx (gas b str 0 (gkeep l n)) := by
  refine ⟨h.1, h.2.1, fun x hx => ?_⟩
  obtain ⟨j, v, h1, h2⟩ := gas_mem hx
  have h3 : gget l j = some v := by
    cases n with
    | zero => exact h2
    | succ n => exact gget_gcut h2
  rw [h1]
  exact h.2.2 _ (gas_in h3)
theorem gloc {b : Nat} {str : Nat → Nat} {l : gL} {als : Array Slot} {mx i : Nat} {v : Value} (h : lv_has als mx (gas b str 0 l)) (hg : gget l i = some v) : als[i]? = some (.val (genc b str v)) := by
  have := h.2.2 _ (gas_in (k := 0) hg)
  rw [Nat.zero_add] at this
  exact this
theorem gloc_set {b : Nat} {str : Nat → Nat} {l : gL} {als : Array Slot} {mx i : Nat} {v : Value} (h : lv_has als mx ((i, genc b str v) :: (gas b str 0 l).filter (fun q => !(q.1 == i) && !(q.1 + 1 == i && q.2.category == 2)))) : lv_has als mx (gas b str 0 (gset l i v)) := by
  refine ⟨h.1, h.2.1, fun x hx => ?_⟩
  obtain ⟨j, w, h1, h2⟩ := gas_mem hx
  rw [Nat.zero_add] at h1
  rcases gget_gset h2 with ⟨rfl, rfl⟩ | ⟨g1, g2, g3⟩
  · rw [h1]
    exact h.2.2 _ List.mem_cons_self
  · refine h.2.2 _ (List.mem_cons_of_mem _ (List.mem_filter.mpr ⟨?_, ?_⟩))
    · rw [h1, ← Nat.zero_add j]
      exact gas_in g2
    · rw [h1]
      simp only [genc_cat]
      by_cases hc : w.category = 2
      · have : j + 1 ≠ i := fun z => g3 ⟨z, hc⟩
        simp [g1, this]
      · simp [g1, hc]
theorem gloc_set2 {b : Nat} {str : Nat → Nat} {l : gL} {als : Array Slot} {mx i : Nat} {v : Value} (h : lv_has als mx ((i, genc b str v) :: (gas b str 0 l).filter (fun q => !(q.1 == i) && (!(q.1 == i + 1) && !(q.1 + 1 == i && q.2.category == 2))))) : lv_has als mx (gas b str 0 (gset2 l i v)) := by
  refine ⟨h.1, h.2.1, fun x hx => ?_⟩
  obtain ⟨j, w, h1, h2⟩ := gas_mem hx
  rw [Nat.zero_add] at h1
  rcases gget_gset2 h2 with ⟨rfl, rfl⟩ | ⟨g1, g0, g2, g3⟩
  · rw [h1]
    exact h.2.2 _ List.mem_cons_self
  · refine h.2.2 _ (List.mem_cons_of_mem _ (List.mem_filter.mpr ⟨?_, ?_⟩))
    · rw [h1, ← Nat.zero_add j]
      exact gas_in g2
    · rw [h1]
      simp only [genc_cat]
      by_cases hc : w.category = 2
      · have : j + 1 ≠ i := fun z => g3 ⟨z, hc⟩
        simp [g1, g0, this]
      · simp [g1, g0, hc]
theorem gas_none (b : Nat) (str : Nat → Nat) : ∀ (n k : Nat), gas b str k (List.replicate n none) = []
  | 0, _ => rfl
  | n + 1, k => gas_none b str n (k + 1)
theorem gent_sub (b : Nat) (str : Nat → Nat) : ∀ (as : List Value) (n k : Nat), ∀ x ∈ gas b str k (gent n as), x ∈ lv_args k (as.map (genc b str))
  | [], n, k, x, h => by
    have : gent n [] = List.replicate n none := by unfold gent; rfl
    rw [this, gas_none] at h
    cases h
  | v :: as, 0, k, x, h => by cases h
  | v :: as, 1, k, x, h => by
    rcases List.mem_cons.mp h with h | h
    · rw [h]
      exact List.mem_cons_self
    · cases h
  | v :: as, n + 2, k, x, h => by
    cases v with
    | long y =>
      rcases List.mem_cons.mp h with h | h
      · rw [h]
        exact List.mem_cons_self
      · exact List.mem_cons_of_mem _ (gent_sub b str as n (k + 2) x h)
    | double y => cases h
    | _ =>
      rcases List.mem_cons.mp h with h | h
      · rw [h]
        exact List.mem_cons_self
      · exact List.mem_cons_of_mem _ (gent_sub b str as (n + 1) (k + 1) x h)
theorem gpop_spec : ∀ {n : Nat} {acc st as st' : List Value}, gpop n acc st = some (as, st') → ∃ bs, as = bs.reverse ++ acc ∧ st = bs ++ st' ∧ bs.length = n
  | 0, acc, st, as, st', h => by
    cases h
    exact ⟨[], rfl, rfl, rfl⟩
  | n + 1, acc, [], as, st', h => by cases h
  | n + 1, acc, v :: st, as, st', h => by
    obtain ⟨bs, h1, h2, h3⟩ := gpop_spec (n := n) (acc := v :: acc) (st := st) h
    exact ⟨v :: bs, by rw [h1]; simp, by rw [h2]; rfl, by simp [h3]⟩
theorem gw_map (b : Nat) (str : Nat → Nat) : ∀ st : List Value, ((st.map (genc b str)).map fun v => v.category).sum = gw st
  | [] => rfl
  | v :: st => by
    simp only [List.map_cons, List.sum_cons, genc_cat, gw]
    rw [gw_map b str st]
def gstx : List String := ["near", "apart", "each", "acre", "shut", "except", "from"]
/-- what of the tables (and of the String constants) a method takes along -/
def genv (D : va_G) (ax : Nat → ClassId) (str : Nat → Nat) (U : State) : Prop := va_K D gcl (gtys ax) U ∧ (∀ e ∈ gML, e.2.2.2.1 = 3 → ∀ x, gnth gtab e.2.2.1 = some x → va_Nw (.methodLinkNest (gnm e.1) e.2.1 x.1.1 RX11) U) ∧ (va_AO RX9 U ∧ va_AO RX7 U) ∧ ∀ q ∈ gSO, vk_R (gnm q.1) q.2.1 (gstx.getD q.2.2 "") (str q.2.2) U
def gstr (str : Nat → Nat) (b : Nat) (U : State) (H : Heap) : Prop := (∃ adV, vk_S 7 [4, 5, 4, 4, 4, 6, 4] gstrs str adV (fun x => b ≤ x) U H) ∧ va_Z "java/lang/String" "COMPACT_STRINGS" "Z" (.int 1) (fun x => b ≤ x) U H ∧ va_Zq "jdk/internal/util/Preconditions" "SIOOBE_FORMATTER" "Ljava/util/function/BiFunction;" (fun x => b ≤ x) U H
theorem genv.warm {D : va_G} {ax : Nat → ClassId} {str : Nat → Nat} {s U : State} (hW : s.WarmedH U.vm) (h : genv D ax str s) : genv D ax str U :=
  ⟨va_K.moved hW.alike h.1, fun e he hk x hx => va_Nw.warmM hW (h.2.1 e he hk x hx), ⟨va_AO.moved hW.alike h.2.2.1.1, va_AO.moved hW.alike h.2.2.1.2⟩, fun q hq => vk_R.warm hW (h.2.2.2 q hq)⟩
theorem genv.same {D : va_G} {ax : Nat → ClassId} {str : Nat → Nat} {s U : State} (hv : U.vm = s.vm) (h : genv D ax str s) : genv D ax str U :=
  ⟨va_K.moved (by rw [hv]; exact Vm.Alike.refl _) h.1, fun e he hk x hx => va_Nw.same rfl hv.symm (h.2.1 e he hk x hx), ⟨va_AO.moved (by rw [hv]; exact Vm.Alike.refl _) h.2.2.1.1, va_AO.moved (by rw [hv]; exact Vm.Alike.refl _) h.2.2.1.2⟩, fun q hq => vk_R.same hv (h.2.2.2 q hq)⟩
def gA (b : Nat) (sh : gH) : Nat → Prop := fun x => ∃ id, x = b + id ∧ (sh.2 ≤ id ∨ ∃ e, sh.1 id = some e)
theorem gA.at {b : Nat} {sh : gH} {id : Nat} {e : gE} (h : sh.1 id = some e) : gA b sh (b + id) := ⟨id, rfl, Or.inr ⟨e, h⟩⟩
theorem gA.new {b : Nat} {sh : gH} : gA b sh (b + sh.2) := ⟨sh.2, rfl, Or.inl (Nat.le_refl _)⟩
theorem gA.grow {b : Nat} {sh : gH} {e : gE} : ∀ x, gA b (gsh sh.1 sh.2 e, sh.2 + 1) x → gA b sh x := by
  rintro x ⟨id, rfl, h | ⟨e', h⟩⟩
  · exact ⟨id, rfl, Or.inl (by have : sh.2 + 1 ≤ id := h; omega)⟩
  · have h' : gsh sh.1 sh.2 e id = some e' := h
    unfold gsh at h'
    by_cases hi : id = sh.2
    · exact ⟨id, rfl, Or.inl (by omega)⟩
    · rw [if_neg hi] at h'
      exact ⟨id, rfl, Or.inr ⟨e', h'⟩⟩
theorem gA.set {b : Nat} {sh : gH} {id : Nat} {e0 e : gE} (h0 : sh.1 id = some e0) : ∀ x, gA b (gsh sh.1 id e, sh.2) x → gA b sh x := by
  rintro x ⟨j, rfl, h | ⟨e', h⟩⟩
  · exact ⟨j, rfl, Or.inl h⟩
  · have h' : gsh sh.1 id e j = some e' := h
    unfold gsh at h'
    by_cases hi : j = id
    · exact ⟨j, rfl, Or.inr ⟨e0, by rw [hi]; exact h0⟩⟩
    · rw [if_neg hi] at h'
      exact ⟨j, rfl, Or.inr ⟨e', h'⟩⟩
def gPc (D : va_G) (ax : Nat → ClassId) (str : Nat → Nat) (b : Nat) (as : List Value) (q : gS) : Array Value → State → Prop := fun a U => a = (as.map (genc b str)).toArray ∧ gRep D ax str b q U.heap ∧ genv D ax str U ∧ gstr str b U U.heap
def gQc (D : va_G) (ax : Nat → ClassId) (str : Nat → Nat) (b : Nat) (q : gS) (r : Option Value × gS) : Array Value → State → Outcome → State → Prop := fun _ st o t => o = .returned (r.1.map (genc b str)) ∧ gRep D ax str b r.2 t.heap ∧ (∀ x, gA b r.2.1 x → gA b q.1 x) ∧ va_F (gA b q.1) st t
def grm (d c1 c2 : Nat) : Room := { frames := d, cells := c1, slots := c2, locals := 40 * d }
theorem gPc.blind {D : va_G} {ax : Nat → ClassId} {str : Nat → Nat} {b : Nat} {as : List Value} {q : gS} : FrameBlind (gPc D ax str b as q) := by
  rintro a U g mk ⟨h1, h2, h3, ⟨adV, h4⟩, h5, h6⟩
  exact ⟨h1, h2, h3.same rfl, ⟨adV, vk_S.moved (Vm.Alike.refl U.vm) h4⟩, va_Z.moved (Vm.Alike.refl U.vm) h5, va_Zq.moved (Vm.Alike.refl U.vm) h6⟩
