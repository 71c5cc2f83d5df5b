/-! ===== the makers (by program) ===== -/
def gs0 : gS := ((fun _ => none, 0), (fun _ _ => 0, fun _ _ => 0))
def gI0 (id q : Nat) : Int32 := match id with
  | 3 => if q = 2 then 9 else if q = 1 then 3 else if q = 0 then 3 else 0
  | 4 => if q < 9 then nI (q % 3) else 0
  | 5 => if q < 9 then nI (q / 3) else 0
  | 6 => if q < 36 then (5) else 0
  | 10 => if q < 36 then (-4) else 0
  | 13 => if q < 8 then (-4) else 0
  | 33 => if q < 6 then (-4) else 0
  | 73 => if q = 0 then (-4) else 0
  | 75 => if q = 0 then (-4) else 0
  | 77 => if q = 0 then (-4) else 0
  | 79 => if q = 0 then (-4) else 0
  | 81 => if q = 1 then (3) else if q = 0 then (3) else 0
  | 82 => if q < 36 then (5) else 0
  | 85 => if q < 36 then (-4) else 0
  | 87 => if q < 8 then (-4) else 0
  | 104 => if q < 6 then (-4) else 0
  | 113 => ([0, 4, 9, 13, 17, 21, 27, 31] : List Int32).getD q 0
  | 114 => ([110, 101, 97, 114, 97, 112, 97, 114, 116, 101, 97, 99, 104, 97, 99, 114, 101, 115, 104, 117, 116, 101, 120, 99, 101, 112, 116, 102, 114, 111, 109] : List Int32).getD q 0
  | 115 => ([9, 9, 999, 999, 0, 5] : List Int32).getD q 0
  | 125 => if q < 4 then (-4) else 0
  | _ => 0
def gKp (B : Nat) (s s' : gS) : Prop := (∀ id, id < B → s'.1.1 id = s.1.1 id) ∧ (∀ id, id < B → s'.2.1 id = s.2.1 id) ∧ (∀ id, id < B → s'.2.2 id = s.2.2 id)
theorem gKp.rf {B : Nat} {s : gS} : gKp B s s := ⟨fun _ _ => rfl, fun _ _ => rfl, fun _ _ => rfl⟩
theorem gKp.setS {B a : Nat} {s s' : gS} {e : gE} (h : gKp B s s') (ha : B ≤ a) : gKp B s (gsetS s' a e) :=
  ⟨fun id hi => by show gsh s'.1.1 a e id = _; unfold gsh; rw [if_neg (by omega)]; exact h.1 id hi, h.2.1, h.2.2⟩
theorem gKp.setN {B a i : Nat} {x : Int32} {s s' : gS} (h : gKp B s s') (ha : B ≤ a) : gKp B s (gsetN s' a i x) :=
  ⟨h.1, fun id hi => by funext q; show gup s'.2.1 a i x id q = _; rw [gup_row (by omega)]; exact congrFun (h.2.1 id hi) q, h.2.2⟩
theorem gKp.mkO {B ci : Nat} {s s' : gS} (h : gKp B s s') (ha : B ≤ s'.1.2) : gKp B s (gmkO s' ci) :=
  ⟨fun id hi => by show gsh s'.1.1 s'.1.2 _ id = _; unfold gsh; rw [if_neg (by omega)]; exact h.1 id hi, fun id hi => by show grow s'.2.1 s'.1.2 _ id = _; unfold grow; rw [if_neg (by omega)]; exact h.2.1 id hi, h.2.2⟩
theorem gKp.mkI {B kd n : Nat} {s s' : gS} (h : gKp B s s') (ha : B ≤ s'.1.2) : gKp B s (gmkI s' kd n) :=
  ⟨fun id hi => by show gsh s'.1.1 s'.1.2 _ id = _; unfold gsh; rw [if_neg (by omega)]; exact h.1 id hi, fun id hi => by show grow s'.2.1 s'.1.2 _ id = _; unfold grow; rw [if_neg (by omega)]; exact h.2.1 id hi, h.2.2⟩
theorem gKp.mkL {B n : Nat} {s s' : gS} (h : gKp B s s') (ha : B ≤ s'.1.2) : gKp B s (gmkL s' n) :=
  ⟨fun id hi => by show gsh s'.1.1 s'.1.2 _ id = _; unfold gsh; rw [if_neg (by omega)]; exact h.1 id hi, h.2.1, fun id hi => by show grow s'.2.2 s'.1.2 _ id = _; unfold grow; rw [if_neg (by omega)]; exact h.2.2 id hi⟩
theorem gKp.mkA {B kd n : Nat} {s s' : gS} (h : gKp B s s') (ha : B ≤ s'.1.2) : gKp B s (gmkA s' kd n) :=
  ⟨fun id hi => by show gsh s'.1.1 s'.1.2 _ id = _; unfold gsh; rw [if_neg (by omega)]; exact h.1 id hi, h.2.1, h.2.2⟩
theorem gKp.tnew {B t w h : Nat} {s : gS} {sh : gH} {m : gM} (k : gKp B s (sh, m)) (ha : B ≤ t) : gKp B s (sh, gTnew m t w h) :=
  ⟨k.1, fun id hi => by funext q; show (gTnew m t w h).1 id q = _; rw [gTnew_far _ _ _ _ _ _ (Or.inl (by omega))]; exact congrFun (k.2.1 id hi) q, k.2.2⟩
set_option maxRecDepth 100000 in
set_option maxHeartbeats 8000000 in
theorem made_OT : ∃ s1 : gS, gR gmi gdf gcd 10 108 [.ref 0] (gmkO gs0 11) (none, s1) ∧ s1.1.2 = 81 ∧ gHas s1.1.1 0 (gsh_OT [none, none, none]) ∧ ∀ id q, id < 81 → s1.2.1 id q = gI0 id q := by
  apply Exists.intro
  refine ⟨gR_ofy (mx := 2) rfl rfl (Nat.le_of_ble_eq_true rfl) ?_, ?_, ?_, ?_⟩
  · refine gEy.aload rfl rfl rfl ?_
    refine gEy.init0 rfl rfl rfl rfl ?_
    refine gEy.aload rfl rfl rfl ?_
    refine gEy.new (a := 1) rfl rfl rfl rfl ?_
    refine gEy.dupR rfl rfl ?_
    refine gEy.special rfl rfl rfl rfl rfl ?_
    apply Exists.intro
    refine ⟨gR_ofy (mx := 1) rfl rfl (Nat.le_of_ble_eq_true rfl) ?_, ?_⟩
    · refine gEy.aload rfl rfl rfl ?_
      refine gEy.init0 rfl rfl rfl rfl ?_
      refine gEy.aload rfl rfl rfl ?_
      refine gEy.new (a := 2) rfl rfl rfl rfl ?_
      refine gEy.dupR rfl rfl ?_
      refine gEy.special rfl rfl rfl rfl rfl ?_
      apply Exists.intro
      refine ⟨gR_ofy (mx := 1) rfl rfl (Nat.le_of_ble_eq_true rfl) ?_, ?_⟩
      · refine gEy.aload rfl rfl rfl ?_
        refine gEy.init0 rfl rfl rfl rfl ?_
        refine gEy.aload rfl rfl rfl ?_
        refine gEy.new (a := 3) rfl rfl rfl rfl ?_
        refine gEy.dupR rfl rfl ?_
        refine gEy.special rfl rfl rfl rfl rfl ?_
        apply Exists.intro
        refine ⟨gR_ofy (mx := 1) rfl rfl (Nat.le_of_ble_eq_true rfl) ?_, ?_⟩
        · refine gEy.aload rfl rfl rfl ?_
          refine gEy.init0 rfl rfl rfl rfl ?_
          refine gEy.aload rfl rfl rfl ?_
          refine gEy.iconst rfl rfl ?_
          refine gEy.newI (n := 36) (a := 4) rfl rfl rfl rfl rfl ?_
          refine gEy.putR rfl rfl rfl rfl rfl ?_
          refine gEy.aload rfl rfl rfl ?_
          refine gEy.iconst rfl rfl ?_
          refine gEy.newI (n := 36) (a := 5) rfl rfl rfl rfl rfl ?_
          refine gEy.putR rfl rfl rfl rfl rfl ?_
          refine gEy.aload rfl rfl rfl ?_
          refine gEy.iconst rfl rfl ?_
          refine gEy.newI (n := 36) (a := 6) rfl rfl rfl rfl rfl ?_
          refine gEy.putR rfl rfl rfl rfl rfl ?_
          refine gEy.aload rfl rfl rfl ?_
          refine gEy.iconst rfl rfl ?_
          refine gEy.newI (n := 36) (a := 7) rfl rfl rfl rfl rfl ?_
          refine gEy.putR rfl rfl rfl rfl rfl ?_
          refine gEy.aload rfl rfl rfl ?_
          refine gEy.iconst rfl rfl ?_
          refine gEy.newI (n := 36) (a := 8) rfl rfl rfl rfl rfl ?_
          refine gEy.putR rfl rfl rfl rfl rfl ?_
          refine gEy.aload rfl rfl rfl ?_
          refine gEy.iconst rfl rfl ?_
          refine gEy.newI (n := 36) (a := 9) rfl rfl rfl rfl rfl ?_
          refine gEy.putR rfl rfl rfl rfl rfl ?_
          exact gEy.retv rfl rfl
        refine gEy.putR rfl rfl rfl rfl rfl ?_
        refine gEy.aload rfl rfl rfl ?_
        refine gEy.iconst rfl rfl ?_
        refine gEy.newI (n := 36) (a := 10) rfl rfl rfl rfl rfl ?_
        refine gEy.putR rfl rfl rfl rfl rfl ?_
        refine gEy.aload rfl rfl rfl ?_
        refine gEy.iconst rfl rfl ?_
        refine gEy.newI (n := 324) (a := 11) rfl rfl rfl rfl rfl ?_
        refine gEy.putR rfl rfl rfl rfl rfl ?_
        exact gEy.retv rfl rfl
      refine gEy.putR rfl rfl rfl rfl rfl ?_
      refine gEy.aload rfl rfl rfl ?_
      refine gEy.new (a := 12) rfl rfl rfl rfl ?_
      refine gEy.dupR rfl rfl ?_
      refine gEy.special rfl rfl rfl rfl rfl ?_
      apply Exists.intro
      refine ⟨gR_ofy (mx := 1) rfl rfl (Nat.le_of_ble_eq_true rfl) ?_, ?_⟩
      · refine gEy.aload rfl rfl rfl ?_
        refine gEy.init0 rfl rfl rfl rfl ?_
        refine gEy.aload rfl rfl rfl ?_
        refine gEy.iconst rfl rfl ?_
        refine gEy.newI (n := 8) (a := 13) rfl rfl rfl rfl rfl ?_
        refine gEy.putR rfl rfl rfl rfl rfl ?_
        refine gEy.aload rfl rfl rfl ?_
        refine gEy.iconst rfl rfl ?_
        refine gEy.newI (n := 12) (a := 14) rfl rfl rfl rfl rfl ?_
        refine gEy.putR rfl rfl rfl rfl rfl ?_
        refine gEy.aload rfl rfl rfl ?_
        refine gEy.iconst rfl rfl ?_
        refine gEy.newI (n := 12) (a := 15) rfl rfl rfl rfl rfl ?_
        refine gEy.putR rfl rfl rfl rfl rfl ?_
        refine gEy.aload rfl rfl rfl ?_
        refine gEy.iconst rfl rfl ?_
        refine gEy.newI (n := 12) (a := 16) rfl rfl rfl rfl rfl ?_
        refine gEy.putR rfl rfl rfl rfl rfl ?_
        refine gEy.aload rfl rfl rfl ?_
        refine gEy.iconst rfl rfl ?_
        refine gEy.newI (n := 12) (a := 17) rfl rfl rfl rfl rfl ?_
        refine gEy.putR rfl rfl rfl rfl rfl ?_
        exact gEy.retv rfl rfl
      refine gEy.putR rfl rfl rfl rfl rfl ?_
      refine gEy.aload rfl rfl rfl ?_
      refine gEy.new (a := 18) rfl rfl rfl rfl ?_
      refine gEy.dupR rfl rfl ?_
      refine gEy.special rfl rfl rfl rfl rfl ?_
      apply Exists.intro
      refine ⟨gR_ofy (mx := 1) rfl rfl (Nat.le_of_ble_eq_true rfl) ?_, ?_⟩
      · refine gEy.aload rfl rfl rfl ?_
        refine gEy.init0 rfl rfl rfl rfl ?_
        refine gEy.aload rfl rfl rfl ?_
        refine gEy.iconst rfl rfl ?_
        refine gEy.newI (n := 10) (a := 19) rfl rfl rfl rfl rfl ?_
        refine gEy.putR rfl rfl rfl rfl rfl ?_
        refine gEy.aload rfl rfl rfl ?_
        refine gEy.iconst rfl rfl ?_
        refine gEy.newI (n := 10) (a := 20) rfl rfl rfl rfl rfl ?_
        refine gEy.putR rfl rfl rfl rfl rfl ?_
        refine gEy.aload rfl rfl rfl ?_
        refine gEy.iconst rfl rfl ?_
        refine gEy.newI (n := 10) (a := 21) rfl rfl rfl rfl rfl ?_
        refine gEy.putR rfl rfl rfl rfl rfl ?_
        refine gEy.aload rfl rfl rfl ?_
        refine gEy.iconst rfl rfl ?_
        refine gEy.newZ (n := 10) (a := 22) rfl rfl rfl rfl rfl ?_
        refine gEy.putR rfl rfl rfl rfl rfl ?_
        refine gEy.aload rfl rfl rfl ?_
        refine gEy.iconst rfl rfl ?_
        refine gEy.newI (n := 10) (a := 23) rfl rfl rfl rfl rfl ?_
        refine gEy.putR rfl rfl rfl rfl rfl ?_
        refine gEy.aload rfl rfl rfl ?_
        refine gEy.iconst rfl rfl ?_
        refine gEy.newI (n := 10) (a := 24) rfl rfl rfl rfl rfl ?_
        refine gEy.putR rfl rfl rfl rfl rfl ?_
        refine gEy.aload rfl rfl rfl ?_
        refine gEy.iconst rfl rfl ?_
        refine gEy.newI (n := 90) (a := 25) rfl rfl rfl rfl rfl ?_
        refine gEy.putR rfl rfl rfl rfl rfl ?_
        refine gEy.aload rfl rfl rfl ?_
        refine gEy.iconst rfl rfl ?_
        refine gEy.newI (n := 500) (a := 26) rfl rfl rfl rfl rfl ?_
        refine gEy.putR rfl rfl rfl rfl rfl ?_
        exact gEy.retv rfl rfl
      refine gEy.putR rfl rfl rfl rfl rfl ?_
      refine gEy.aload rfl rfl rfl ?_
      refine gEy.new (a := 27) rfl rfl rfl rfl ?_
      refine gEy.dupR rfl rfl ?_
      refine gEy.special rfl rfl rfl rfl rfl ?_
      apply Exists.intro
      refine ⟨gR_ofy (mx := 1) rfl rfl (Nat.le_of_ble_eq_true rfl) ?_, ?_⟩
      · refine gEy.aload rfl rfl rfl ?_
        refine gEy.init0 rfl rfl rfl rfl ?_
        refine gEy.aload rfl rfl rfl ?_
        refine gEy.iconst rfl rfl ?_
        refine gEy.newI (n := 6) (a := 28) rfl rfl rfl rfl rfl ?_
        refine gEy.putR rfl rfl rfl rfl rfl ?_
        refine gEy.aload rfl rfl rfl ?_
        refine gEy.iconst rfl rfl ?_
        refine gEy.newI (n := 6) (a := 29) rfl rfl rfl rfl rfl ?_
        refine gEy.putR rfl rfl rfl rfl rfl ?_
        refine gEy.aload rfl rfl rfl ?_
        refine gEy.iconst rfl rfl ?_
        refine gEy.newI (n := 6) (a := 30) rfl rfl rfl rfl rfl ?_
        refine gEy.putR rfl rfl rfl rfl rfl ?_
        refine gEy.aload rfl rfl rfl ?_
        refine gEy.iconst rfl rfl ?_
        refine gEy.newI (n := 50) (a := 31) rfl rfl rfl rfl rfl ?_
        refine gEy.putR rfl rfl rfl rfl rfl ?_
        exact gEy.retv rfl rfl
      refine gEy.putR rfl rfl rfl rfl rfl ?_
      refine gEy.aload rfl rfl rfl ?_
      refine gEy.iconst rfl rfl ?_
      refine gEy.iconst rfl rfl ?_
      refine gEy.callV rfl rfl rfl rfl rfl rfl (t_Town_becomeNew (by decide) ?_ _ (town_new (w := 3) (h := 3) (by decide) (by decide) _)) ?_
      · exact (gHas.cons rfl (gHas.cons rfl (gHas.cons rfl (gHas.cons rfl (gHas.cons rfl (gHas.cons rfl (gHas.cons rfl (gHas.cons rfl (gHas.cons rfl (gHas.cons rfl (gHas.cons rfl (gHas.cons rfl (gHas.cons rfl (gHas.cons rfl (gHas.cons rfl (gHas.cons rfl (gHas.cons rfl (gHas.cons rfl (gHas.cons rfl (gHas.cons rfl (gHas.cons rfl (gHas.cons rfl (gHas.cons rfl (gHas.cons rfl (gHas.cons rfl (gHas.cons rfl (gHas.cons rfl (gHas.cons rfl (gHas.cons rfl (gHas.cons rfl (gHas.cons rfl gHas.nil)))))))))))))))))))))))))))))))
      exact gEy.retv rfl rfl
    refine gEy.putR rfl rfl rfl rfl rfl ?_
    refine gEy.aload rfl rfl rfl ?_
    refine gEy.iconst rfl rfl ?_
    refine gEy.newA (n := 3) (a := 32) rfl rfl rfl rfl rfl ?_
    refine gEy.putR rfl rfl rfl rfl rfl ?_
    refine gEy.aload rfl rfl rfl ?_
    refine gEy.iconst rfl rfl ?_
    refine gEy.newI (n := 6) (a := 33) rfl rfl rfl rfl rfl ?_
    refine gEy.putR rfl rfl rfl rfl rfl ?_
    refine gEy.aload rfl rfl rfl ?_
    refine gEy.new (a := 34) rfl rfl rfl rfl ?_
    refine gEy.dupR rfl rfl ?_
    refine gEy.special rfl rfl rfl rfl rfl ?_
    apply Exists.intro
    refine ⟨gR_ofy (mx := 1) rfl rfl (Nat.le_of_ble_eq_true rfl) ?_, ?_⟩
    · refine gEy.aload rfl rfl rfl ?_
      refine gEy.init0 rfl rfl rfl rfl ?_
      refine gEy.aload rfl rfl rfl ?_
      refine gEy.iconst rfl rfl ?_
      refine gEy.newI (n := 160) (a := 35) rfl rfl rfl rfl rfl ?_
      refine gEy.putR rfl rfl rfl rfl rfl ?_
      refine gEy.aload rfl rfl rfl ?_
      refine gEy.new (a := 36) rfl rfl rfl rfl ?_
      refine gEy.dupR rfl rfl ?_
      refine gEy.special rfl rfl rfl rfl rfl ?_
      apply Exists.intro
      refine ⟨gR_ofy (mx := 1) rfl rfl (Nat.le_of_ble_eq_true rfl) ?_, ?_⟩
      · refine gEy.aload rfl rfl rfl ?_
        refine gEy.init0 rfl rfl rfl rfl ?_
        refine gEy.aload rfl rfl rfl ?_
        refine gEy.iconst rfl rfl ?_
        refine gEy.newI (n := 12) (a := 37) rfl rfl rfl rfl rfl ?_
        refine gEy.putR rfl rfl rfl rfl rfl ?_
        refine gEy.aload rfl rfl rfl ?_
        refine gEy.iconst rfl rfl ?_
        refine gEy.newI (n := 12) (a := 38) rfl rfl rfl rfl rfl ?_
        refine gEy.putR rfl rfl rfl rfl rfl ?_
        refine gEy.aload rfl rfl rfl ?_
        refine gEy.iconst rfl rfl ?_
        refine gEy.newI (n := 12) (a := 39) rfl rfl rfl rfl rfl ?_
        refine gEy.putR rfl rfl rfl rfl rfl ?_
        refine gEy.aload rfl rfl rfl ?_
        refine gEy.iconst rfl rfl ?_
        refine gEy.newZ (n := 12) (a := 40) rfl rfl rfl rfl rfl ?_
        refine gEy.putR rfl rfl rfl rfl rfl ?_
        exact gEy.retv rfl rfl
      refine gEy.putR rfl rfl rfl rfl rfl ?_
      exact gEy.retv rfl rfl
    refine gEy.putR rfl rfl rfl rfl rfl ?_
    refine gEy.aload rfl rfl rfl ?_
    refine gEy.new (a := 41) rfl rfl rfl rfl ?_
    refine gEy.dupR rfl rfl ?_
    refine gEy.special rfl rfl rfl rfl rfl ?_
    apply Exists.intro
    refine ⟨gR_ofy (mx := 1) rfl rfl (Nat.le_of_ble_eq_true rfl) ?_, ?_⟩
    · refine gEy.aload rfl rfl rfl ?_
      refine gEy.init0 rfl rfl rfl rfl ?_
      refine gEy.aload rfl rfl rfl ?_
      refine gEy.iconst rfl rfl ?_
      refine gEy.newI (n := 12) (a := 42) rfl rfl rfl rfl rfl ?_
      refine gEy.putR rfl rfl rfl rfl rfl ?_
      refine gEy.aload rfl rfl rfl ?_
      refine gEy.iconst rfl rfl ?_
      refine gEy.newI (n := 12) (a := 43) rfl rfl rfl rfl rfl ?_
      refine gEy.putR rfl rfl rfl rfl rfl ?_
      refine gEy.aload rfl rfl rfl ?_
      refine gEy.iconst rfl rfl ?_
      refine gEy.newI (n := 12) (a := 44) rfl rfl rfl rfl rfl ?_
      refine gEy.putR rfl rfl rfl rfl rfl ?_
      refine gEy.aload rfl rfl rfl ?_
      refine gEy.iconst rfl rfl ?_
      refine gEy.newZ (n := 12) (a := 45) rfl rfl rfl rfl rfl ?_
      refine gEy.putR rfl rfl rfl rfl rfl ?_
      exact gEy.retv rfl rfl
    refine gEy.putR rfl rfl rfl rfl rfl ?_
    refine gEy.aload rfl rfl rfl ?_
    refine gEy.new (a := 46) rfl rfl rfl rfl ?_
    refine gEy.dupR rfl rfl ?_
    refine gEy.special rfl rfl rfl rfl rfl ?_
    apply Exists.intro
    refine ⟨gR_ofy (mx := 1) rfl rfl (Nat.le_of_ble_eq_true rfl) ?_, ?_⟩
    · refine gEy.aload rfl rfl rfl ?_
      refine gEy.init0 rfl rfl rfl rfl ?_
      refine gEy.aload rfl rfl rfl ?_
      refine gEy.iconst rfl rfl ?_
      refine gEy.newI (n := 9) (a := 47) rfl rfl rfl rfl rfl ?_
      refine gEy.putR rfl rfl rfl rfl rfl ?_
      refine gEy.aload rfl rfl rfl ?_
      refine gEy.iconst rfl rfl ?_
      refine gEy.newL (n := 4) (a := 48) rfl rfl rfl rfl rfl ?_
      refine gEy.putR rfl rfl rfl rfl rfl ?_
      refine gEy.aload rfl rfl rfl ?_
      refine gEy.iconst rfl rfl ?_
      refine gEy.newI (n := 144) (a := 49) rfl rfl rfl rfl rfl ?_
      refine gEy.putR rfl rfl rfl rfl rfl ?_
      refine gEy.aload rfl rfl rfl ?_
      refine gEy.iconst rfl rfl ?_
      refine gEy.newI (n := 144) (a := 50) rfl rfl rfl rfl rfl ?_
      refine gEy.putR rfl rfl rfl rfl rfl ?_
      refine gEy.aload rfl rfl rfl ?_
      refine gEy.iconst rfl rfl ?_
      refine gEy.newI (n := 144) (a := 51) rfl rfl rfl rfl rfl ?_
      refine gEy.putR rfl rfl rfl rfl rfl ?_
      refine gEy.aload rfl rfl rfl ?_
      refine gEy.iconst rfl rfl ?_
      refine gEy.newI (n := 144) (a := 52) rfl rfl rfl rfl rfl ?_
      refine gEy.putR rfl rfl rfl rfl rfl ?_
      refine gEy.aload rfl rfl rfl ?_
      refine gEy.iconst rfl rfl ?_
      refine gEy.newI (n := 324) (a := 53) rfl rfl rfl rfl rfl ?_
      refine gEy.putR rfl rfl rfl rfl rfl ?_
      exact gEy.retv rfl rfl
    refine gEy.putR rfl rfl rfl rfl rfl ?_
    refine gEy.aload rfl rfl rfl ?_
    refine gEy.new (a := 54) rfl rfl rfl rfl ?_
    refine gEy.dupR rfl rfl ?_
    refine gEy.special rfl rfl rfl rfl rfl ?_
    apply Exists.intro
    refine ⟨gR_ofy (mx := 1) rfl rfl (Nat.le_of_ble_eq_true rfl) ?_, ?_⟩
    · refine gEy.aload rfl rfl rfl ?_
      refine gEy.init0 rfl rfl rfl rfl ?_
      refine gEy.aload rfl rfl rfl ?_
      refine gEy.new (a := 55) rfl rfl rfl rfl ?_
      refine gEy.dupR rfl rfl ?_
      refine gEy.special rfl rfl rfl rfl rfl ?_
      apply Exists.intro
      refine ⟨gR_ofy (mx := 1) rfl rfl (Nat.le_of_ble_eq_true rfl) ?_, ?_⟩
      · refine gEy.aload rfl rfl rfl ?_
        refine gEy.init0 rfl rfl rfl rfl ?_
        refine gEy.aload rfl rfl rfl ?_
        refine gEy.iconst rfl rfl ?_
        refine gEy.newI (n := 36) (a := 56) rfl rfl rfl rfl rfl ?_
        refine gEy.putR rfl rfl rfl rfl rfl ?_
        refine gEy.aload rfl rfl rfl ?_
        refine gEy.iconst rfl rfl ?_
        refine gEy.newI (n := 36) (a := 57) rfl rfl rfl rfl rfl ?_
        refine gEy.putR rfl rfl rfl rfl rfl ?_
        refine gEy.aload rfl rfl rfl ?_
        refine gEy.iconst rfl rfl ?_
        refine gEy.newI (n := 36) (a := 58) rfl rfl rfl rfl rfl ?_
        refine gEy.putR rfl rfl rfl rfl rfl ?_
        refine gEy.aload rfl rfl rfl ?_
        refine gEy.iconst rfl rfl ?_
        refine gEy.newI (n := 36) (a := 59) rfl rfl rfl rfl rfl ?_
        refine gEy.putR rfl rfl rfl rfl rfl ?_
        refine gEy.aload rfl rfl rfl ?_
        refine gEy.iconst rfl rfl ?_
        refine gEy.newI (n := 36) (a := 60) rfl rfl rfl rfl rfl ?_
        refine gEy.putR rfl rfl rfl rfl rfl ?_
        refine gEy.aload rfl rfl rfl ?_
        refine gEy.iconst rfl rfl ?_
        refine gEy.newI (n := 36) (a := 61) rfl rfl rfl rfl rfl ?_
        refine gEy.putR rfl rfl rfl rfl rfl ?_
        exact gEy.retv rfl rfl
      refine gEy.putR rfl rfl rfl rfl rfl ?_
      refine gEy.aload rfl rfl rfl ?_
      refine gEy.new (a := 62) rfl rfl rfl rfl ?_
      refine gEy.dupR rfl rfl ?_
      refine gEy.special rfl rfl rfl rfl rfl ?_
      apply Exists.intro
      refine ⟨gR_ofy (mx := 1) rfl rfl (Nat.le_of_ble_eq_true rfl) ?_, ?_⟩
      · refine gEy.aload rfl rfl rfl ?_
        refine gEy.init0 rfl rfl rfl rfl ?_
        refine gEy.aload rfl rfl rfl ?_
        refine gEy.iconst rfl rfl ?_
        refine gEy.newI (n := 9) (a := 63) rfl rfl rfl rfl rfl ?_
        refine gEy.putR rfl rfl rfl rfl rfl ?_
        refine gEy.aload rfl rfl rfl ?_
        refine gEy.iconst rfl rfl ?_
        refine gEy.newL (n := 4) (a := 64) rfl rfl rfl rfl rfl ?_
        refine gEy.putR rfl rfl rfl rfl rfl ?_
        refine gEy.aload rfl rfl rfl ?_
        refine gEy.iconst rfl rfl ?_
        refine gEy.newI (n := 144) (a := 65) rfl rfl rfl rfl rfl ?_
        refine gEy.putR rfl rfl rfl rfl rfl ?_
        refine gEy.aload rfl rfl rfl ?_
        refine gEy.iconst rfl rfl ?_
        refine gEy.newI (n := 144) (a := 66) rfl rfl rfl rfl rfl ?_
        refine gEy.putR rfl rfl rfl rfl rfl ?_
        refine gEy.aload rfl rfl rfl ?_
        refine gEy.iconst rfl rfl ?_
        refine gEy.newI (n := 144) (a := 67) rfl rfl rfl rfl rfl ?_
        refine gEy.putR rfl rfl rfl rfl rfl ?_
        refine gEy.aload rfl rfl rfl ?_
        refine gEy.iconst rfl rfl ?_
        refine gEy.newI (n := 144) (a := 68) rfl rfl rfl rfl rfl ?_
        refine gEy.putR rfl rfl rfl rfl rfl ?_
        refine gEy.aload rfl rfl rfl ?_
        refine gEy.iconst rfl rfl ?_
        refine gEy.newI (n := 324) (a := 69) rfl rfl rfl rfl rfl ?_
        refine gEy.putR rfl rfl rfl rfl rfl ?_
        exact gEy.retv rfl rfl
      refine gEy.putR rfl rfl rfl rfl rfl ?_
      refine gEy.aload rfl rfl rfl ?_
      refine gEy.iconst rfl rfl ?_
      refine gEy.newI (n := 6) (a := 70) rfl rfl rfl rfl rfl ?_
      refine gEy.putR rfl rfl rfl rfl rfl ?_
      refine gEy.aload rfl rfl rfl ?_
      refine gEy.iconst rfl rfl ?_
      refine gEy.newI (n := 64) (a := 71) rfl rfl rfl rfl rfl ?_
      refine gEy.putR rfl rfl rfl rfl rfl ?_
      exact gEy.retv rfl rfl
    refine gEy.putR rfl rfl rfl rfl rfl ?_
    refine gEy.aload rfl rfl rfl ?_
    refine gEy.iconst rfl rfl ?_
    refine gEy.newA (n := 4) (a := 72) rfl rfl rfl rfl rfl ?_
    refine gEy.putR rfl rfl rfl rfl rfl ?_
    refine gEy.aload rfl rfl rfl ?_
    refine gEy.getR rfl rfl rfl rfl ?_
    refine gEy.iconst rfl rfl ?_
    refine gEy.callS rfl rfl rfl rfl rfl (t_fill (by decide) (n0 := 6) ?_ _ (f_fill_eq _ _ _ _ (by decide))) ?_
    · rfl
    refine gEy.iconst rfl rfl ?_
    refine gEy.istore (ls' := [some (.ref 0), some (.int 0)]) rfl rfl rfl ?_
    refine gEy.lab (ls' := [some (.ref 0), some (.int 0)]) rfl rfl ?_
    refine gEy.iload rfl rfl rfl ?_
    refine gEy.iconst rfl rfl ?_
    refine gEy.lt_go (by decide) rfl rfl ?_
    refine gEy.aload rfl rfl rfl ?_
    refine gEy.getR rfl rfl rfl rfl ?_
    refine gEy.iload rfl rfl rfl ?_
    refine gEy.new (a := 73) rfl rfl rfl rfl ?_
    refine gEy.dupR rfl rfl ?_
    refine gEy.special rfl rfl rfl rfl rfl ?_
    apply Exists.intro
    refine ⟨gR_ofy (mx := 1) rfl rfl (Nat.le_of_ble_eq_true rfl) ?_, ?_⟩
    · refine gEy.aload rfl rfl rfl ?_
      refine gEy.init0 rfl rfl rfl rfl ?_
      refine gEy.aload rfl rfl rfl ?_
      refine gEy.iconst rfl rfl ?_
      refine gEy.putI rfl rfl rfl rfl rfl rfl ?_
      refine gEy.aload rfl rfl rfl ?_
      refine gEy.iconst rfl rfl ?_
      refine gEy.newI (n := 72) (a := 74) rfl rfl rfl rfl rfl ?_
      refine gEy.putR rfl rfl rfl rfl rfl ?_
      exact gEy.retv rfl rfl
    refine gEy.aast (j := 0) rfl rfl rfl rfl rfl rfl rfl ?_
    refine gEy.iinc (y := 1) (ls' := [some (.ref 0), some (.int 1)]) rfl rfl rfl rfl rfl ?_
    refine gEy.goto (tn := 94) rfl rfl rfl ?_
    refine gEy.lab (ls' := [some (.ref 0), some (.int 1)]) rfl rfl ?_
    refine gEy.iload rfl rfl rfl ?_
    refine gEy.iconst rfl rfl ?_
    refine gEy.lt_go (by decide) rfl rfl ?_
    refine gEy.aload rfl rfl rfl ?_
    refine gEy.getR rfl rfl rfl rfl ?_
    refine gEy.iload rfl rfl rfl ?_
    refine gEy.new (a := 75) rfl rfl rfl rfl ?_
    refine gEy.dupR rfl rfl ?_
    refine gEy.special rfl rfl rfl rfl rfl ?_
    apply Exists.intro
    refine ⟨gR_ofy (mx := 1) rfl rfl (Nat.le_of_ble_eq_true rfl) ?_, ?_⟩
    · refine gEy.aload rfl rfl rfl ?_
      refine gEy.init0 rfl rfl rfl rfl ?_
      refine gEy.aload rfl rfl rfl ?_
      refine gEy.iconst rfl rfl ?_
      refine gEy.putI rfl rfl rfl rfl rfl rfl ?_
      refine gEy.aload rfl rfl rfl ?_
      refine gEy.iconst rfl rfl ?_
      refine gEy.newI (n := 72) (a := 76) rfl rfl rfl rfl rfl ?_
      refine gEy.putR rfl rfl rfl rfl rfl ?_
      exact gEy.retv rfl rfl
    refine gEy.aast (j := 1) rfl rfl rfl rfl rfl rfl rfl ?_
    refine gEy.iinc (y := 2) (ls' := [some (.ref 0), some (.int 2)]) rfl rfl rfl rfl rfl ?_
    refine gEy.goto (tn := 94) rfl rfl rfl ?_
    refine gEy.lab (ls' := [some (.ref 0), some (.int 2)]) rfl rfl ?_
    refine gEy.iload rfl rfl rfl ?_
    refine gEy.iconst rfl rfl ?_
    refine gEy.lt_go (by decide) rfl rfl ?_
    refine gEy.aload rfl rfl rfl ?_
    refine gEy.getR rfl rfl rfl rfl ?_
    refine gEy.iload rfl rfl rfl ?_
    refine gEy.new (a := 77) rfl rfl rfl rfl ?_
    refine gEy.dupR rfl rfl ?_
    refine gEy.special rfl rfl rfl rfl rfl ?_
    apply Exists.intro
    refine ⟨gR_ofy (mx := 1) rfl rfl (Nat.le_of_ble_eq_true rfl) ?_, ?_⟩
    · refine gEy.aload rfl rfl rfl ?_
      refine gEy.init0 rfl rfl rfl rfl ?_
      refine gEy.aload rfl rfl rfl ?_
      refine gEy.iconst rfl rfl ?_
      refine gEy.putI rfl rfl rfl rfl rfl rfl ?_
      refine gEy.aload rfl rfl rfl ?_
      refine gEy.iconst rfl rfl ?_
      refine gEy.newI (n := 72) (a := 78) rfl rfl rfl rfl rfl ?_
      refine gEy.putR rfl rfl rfl rfl rfl ?_
      exact gEy.retv rfl rfl
    refine gEy.aast (j := 2) rfl rfl rfl rfl rfl rfl rfl ?_
    refine gEy.iinc (y := 3) (ls' := [some (.ref 0), some (.int 3)]) rfl rfl rfl rfl rfl ?_
    refine gEy.goto (tn := 94) rfl rfl rfl ?_
    refine gEy.lab (ls' := [some (.ref 0), some (.int 3)]) rfl rfl ?_
    refine gEy.iload rfl rfl rfl ?_
    refine gEy.iconst rfl rfl ?_
    refine gEy.lt_go (by decide) rfl rfl ?_
    refine gEy.aload rfl rfl rfl ?_
    refine gEy.getR rfl rfl rfl rfl ?_
    refine gEy.iload rfl rfl rfl ?_
    refine gEy.new (a := 79) rfl rfl rfl rfl ?_
    refine gEy.dupR rfl rfl ?_
    refine gEy.special rfl rfl rfl rfl rfl ?_
    apply Exists.intro
    refine ⟨gR_ofy (mx := 1) rfl rfl (Nat.le_of_ble_eq_true rfl) ?_, ?_⟩
    · refine gEy.aload rfl rfl rfl ?_
      refine gEy.init0 rfl rfl rfl rfl ?_
      refine gEy.aload rfl rfl rfl ?_
      refine gEy.iconst rfl rfl ?_
      refine gEy.putI rfl rfl rfl rfl rfl rfl ?_
      refine gEy.aload rfl rfl rfl ?_
      refine gEy.iconst rfl rfl ?_
      refine gEy.newI (n := 72) (a := 80) rfl rfl rfl rfl rfl ?_
      refine gEy.putR rfl rfl rfl rfl rfl ?_
      exact gEy.retv rfl rfl
    refine gEy.aast (j := 3) rfl rfl rfl rfl rfl rfl rfl ?_
    refine gEy.iinc (y := 4) (ls' := [some (.ref 0), some (.int 4)]) rfl rfl rfl rfl rfl ?_
    refine gEy.goto (tn := 94) rfl rfl rfl ?_
    refine gEy.lab (ls' := [some (.ref 0), some (.int 4)]) rfl rfl ?_
    refine gEy.iload rfl rfl rfl ?_
    refine gEy.iconst rfl rfl ?_
    refine gEy.ge_go (tn := 118) rfl (by decide) rfl rfl ?_
    exact gEy.retv rfl rfl
  · rfl
  · exact (gHas.cons rfl (gHas.cons rfl (gHas.cons rfl (gHas.cons rfl (gHas.cons rfl (gHas.cons rfl (gHas.cons rfl (gHas.cons rfl (gHas.cons rfl (gHas.cons rfl (gHas.cons rfl (gHas.cons rfl (gHas.cons rfl (gHas.cons rfl (gHas.cons rfl (gHas.cons rfl (gHas.cons rfl (gHas.cons rfl (gHas.cons rfl (gHas.cons rfl (gHas.cons rfl (gHas.cons rfl (gHas.cons rfl (gHas.cons rfl (gHas.cons rfl (gHas.cons rfl (gHas.cons rfl (gHas.cons rfl (gHas.cons rfl (gHas.cons rfl (gHas.cons rfl (gHas.cons rfl (gHas.cons rfl (gHas.cons rfl (gHas.cons rfl (gHas.cons rfl (gHas.cons rfl (gHas.cons rfl (gHas.cons rfl (gHas.cons rfl (gHas.cons rfl (gHas.cons rfl (gHas.cons rfl (gHas.cons rfl (gHas.cons rfl (gHas.cons rfl (gHas.cons rfl (gHas.cons rfl (gHas.cons rfl (gHas.cons rfl (gHas.cons rfl (gHas.cons rfl (gHas.cons rfl (gHas.cons rfl (gHas.cons rfl (gHas.cons rfl (gHas.cons rfl (gHas.cons rfl (gHas.cons rfl (gHas.cons rfl (gHas.cons rfl (gHas.cons rfl (gHas.cons rfl (gHas.cons rfl (gHas.cons rfl (gHas.cons rfl (gHas.cons rfl (gHas.cons rfl (gHas.cons rfl (gHas.cons rfl (gHas.cons rfl (gHas.cons rfl (gHas.cons rfl (gHas.cons rfl (gHas.cons rfl (gHas.cons rfl (gHas.cons rfl (gHas.cons rfl (gHas.cons rfl (gHas.cons rfl (gHas.cons rfl gHas.nil)))))))))))))))))))))))))))))))))))))))))))))))))))))))))))))))))))))))))))))))))
  · intro id q hid
    match id, hid with
    | 0, _ => rfl
    | 1, _ => exact (gTnew_r0 _ 1 3 3 q).trans (ite_self _)
    | 2, _ => exact gTnew_r1 _ 1 3 3 q
    | 3, _ => exact gTnew_r2 _ 1 3 3 q
    | 4, _ => exact gTnew_r3 _ 1 3 3 q
    | 5, _ => exact gTnew_r4 _ 1 3 3 q
    | 6, _ => exact gTnew_r5 _ 1 3 3 q
    | 7, _ => exact (gTnew_r6 _ 1 3 3 q).trans (ite_self _)
    | 8, _ => exact (gTnew_r7 _ 1 3 3 q).trans (ite_self _)
    | 9, _ => exact (gTnew_r8 _ 1 3 3 q).trans (ite_self _)
    | 10, _ => exact gTnew_r9 _ 1 3 3 q
    | 11, _ => exact (gTnew_r10 _ 1 3 3 q).trans (ite_self _)
    | 12, _ => exact (gTnew_r11 _ 1 3 3 q).trans (ite_self _)
    | 13, _ => exact gTnew_r12 _ 1 3 3 q
    | 14, _ => exact gTnew_r13 _ 1 3 3 q
    | 15, _ => exact gTnew_r14 _ 1 3 3 q
    | 16, _ => exact gTnew_r15 _ 1 3 3 q
    | 17, _ => exact gTnew_r16 _ 1 3 3 q
    | 18, _ => exact (gTnew_r17 _ 1 3 3 q).trans (ite_self _)
    | 19, _ => exact gTnew_r18 _ 1 3 3 q
    | 20, _ => exact gTnew_r19 _ 1 3 3 q
    | 21, _ => exact gTnew_r20 _ 1 3 3 q
    | 22, _ => exact gTnew_r21 _ 1 3 3 q
    | 23, _ => exact (gTnew_r22 _ 1 3 3 q).trans (ite_self _)
    | 24, _ => exact (gTnew_r23 _ 1 3 3 q).trans (ite_self _)
    | 25, _ => exact (gTnew_r24 _ 1 3 3 q).trans (ite_self _)
    | 26, _ => exact (gTnew_r25 _ 1 3 3 q).trans (ite_self _)
    | 27, _ => exact gTnew_r26 _ 1 3 3 q
    | 28, _ => exact (gTnew_r27 _ 1 3 3 q).trans (ite_self _)
    | 29, _ => exact (gTnew_r28 _ 1 3 3 q).trans (ite_self _)
    | 30, _ => exact (gTnew_r29 _ 1 3 3 q).trans (ite_self _)
    | 31, _ => exact (gTnew_r30 _ 1 3 3 q).trans (ite_self _)
    | 32, _ => rfl
    | 33, _ => exact (match q with | 0 => rfl | 1 => rfl | 2 => rfl | 3 => rfl | 4 => rfl | 5 => rfl | q + 6 => rfl)
    | 34, _ => rfl
    | 35, _ => rfl
    | 36, _ => rfl
    | 37, _ => rfl
    | 38, _ => rfl
    | 39, _ => rfl
    | 40, _ => rfl
    | 41, _ => rfl
    | 42, _ => rfl
    | 43, _ => rfl
    | 44, _ => rfl
    | 45, _ => rfl
    | 46, _ => rfl
    | 47, _ => rfl
    | 48, _ => rfl
    | 49, _ => rfl
    | 50, _ => rfl
    | 51, _ => rfl
    | 52, _ => rfl
    | 53, _ => rfl
    | 54, _ => rfl
    | 55, _ => rfl
    | 56, _ => rfl
    | 57, _ => rfl
    | 58, _ => rfl
    | 59, _ => rfl
    | 60, _ => rfl
    | 61, _ => rfl
    | 62, _ => rfl
    | 63, _ => rfl
    | 64, _ => rfl
    | 65, _ => rfl
    | 66, _ => rfl
    | 67, _ => rfl
    | 68, _ => rfl
    | 69, _ => rfl
    | 70, _ => rfl
    | 71, _ => rfl
    | 72, _ => rfl
    | 73, _ => exact (match q with | 0 => rfl | q + 1 => rfl)
    | 74, _ => rfl
    | 75, _ => exact (match q with | 0 => rfl | q + 1 => rfl)
    | 76, _ => rfl
    | 77, _ => exact (match q with | 0 => rfl | q + 1 => rfl)
    | 78, _ => rfl
    | 79, _ => exact (match q with | 0 => rfl | q + 1 => rfl)
    | 80, _ => rfl
    | id + 81, h => exact absurd h (by omega)
