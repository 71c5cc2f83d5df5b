/-! ===== the makers (by program) ===== -/
def gs0 : gS := ((fun _ => none, 0), (fun _ _ => 0, fun _ _ => 0))
set_option maxRecDepth 100000 in
set_option maxHeartbeats 8000000 in
theorem made_OT : ∃ s1 : gS, gR gmi gdf gcd 10 108 [.ref 0] (gmkO gs0 11) (none, s1) ∧ s1.1.2 = 81 ∧ gHas s1.1.1 0 (gsh_OT [none, none, none]) := by
  apply Exists.intro
  refine ⟨gR_ofy (mx := 2) rfl rfl (Nat.le_of_ble_eq_true rfl) ?_, ?_, ?_⟩
  · refine gEy.aload rfl rfl rfl ?_
    refine gEy.init0 rfl rfl rfl rfl ?_
    refine gEy.aload rfl rfl rfl ?_
    refine gEy.new (a := 1) rfl rfl rfl rfl ?_
    refine gEy.dupR rfl rfl ?_
    refine gEy.special rfl rfl rfl rfl rfl ?_
    apply Exists.intro
    refine ⟨gR_ofy (mx := 1) rfl rfl (Nat.le_of_ble_eq_true rfl) ?_, ?_⟩
    · refine gEy.aload rfl rfl rfl ?_
      refine gEy.init0 rfl rfl rfl rfl ?_
      refine gEy.aload rfl rfl rfl ?_
      refine gEy.new (a := 2) rfl rfl rfl rfl ?_
      refine gEy.dupR rfl rfl ?_
      refine gEy.special rfl rfl rfl rfl rfl ?_
      apply Exists.intro
      refine ⟨gR_ofy (mx := 1) rfl rfl (Nat.le_of_ble_eq_true rfl) ?_, ?_⟩
      · refine gEy.aload rfl rfl rfl ?_
        refine gEy.init0 rfl rfl rfl rfl ?_
        refine gEy.aload rfl rfl rfl ?_
        refine gEy.new (a := 3) rfl rfl rfl rfl ?_
        refine gEy.dupR rfl rfl ?_
        refine gEy.special rfl rfl rfl rfl rfl ?_
        apply Exists.intro
        refine ⟨gR_ofy (mx := 1) rfl rfl (Nat.le_of_ble_eq_true rfl) ?_, ?_⟩
        · refine gEy.aload rfl rfl rfl ?_
          refine gEy.init0 rfl rfl rfl rfl ?_
          refine gEy.aload rfl rfl rfl ?_
          refine gEy.iconst rfl rfl ?_
          refine gEy.newI (n := 36) (a := 4) rfl rfl rfl rfl rfl ?_
          refine gEy.putR rfl rfl rfl rfl rfl ?_
          refine gEy.aload rfl rfl rfl ?_
          refine gEy.iconst rfl rfl ?_
          refine gEy.newI (n := 36) (a := 5) rfl rfl rfl rfl rfl ?_
          refine gEy.putR rfl rfl rfl rfl rfl ?_
          refine gEy.aload rfl rfl rfl ?_
          refine gEy.iconst rfl rfl ?_
          refine gEy.newI (n := 36) (a := 6) rfl rfl rfl rfl rfl ?_
          refine gEy.putR rfl rfl rfl rfl rfl ?_
          refine gEy.aload rfl rfl rfl ?_
          refine gEy.iconst rfl rfl ?_
          refine gEy.newI (n := 36) (a := 7) rfl rfl rfl rfl rfl ?_
          refine gEy.putR rfl rfl rfl rfl rfl ?_
          refine gEy.aload rfl rfl rfl ?_
          refine gEy.iconst rfl rfl ?_
          refine gEy.newI (n := 36) (a := 8) rfl rfl rfl rfl rfl ?_
          refine gEy.putR rfl rfl rfl rfl rfl ?_
          refine gEy.aload rfl rfl rfl ?_
          refine gEy.iconst rfl rfl ?_
          refine gEy.newI (n := 36) (a := 9) rfl rfl rfl rfl rfl ?_
          refine gEy.putR rfl rfl rfl rfl rfl ?_
          exact gEy.retv rfl rfl
        refine gEy.putR rfl rfl rfl rfl rfl ?_
        refine gEy.aload rfl rfl rfl ?_
        refine gEy.iconst rfl rfl ?_
        refine gEy.newI (n := 36) (a := 10) rfl rfl rfl rfl rfl ?_
        refine gEy.putR rfl rfl rfl rfl rfl ?_
        refine gEy.aload rfl rfl rfl ?_
        refine gEy.iconst rfl rfl ?_
        refine gEy.newI (n := 324) (a := 11) rfl rfl rfl rfl rfl ?_
        refine gEy.putR rfl rfl rfl rfl rfl ?_
        exact gEy.retv rfl rfl
      refine gEy.putR rfl rfl rfl rfl rfl ?_
      refine gEy.aload rfl rfl rfl ?_
      refine gEy.new (a := 12) rfl rfl rfl rfl ?_
      refine gEy.dupR rfl rfl ?_
      refine gEy.special rfl rfl rfl rfl rfl ?_
      apply Exists.intro
      refine ⟨gR_ofy (mx := 1) rfl rfl (Nat.le_of_ble_eq_true rfl) ?_, ?_⟩
      · refine gEy.aload rfl rfl rfl ?_
        refine gEy.init0 rfl rfl rfl rfl ?_
        refine gEy.aload rfl rfl rfl ?_
        refine gEy.iconst rfl rfl ?_
        refine gEy.newI (n := 8) (a := 13) rfl rfl rfl rfl rfl ?_
        refine gEy.putR rfl rfl rfl rfl rfl ?_
        refine gEy.aload rfl rfl rfl ?_
        refine gEy.iconst rfl rfl ?_
        refine gEy.newI (n := 12) (a := 14) rfl rfl rfl rfl rfl ?_
        refine gEy.putR rfl rfl rfl rfl rfl ?_
        refine gEy.aload rfl rfl rfl ?_
        refine gEy.iconst rfl rfl ?_
        refine gEy.newI (n := 12) (a := 15) rfl rfl rfl rfl rfl ?_
        refine gEy.putR rfl rfl rfl rfl rfl ?_
        refine gEy.aload rfl rfl rfl ?_
        refine gEy.iconst rfl rfl ?_
        refine gEy.newI (n := 12) (a := 16) rfl rfl rfl rfl rfl ?_
        refine gEy.putR rfl rfl rfl rfl rfl ?_
        refine gEy.aload rfl rfl rfl ?_
        refine gEy.iconst rfl rfl ?_
        refine gEy.newI (n := 12) (a := 17) rfl rfl rfl rfl rfl ?_
        refine gEy.putR rfl rfl rfl rfl rfl ?_
        exact gEy.retv rfl rfl
      refine gEy.putR rfl rfl rfl rfl rfl ?_
      refine gEy.aload rfl rfl rfl ?_
      refine gEy.new (a := 18) rfl rfl rfl rfl ?_
      refine gEy.dupR rfl rfl ?_
      refine gEy.special rfl rfl rfl rfl rfl ?_
      apply Exists.intro
      refine ⟨gR_ofy (mx := 1) rfl rfl (Nat.le_of_ble_eq_true rfl) ?_, ?_⟩
      · refine gEy.aload rfl rfl rfl ?_
        refine gEy.init0 rfl rfl rfl rfl ?_
        refine gEy.aload rfl rfl rfl ?_
        refine gEy.iconst rfl rfl ?_
        refine gEy.newI (n := 10) (a := 19) rfl rfl rfl rfl rfl ?_
        refine gEy.putR rfl rfl rfl rfl rfl ?_
        refine gEy.aload rfl rfl rfl ?_
        refine gEy.iconst rfl rfl ?_
        refine gEy.newI (n := 10) (a := 20) rfl rfl rfl rfl rfl ?_
        refine gEy.putR rfl rfl rfl rfl rfl ?_
        refine gEy.aload rfl rfl rfl ?_
        refine gEy.iconst rfl rfl ?_
        refine gEy.newI (n := 10) (a := 21) rfl rfl rfl rfl rfl ?_
        refine gEy.putR rfl rfl rfl rfl rfl ?_
        refine gEy.aload rfl rfl rfl ?_
        refine gEy.iconst rfl rfl ?_
        refine gEy.newZ (n := 10) (a := 22) rfl rfl rfl rfl rfl ?_
        refine gEy.putR rfl rfl rfl rfl rfl ?_
        refine gEy.aload rfl rfl rfl ?_
        refine gEy.iconst rfl rfl ?_
        refine gEy.newI (n := 10) (a := 23) rfl rfl rfl rfl rfl ?_
        refine gEy.putR rfl rfl rfl rfl rfl ?_
        refine gEy.aload rfl rfl rfl ?_
        refine gEy.iconst rfl rfl ?_
        refine gEy.newI (n := 10) (a := 24) rfl rfl rfl rfl rfl ?_
        refine gEy.putR rfl rfl rfl rfl rfl ?_
        refine gEy.aload rfl rfl rfl ?_
        refine gEy.iconst rfl rfl ?_
        refine gEy.newI (n := 90) (a := 25) rfl rfl rfl rfl rfl ?_
        refine gEy.putR rfl rfl rfl rfl rfl ?_
        refine gEy.aload rfl rfl rfl ?_
        refine gEy.iconst rfl rfl ?_
        refine gEy.newI (n := 500) (a := 26) rfl rfl rfl rfl rfl ?_
        refine gEy.putR rfl rfl rfl rfl rfl ?_
        exact gEy.retv rfl rfl
      refine gEy.putR rfl rfl rfl rfl rfl ?_
      refine gEy.aload rfl rfl rfl ?_
      refine gEy.new (a := 27) rfl rfl rfl rfl ?_
      refine gEy.dupR rfl rfl ?_
      refine gEy.special rfl rfl rfl rfl rfl ?_
      apply Exists.intro
      refine ⟨gR_ofy (mx := 1) rfl rfl (Nat.le_of_ble_eq_true rfl) ?_, ?_⟩
      · refine gEy.aload rfl rfl rfl ?_
        refine gEy.init0 rfl rfl rfl rfl ?_
        refine gEy.aload rfl rfl rfl ?_
        refine gEy.iconst rfl rfl ?_
        refine gEy.newI (n := 6) (a := 28) rfl rfl rfl rfl rfl ?_
        refine gEy.putR rfl rfl rfl rfl rfl ?_
        refine gEy.aload rfl rfl rfl ?_
        refine gEy.iconst rfl rfl ?_
        refine gEy.newI (n := 6) (a := 29) rfl rfl rfl rfl rfl ?_
        refine gEy.putR rfl rfl rfl rfl rfl ?_
        refine gEy.aload rfl rfl rfl ?_
        refine gEy.iconst rfl rfl ?_
        refine gEy.newI (n := 6) (a := 30) rfl rfl rfl rfl rfl ?_
        refine gEy.putR rfl rfl rfl rfl rfl ?_
        refine gEy.aload rfl rfl rfl ?_
        refine gEy.iconst rfl rfl ?_
        refine gEy.newI (n := 50) (a := 31) rfl rfl rfl rfl rfl ?_
        refine gEy.putR rfl rfl rfl rfl rfl ?_
        exact gEy.retv rfl rfl
      refine gEy.putR rfl rfl rfl rfl rfl ?_
      refine gEy.aload rfl rfl rfl ?_
      refine gEy.iconst rfl rfl ?_
      refine gEy.iconst rfl rfl ?_
      refine gEy.callV rfl rfl rfl rfl rfl rfl (t_Town_becomeNew (by decide) ?_ _ (town_new (w := 3) (h := 3) (by decide) (by decide) _)) ?_
      · exact (gHas.cons rfl (gHas.cons rfl (gHas.cons rfl (gHas.cons rfl (gHas.cons rfl (gHas.cons rfl (gHas.cons rfl (gHas.cons rfl (gHas.cons rfl (gHas.cons rfl (gHas.cons rfl (gHas.cons rfl (gHas.cons rfl (gHas.cons rfl (gHas.cons rfl (gHas.cons rfl (gHas.cons rfl (gHas.cons rfl (gHas.cons rfl (gHas.cons rfl (gHas.cons rfl (gHas.cons rfl (gHas.cons rfl (gHas.cons rfl (gHas.cons rfl (gHas.cons rfl (gHas.cons rfl (gHas.cons rfl (gHas.cons rfl (gHas.cons rfl (gHas.cons rfl gHas.nil)))))))))))))))))))))))))))))))
      exact gEy.retv rfl rfl
    refine gEy.putR rfl rfl rfl rfl rfl ?_
    refine gEy.aload rfl rfl rfl ?_
    refine gEy.iconst rfl rfl ?_
    refine gEy.newA (n := 3) (a := 32) rfl rfl rfl rfl rfl ?_
    refine gEy.putR rfl rfl rfl rfl rfl ?_
    refine gEy.aload rfl rfl rfl ?_
    refine gEy.iconst rfl rfl ?_
    refine gEy.newI (n := 6) (a := 33) rfl rfl rfl rfl rfl ?_
    refine gEy.putR rfl rfl rfl rfl rfl ?_
    refine gEy.aload rfl rfl rfl ?_
    refine gEy.new (a := 34) rfl rfl rfl rfl ?_
    refine gEy.dupR rfl rfl ?_
    refine gEy.special rfl rfl rfl rfl rfl ?_
    apply Exists.intro
    refine ⟨gR_ofy (mx := 1) rfl rfl (Nat.le_of_ble_eq_true rfl) ?_, ?_⟩
    · refine gEy.aload rfl rfl rfl ?_
      refine gEy.init0 rfl rfl rfl rfl ?_
      refine gEy.aload rfl rfl rfl ?_
      refine gEy.iconst rfl rfl ?_
      refine gEy.newI (n := 160) (a := 35) rfl rfl rfl rfl rfl ?_
      refine gEy.putR rfl rfl rfl rfl rfl ?_
      refine gEy.aload rfl rfl rfl ?_
      refine gEy.new (a := 36) rfl rfl rfl rfl ?_
      refine gEy.dupR rfl rfl ?_
      refine gEy.special rfl rfl rfl rfl rfl ?_
      apply Exists.intro
      refine ⟨gR_ofy (mx := 1) rfl rfl (Nat.le_of_ble_eq_true rfl) ?_, ?_⟩
      · refine gEy.aload rfl rfl rfl ?_
        refine gEy.init0 rfl rfl rfl rfl ?_
        refine gEy.aload rfl rfl rfl ?_
        refine gEy.iconst rfl rfl ?_
        refine gEy.newI (n := 12) (a := 37) rfl rfl rfl rfl rfl ?_
        refine gEy.putR rfl rfl rfl rfl rfl ?_
        refine gEy.aload rfl rfl rfl ?_
        refine gEy.iconst rfl rfl ?_
        refine gEy.newI (n := 12) (a := 38) rfl rfl rfl rfl rfl ?_
        refine gEy.putR rfl rfl rfl rfl rfl ?_
        refine gEy.aload rfl rfl rfl ?_
        refine gEy.iconst rfl rfl ?_
        refine gEy.newI (n := 12) (a := 39) rfl rfl rfl rfl rfl ?_
        refine gEy.putR rfl rfl rfl rfl rfl ?_
        refine gEy.aload rfl rfl rfl ?_
        refine gEy.iconst rfl rfl ?_
        refine gEy.newZ (n := 12) (a := 40) rfl rfl rfl rfl rfl ?_
        refine gEy.putR rfl rfl rfl rfl rfl ?_
        exact gEy.retv rfl rfl
      refine gEy.putR rfl rfl rfl rfl rfl ?_
      exact gEy.retv rfl rfl
    refine gEy.putR rfl rfl rfl rfl rfl ?_
    refine gEy.aload rfl rfl rfl ?_
    refine gEy.new (a := 41) rfl rfl rfl rfl ?_
    refine gEy.dupR rfl rfl ?_
    refine gEy.special rfl rfl rfl rfl rfl ?_
    apply Exists.intro
    refine ⟨gR_ofy (mx := 1) rfl rfl (Nat.le_of_ble_eq_true rfl) ?_, ?_⟩
    · refine gEy.aload rfl rfl rfl ?_
      refine gEy.init0 rfl rfl rfl rfl ?_
      refine gEy.aload rfl rfl rfl ?_
      refine gEy.iconst rfl rfl ?_
      refine gEy.newI (n := 12) (a := 42) rfl rfl rfl rfl rfl ?_
      refine gEy.putR rfl rfl rfl rfl rfl ?_
      refine gEy.aload rfl rfl rfl ?_
      refine gEy.iconst rfl rfl ?_
      refine gEy.newI (n := 12) (a := 43) rfl rfl rfl rfl rfl ?_
      refine gEy.putR rfl rfl rfl rfl rfl ?_
      refine gEy.aload rfl rfl rfl ?_
      refine gEy.iconst rfl rfl ?_
      refine gEy.newI (n := 12) (a := 44) rfl rfl rfl rfl rfl ?_
      refine gEy.putR rfl rfl rfl rfl rfl ?_
      refine gEy.aload rfl rfl rfl ?_
      refine gEy.iconst rfl rfl ?_
      refine gEy.newZ (n := 12) (a := 45) rfl rfl rfl rfl rfl ?_
      refine gEy.putR rfl rfl rfl rfl rfl ?_
      exact gEy.retv rfl rfl
    refine gEy.putR rfl rfl rfl rfl rfl ?_
    refine gEy.aload rfl rfl rfl ?_
    refine gEy.new (a := 46) rfl rfl rfl rfl ?_
    refine gEy.dupR rfl rfl ?_
    refine gEy.special rfl rfl rfl rfl rfl ?_
    apply Exists.intro
    refine ⟨gR_ofy (mx := 1) rfl rfl (Nat.le_of_ble_eq_true rfl) ?_, ?_⟩
    · refine gEy.aload rfl rfl rfl ?_
      refine gEy.init0 rfl rfl rfl rfl ?_
      refine gEy.aload rfl rfl rfl ?_
      refine gEy.iconst rfl rfl ?_
      refine gEy.newI (n := 9) (a := 47) rfl rfl rfl rfl rfl ?_
      refine gEy.putR rfl rfl rfl rfl rfl ?_
      refine gEy.aload rfl rfl rfl ?_
      refine gEy.iconst rfl rfl ?_
      refine gEy.newL (n := 4) (a := 48) rfl rfl rfl rfl rfl ?_
      refine gEy.putR rfl rfl rfl rfl rfl ?_
      refine gEy.aload rfl rfl rfl ?_
      refine gEy.iconst rfl rfl ?_
      refine gEy.newI (n := 144) (a := 49) rfl rfl rfl rfl rfl ?_
      refine gEy.putR rfl rfl rfl rfl rfl ?_
      refine gEy.aload rfl rfl rfl ?_
      refine gEy.iconst rfl rfl ?_
      refine gEy.newI (n := 144) (a := 50) rfl rfl rfl rfl rfl ?_
      refine gEy.putR rfl rfl rfl rfl rfl ?_
      refine gEy.aload rfl rfl rfl ?_
      refine gEy.iconst rfl rfl ?_
      refine gEy.newI (n := 144) (a := 51) rfl rfl rfl rfl rfl ?_
      refine gEy.putR rfl rfl rfl rfl rfl ?_
      refine gEy.aload rfl rfl rfl ?_
      refine gEy.iconst rfl rfl ?_
      refine gEy.newI (n := 144) (a := 52) rfl rfl rfl rfl rfl ?_
      refine gEy.putR rfl rfl rfl rfl rfl ?_
      refine gEy.aload rfl rfl rfl ?_
      refine gEy.iconst rfl rfl ?_
      refine gEy.newI (n := 324) (a := 53) rfl rfl rfl rfl rfl ?_
      refine gEy.putR rfl rfl rfl rfl rfl ?_
      exact gEy.retv rfl rfl
    refine gEy.putR rfl rfl rfl rfl rfl ?_
    refine gEy.aload rfl rfl rfl ?_
    refine gEy.new (a := 54) rfl rfl rfl rfl ?_
    refine gEy.dupR rfl rfl ?_
    refine gEy.special rfl rfl rfl rfl rfl ?_
    apply Exists.intro
    refine ⟨gR_ofy (mx := 1) rfl rfl (Nat.le_of_ble_eq_true rfl) ?_, ?_⟩
    · refine gEy.aload rfl rfl rfl ?_
      refine gEy.init0 rfl rfl rfl rfl ?_
      refine gEy.aload rfl rfl rfl ?_
      refine gEy.new (a := 55) rfl rfl rfl rfl ?_
      refine gEy.dupR rfl rfl ?_
      refine gEy.special rfl rfl rfl rfl rfl ?_
      apply Exists.intro
      refine ⟨gR_ofy (mx := 1) rfl rfl (Nat.le_of_ble_eq_true rfl) ?_, ?_⟩
      · refine gEy.aload rfl rfl rfl ?_
        refine gEy.init0 rfl rfl rfl rfl ?_
        refine gEy.aload rfl rfl rfl ?_
        refine gEy.iconst rfl rfl ?_
        refine gEy.newI (n := 36) (a := 56) rfl rfl rfl rfl rfl ?_
        refine gEy.putR rfl rfl rfl rfl rfl ?_
        refine gEy.aload rfl rfl rfl ?_
        refine gEy.iconst rfl rfl ?_
        refine gEy.newI (n := 36) (a := 57) rfl rfl rfl rfl rfl ?_
        refine gEy.putR rfl rfl rfl rfl rfl ?_
        refine gEy.aload rfl rfl rfl ?_
        refine gEy.iconst rfl rfl ?_
        refine gEy.newI (n := 36) (a := 58) rfl rfl rfl rfl rfl ?_
        refine gEy.putR rfl rfl rfl rfl rfl ?_
        refine gEy.aload rfl rfl rfl ?_
        refine gEy.iconst rfl rfl ?_
        refine gEy.newI (n := 36) (a := 59) rfl rfl rfl rfl rfl ?_
        refine gEy.putR rfl rfl rfl rfl rfl ?_
        refine gEy.aload rfl rfl rfl ?_
        refine gEy.iconst rfl rfl ?_
        refine gEy.newI (n := 36) (a := 60) rfl rfl rfl rfl rfl ?_
        refine gEy.putR rfl rfl rfl rfl rfl ?_
        refine gEy.aload rfl rfl rfl ?_
        refine gEy.iconst rfl rfl ?_
        refine gEy.newI (n := 36) (a := 61) rfl rfl rfl rfl rfl ?_
        refine gEy.putR rfl rfl rfl rfl rfl ?_
        exact gEy.retv rfl rfl
      refine gEy.putR rfl rfl rfl rfl rfl ?_
      refine gEy.aload rfl rfl rfl ?_
      refine gEy.new (a := 62) rfl rfl rfl rfl ?_
      refine gEy.dupR rfl rfl ?_
      refine gEy.special rfl rfl rfl rfl rfl ?_
      apply Exists.intro
      refine ⟨gR_ofy (mx := 1) rfl rfl (Nat.le_of_ble_eq_true rfl) ?_, ?_⟩
      · refine gEy.aload rfl rfl rfl ?_
        refine gEy.init0 rfl rfl rfl rfl ?_
        refine gEy.aload rfl rfl rfl ?_
        refine gEy.iconst rfl rfl ?_
        refine gEy.newI (n := 9) (a := 63) rfl rfl rfl rfl rfl ?_
        refine gEy.putR rfl rfl rfl rfl rfl ?_
        refine gEy.aload rfl rfl rfl ?_
        refine gEy.iconst rfl rfl ?_
        refine gEy.newL (n := 4) (a := 64) rfl rfl rfl rfl rfl ?_
        refine gEy.putR rfl rfl rfl rfl rfl ?_
        refine gEy.aload rfl rfl rfl ?_
        refine gEy.iconst rfl rfl ?_
        refine gEy.newI (n := 144) (a := 65) rfl rfl rfl rfl rfl ?_
        refine gEy.putR rfl rfl rfl rfl rfl ?_
        refine gEy.aload rfl rfl rfl ?_
        refine gEy.iconst rfl rfl ?_
        refine gEy.newI (n := 144) (a := 66) rfl rfl rfl rfl rfl ?_
        refine gEy.putR rfl rfl rfl rfl rfl ?_
        refine gEy.aload rfl rfl rfl ?_
        refine gEy.iconst rfl rfl ?_
        refine gEy.newI (n := 144) (a := 67) rfl rfl rfl rfl rfl ?_
        refine gEy.putR rfl rfl rfl rfl rfl ?_
        refine gEy.aload rfl rfl rfl ?_
        refine gEy.iconst rfl rfl ?_
        refine gEy.newI (n := 144) (a := 68) rfl rfl rfl rfl rfl ?_
        refine gEy.putR rfl rfl rfl rfl rfl ?_
        refine gEy.aload rfl rfl rfl ?_
        refine gEy.iconst rfl rfl ?_
        refine gEy.newI (n := 324) (a := 69) rfl rfl rfl rfl rfl ?_
        refine gEy.putR rfl rfl rfl rfl rfl ?_
        exact gEy.retv rfl rfl
      refine gEy.putR rfl rfl rfl rfl rfl ?_
      refine gEy.aload rfl rfl rfl ?_
      refine gEy.iconst rfl rfl ?_
      refine gEy.newI (n := 6) (a := 70) rfl rfl rfl rfl rfl ?_
      refine gEy.putR rfl rfl rfl rfl rfl ?_
      refine gEy.aload rfl rfl rfl ?_
      refine gEy.iconst rfl rfl ?_
      refine gEy.newI (n := 64) (a := 71) rfl rfl rfl rfl rfl ?_
      refine gEy.putR rfl rfl rfl rfl rfl ?_
      exact gEy.retv rfl rfl
    refine gEy.putR rfl rfl rfl rfl rfl ?_
    refine gEy.aload rfl rfl rfl ?_
    refine gEy.iconst rfl rfl ?_
    refine gEy.newA (n := 4) (a := 72) rfl rfl rfl rfl rfl ?_
    refine gEy.putR rfl rfl rfl rfl rfl ?_
    refine gEy.aload rfl rfl rfl ?_
    refine gEy.getR rfl rfl rfl rfl ?_
    refine gEy.iconst rfl rfl ?_
    refine gEy.callS rfl rfl rfl rfl rfl (t_fill (by decide) (n0 := 6) ?_ _ (f_fill_eq _ _ _ _ (by decide))) ?_
    · rfl
    refine gEy.iconst rfl rfl ?_
    refine gEy.istore (ls' := [some (.ref 0), some (.int 0)]) rfl rfl rfl ?_
    refine gEy.lab (ls' := [some (.ref 0), some (.int 0)]) rfl rfl ?_
    refine gEy.iload rfl rfl rfl ?_
    refine gEy.iconst rfl rfl ?_
    refine gEy.lt_go (by decide) rfl rfl ?_
    refine gEy.aload rfl rfl rfl ?_
    refine gEy.getR rfl rfl rfl rfl ?_
    refine gEy.iload rfl rfl rfl ?_
    refine gEy.new (a := 73) rfl rfl rfl rfl ?_
    refine gEy.dupR rfl rfl ?_
    refine gEy.special rfl rfl rfl rfl rfl ?_
    apply Exists.intro
    refine ⟨gR_ofy (mx := 1) rfl rfl (Nat.le_of_ble_eq_true rfl) ?_, ?_⟩
    · refine gEy.aload rfl rfl rfl ?_
      refine gEy.init0 rfl rfl rfl rfl ?_
      refine gEy.aload rfl rfl rfl ?_
      refine gEy.iconst rfl rfl ?_
      refine gEy.putI rfl rfl rfl rfl rfl rfl ?_
      refine gEy.aload rfl rfl rfl ?_
      refine gEy.iconst rfl rfl ?_
      refine gEy.newI (n := 72) (a := 74) rfl rfl rfl rfl rfl ?_
      refine gEy.putR rfl rfl rfl rfl rfl ?_
      exact gEy.retv rfl rfl
    refine gEy.aast (j := 0) rfl rfl rfl rfl rfl rfl rfl ?_
    refine gEy.iinc (y := 1) (ls' := [some (.ref 0), some (.int 1)]) rfl rfl rfl rfl rfl ?_
    refine gEy.goto (tn := 94) rfl rfl rfl ?_
    refine gEy.lab (ls' := [some (.ref 0), some (.int 1)]) rfl rfl ?_
    refine gEy.iload rfl rfl rfl ?_
    refine gEy.iconst rfl rfl ?_
    refine gEy.lt_go (by decide) rfl rfl ?_
    refine gEy.aload rfl rfl rfl ?_
    refine gEy.getR rfl rfl rfl rfl ?_
    refine gEy.iload rfl rfl rfl ?_
    refine gEy.new (a := 75) rfl rfl rfl rfl ?_
    refine gEy.dupR rfl rfl ?_
    refine gEy.special rfl rfl rfl rfl rfl ?_
    apply Exists.intro
    refine ⟨gR_ofy (mx := 1) rfl rfl (Nat.le_of_ble_eq_true rfl) ?_, ?_⟩
    · refine gEy.aload rfl rfl rfl ?_
      refine gEy.init0 rfl rfl rfl rfl ?_
      refine gEy.aload rfl rfl rfl ?_
      refine gEy.iconst rfl rfl ?_
      refine gEy.putI rfl rfl rfl rfl rfl rfl ?_
      refine gEy.aload rfl rfl rfl ?_
      refine gEy.iconst rfl rfl ?_
      refine gEy.newI (n := 72) (a := 76) rfl rfl rfl rfl rfl ?_
      refine gEy.putR rfl rfl rfl rfl rfl ?_
      exact gEy.retv rfl rfl
    refine gEy.aast (j := 1) rfl rfl rfl rfl rfl rfl rfl ?_
    refine gEy.iinc (y := 2) (ls' := [some (.ref 0), some (.int 2)]) rfl rfl rfl rfl rfl ?_
    refine gEy.goto (tn := 94) rfl rfl rfl ?_
    refine gEy.lab (ls' := [some (.ref 0), some (.int 2)]) rfl rfl ?_
    refine gEy.iload rfl rfl rfl ?_
    refine gEy.iconst rfl rfl ?_
    refine gEy.lt_go (by decide) rfl rfl ?_
    refine gEy.aload rfl rfl rfl ?_
    refine gEy.getR rfl rfl rfl rfl ?_
    refine gEy.iload rfl rfl rfl ?_
    refine gEy.new (a := 77) rfl rfl rfl rfl ?_
    refine gEy.dupR rfl rfl ?_
    refine gEy.special rfl rfl rfl rfl rfl ?_
    apply Exists.intro
    refine ⟨gR_ofy (mx := 1) rfl rfl (Nat.le_of_ble_eq_true rfl) ?_, ?_⟩
    · refine gEy.aload rfl rfl rfl ?_
      refine gEy.init0 rfl rfl rfl rfl ?_
      refine gEy.aload rfl rfl rfl ?_
      refine gEy.iconst rfl rfl ?_
      refine gEy.putI rfl rfl rfl rfl rfl rfl ?_
      refine gEy.aload rfl rfl rfl ?_
      refine gEy.iconst rfl rfl ?_
      refine gEy.newI (n := 72) (a := 78) rfl rfl rfl rfl rfl ?_
      refine gEy.putR rfl rfl rfl rfl rfl ?_
      exact gEy.retv rfl rfl
    refine gEy.aast (j := 2) rfl rfl rfl rfl rfl rfl rfl ?_
    refine gEy.iinc (y := 3) (ls' := [some (.ref 0), some (.int 3)]) rfl rfl rfl rfl rfl ?_
    refine gEy.goto (tn := 94) rfl rfl rfl ?_
    refine gEy.lab (ls' := [some (.ref 0), some (.int 3)]) rfl rfl ?_
    refine gEy.iload rfl rfl rfl ?_
    refine gEy.iconst rfl rfl ?_
    refine gEy.lt_go (by decide) rfl rfl ?_
    refine gEy.aload rfl rfl rfl ?_
    refine gEy.getR rfl rfl rfl rfl ?_
    refine gEy.iload rfl rfl rfl ?_
    refine gEy.new (a := 79) rfl rfl rfl rfl ?_
    refine gEy.dupR rfl rfl ?_
    refine gEy.special rfl rfl rfl rfl rfl ?_
    apply Exists.intro
    refine ⟨gR_ofy (mx := 1) rfl rfl (Nat.le_of_ble_eq_true rfl) ?_, ?_⟩
    · refine gEy.aload rfl rfl rfl ?_
      refine gEy.init0 rfl rfl rfl rfl ?_
      refine gEy.aload rfl rfl rfl ?_
      refine gEy.iconst rfl rfl ?_
      refine gEy.putI rfl rfl rfl rfl rfl rfl ?_
      refine gEy.aload rfl rfl rfl ?_
      refine gEy.iconst rfl rfl ?_
      refine gEy.newI (n := 72) (a := 80) rfl rfl rfl rfl rfl ?_
      refine gEy.putR rfl rfl rfl rfl rfl ?_
      exact gEy.retv rfl rfl
    refine gEy.aast (j := 3) rfl rfl rfl rfl rfl rfl rfl ?_
    refine gEy.iinc (y := 4) (ls' := [some (.ref 0), some (.int 4)]) rfl rfl rfl rfl rfl ?_
    refine gEy.goto (tn := 94) rfl rfl rfl ?_
    refine gEy.lab (ls' := [some (.ref 0), some (.int 4)]) rfl rfl ?_
    refine gEy.iload rfl rfl rfl ?_
    refine gEy.iconst rfl rfl ?_
    refine gEy.ge_go (tn := 118) rfl (by decide) rfl rfl ?_
    exact gEy.retv rfl rfl
  · rfl
  · exact (gHas.cons rfl (gHas.cons rfl (gHas.cons rfl (gHas.cons rfl (gHas.cons rfl (gHas.cons rfl (gHas.cons rfl (gHas.cons rfl (gHas.cons rfl (gHas.cons rfl (gHas.cons rfl (gHas.cons rfl (gHas.cons rfl (gHas.cons rfl (gHas.cons rfl (gHas.cons rfl (gHas.cons rfl (gHas.cons rfl (gHas.cons rfl (gHas.cons rfl (gHas.cons rfl (gHas.cons rfl (gHas.cons rfl (gHas.cons rfl (gHas.cons rfl (gHas.cons rfl (gHas.cons rfl (gHas.cons rfl (gHas.cons rfl (gHas.cons rfl (gHas.cons rfl (gHas.cons rfl (gHas.cons rfl (gHas.cons rfl (gHas.cons rfl (gHas.cons rfl (gHas.cons rfl (gHas.cons rfl (gHas.cons rfl (gHas.cons rfl (gHas.cons rfl (gHas.cons rfl (gHas.cons rfl (gHas.cons rfl (gHas.cons rfl (gHas.cons rfl (gHas.cons rfl (gHas.cons rfl (gHas.cons rfl (gHas.cons rfl (gHas.cons rfl (gHas.cons rfl (gHas.cons rfl (gHas.cons rfl (gHas.cons rfl (gHas.cons rfl (gHas.cons rfl (gHas.cons rfl (gHas.cons rfl (gHas.cons rfl (gHas.cons rfl (gHas.cons rfl (gHas.cons rfl (gHas.cons rfl (gHas.cons rfl (gHas.cons rfl (gHas.cons rfl (gHas.cons rfl (gHas.cons rfl (gHas.cons rfl (gHas.cons rfl (gHas.cons rfl (gHas.cons rfl (gHas.cons rfl (gHas.cons rfl (gHas.cons rfl (gHas.cons rfl (gHas.cons rfl (gHas.cons rfl (gHas.cons rfl (gHas.cons rfl gHas.nil)))))))))))))))))))))))))))))))))))))))))))))))))))))))))))))))))))))))))))))))))
