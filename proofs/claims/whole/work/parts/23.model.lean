/-! ===== the model's maker (by program) ===== -/
set_option maxRecDepth 100000 in
set_option maxHeartbeats 8000000 in
theorem made_MO {S : Nat → Option gE} {N : Nat → Nat → Int32} {Lg : Nat → Nat → Int64} : ∃ s2 : gS, gR gmi gdf gcd 10 156 [.ref 81] (gmkO ((S, 81), (N, Lg)) 12) (none, s2) ∧ s2.1.2 = 128 ∧ gHas s2.1.1 81 gsh_MO ∧ gKp 81 ((S, 81), (N, Lg)) s2 ∧ ∀ id q, id < 47 → s2.2.1 (81 + id) q = gI0 (81 + id) q := by
  apply Exists.intro
  refine ⟨gR_ofy (mx := 1) rfl rfl (Nat.le_of_ble_eq_true rfl) ?_, ?_, ?_, ?_, ?_⟩
  · refine gEy.aload rfl rfl rfl ?_
    refine gEy.init0 rfl rfl rfl rfl ?_
    refine gEy.aload rfl rfl rfl ?_
    refine gEy.iconst rfl rfl ?_
    refine gEy.putI rfl rfl rfl rfl rfl rfl ?_
    refine gEy.aload rfl rfl rfl ?_
    refine gEy.iconst rfl rfl ?_
    refine gEy.putI rfl rfl rfl rfl rfl rfl ?_
    refine gEy.aload rfl rfl rfl ?_
    refine gEy.iconst rfl rfl ?_
    refine gEy.newI (n := 36) (a := 82) rfl rfl rfl rfl rfl ?_
    refine gEy.dupR rfl rfl ?_
    refine gEy.iconst rfl rfl ?_
    refine gEy.iconst rfl rfl ?_
    refine gEy.iast (j := 0) rfl rfl rfl rfl rfl ?_
    refine gEy.dupR rfl rfl ?_
    refine gEy.iconst rfl rfl ?_
    refine gEy.iconst rfl rfl ?_
    refine gEy.iast (j := 1) rfl rfl rfl rfl rfl ?_
    refine gEy.dupR rfl rfl ?_
    refine gEy.iconst rfl rfl ?_
    refine gEy.iconst rfl rfl ?_
    refine gEy.iast (j := 2) rfl rfl rfl rfl rfl ?_
    refine gEy.dupR rfl rfl ?_
    refine gEy.iconst rfl rfl ?_
    refine gEy.iconst rfl rfl ?_
    refine gEy.iast (j := 3) rfl rfl rfl rfl rfl ?_
    refine gEy.dupR rfl rfl ?_
    refine gEy.iconst rfl rfl ?_
    refine gEy.iconst rfl rfl ?_
    refine gEy.iast (j := 4) rfl rfl rfl rfl rfl ?_
    refine gEy.dupR rfl rfl ?_
    refine gEy.iconst rfl rfl ?_
    refine gEy.iconst rfl rfl ?_
    refine gEy.iast (j := 5) rfl rfl rfl rfl rfl ?_
    refine gEy.dupR rfl rfl ?_
    refine gEy.iconst rfl rfl ?_
    refine gEy.iconst rfl rfl ?_
    refine gEy.iast (j := 6) rfl rfl rfl rfl rfl ?_
    refine gEy.dupR rfl rfl ?_
    refine gEy.iconst rfl rfl ?_
    refine gEy.iconst rfl rfl ?_
    refine gEy.iast (j := 7) rfl rfl rfl rfl rfl ?_
    refine gEy.dupR rfl rfl ?_
    refine gEy.iconst rfl rfl ?_
    refine gEy.iconst rfl rfl ?_
    refine gEy.iast (j := 8) rfl rfl rfl rfl rfl ?_
    refine gEy.dupR rfl rfl ?_
    refine gEy.iconst rfl rfl ?_
    refine gEy.iconst rfl rfl ?_
    refine gEy.iast (j := 9) rfl rfl rfl rfl rfl ?_
    refine gEy.dupR rfl rfl ?_
    refine gEy.iconst rfl rfl ?_
    refine gEy.iconst rfl rfl ?_
    refine gEy.iast (j := 10) rfl rfl rfl rfl rfl ?_
    refine gEy.dupR rfl rfl ?_
    refine gEy.iconst rfl rfl ?_
    refine gEy.iconst rfl rfl ?_
    refine gEy.iast (j := 11) rfl rfl rfl rfl rfl ?_
    refine gEy.dupR rfl rfl ?_
    refine gEy.iconst rfl rfl ?_
    refine gEy.iconst rfl rfl ?_
    refine gEy.iast (j := 12) rfl rfl rfl rfl rfl ?_
    refine gEy.dupR rfl rfl ?_
    refine gEy.iconst rfl rfl ?_
    refine gEy.iconst rfl rfl ?_
    refine gEy.iast (j := 13) rfl rfl rfl rfl rfl ?_
    refine gEy.dupR rfl rfl ?_
    refine gEy.iconst rfl rfl ?_
    refine gEy.iconst rfl rfl ?_
    refine gEy.iast (j := 14) rfl rfl rfl rfl rfl ?_
    refine gEy.dupR rfl rfl ?_
    refine gEy.iconst rfl rfl ?_
    refine gEy.iconst rfl rfl ?_
    refine gEy.iast (j := 15) rfl rfl rfl rfl rfl ?_
    refine gEy.dupR rfl rfl ?_
    refine gEy.iconst rfl rfl ?_
    refine gEy.iconst rfl rfl ?_
    refine gEy.iast (j := 16) rfl rfl rfl rfl rfl ?_
    refine gEy.dupR rfl rfl ?_
    refine gEy.iconst rfl rfl ?_
    refine gEy.iconst rfl rfl ?_
    refine gEy.iast (j := 17) rfl rfl rfl rfl rfl ?_
    refine gEy.dupR rfl rfl ?_
    refine gEy.iconst rfl rfl ?_
    refine gEy.iconst rfl rfl ?_
    refine gEy.iast (j := 18) rfl rfl rfl rfl rfl ?_
    refine gEy.dupR rfl rfl ?_
    refine gEy.iconst rfl rfl ?_
    refine gEy.iconst rfl rfl ?_
    refine gEy.iast (j := 19) rfl rfl rfl rfl rfl ?_
    refine gEy.dupR rfl rfl ?_
    refine gEy.iconst rfl rfl ?_
    refine gEy.iconst rfl rfl ?_
    refine gEy.iast (j := 20) rfl rfl rfl rfl rfl ?_
    refine gEy.dupR rfl rfl ?_
    refine gEy.iconst rfl rfl ?_
    refine gEy.iconst rfl rfl ?_
    refine gEy.iast (j := 21) rfl rfl rfl rfl rfl ?_
    refine gEy.dupR rfl rfl ?_
    refine gEy.iconst rfl rfl ?_
    refine gEy.iconst rfl rfl ?_
    refine gEy.iast (j := 22) rfl rfl rfl rfl rfl ?_
    refine gEy.dupR rfl rfl ?_
    refine gEy.iconst rfl rfl ?_
    refine gEy.iconst rfl rfl ?_
    refine gEy.iast (j := 23) rfl rfl rfl rfl rfl ?_
    refine gEy.dupR rfl rfl ?_
    refine gEy.iconst rfl rfl ?_
    refine gEy.iconst rfl rfl ?_
    refine gEy.iast (j := 24) rfl rfl rfl rfl rfl ?_
    refine gEy.dupR rfl rfl ?_
    refine gEy.iconst rfl rfl ?_
    refine gEy.iconst rfl rfl ?_
    refine gEy.iast (j := 25) rfl rfl rfl rfl rfl ?_
    refine gEy.dupR rfl rfl ?_
    refine gEy.iconst rfl rfl ?_
    refine gEy.iconst rfl rfl ?_
    refine gEy.iast (j := 26) rfl rfl rfl rfl rfl ?_
    refine gEy.dupR rfl rfl ?_
    refine gEy.iconst rfl rfl ?_
    refine gEy.iconst rfl rfl ?_
    refine gEy.iast (j := 27) rfl rfl rfl rfl rfl ?_
    refine gEy.dupR rfl rfl ?_
    refine gEy.iconst rfl rfl ?_
    refine gEy.iconst rfl rfl ?_
    refine gEy.iast (j := 28) rfl rfl rfl rfl rfl ?_
    refine gEy.dupR rfl rfl ?_
    refine gEy.iconst rfl rfl ?_
    refine gEy.iconst rfl rfl ?_
    refine gEy.iast (j := 29) rfl rfl rfl rfl rfl ?_
    refine gEy.dupR rfl rfl ?_
    refine gEy.iconst rfl rfl ?_
    refine gEy.iconst rfl rfl ?_
    refine gEy.iast (j := 30) rfl rfl rfl rfl rfl ?_
    refine gEy.dupR rfl rfl ?_
    refine gEy.iconst rfl rfl ?_
    refine gEy.iconst rfl rfl ?_
    refine gEy.iast (j := 31) rfl rfl rfl rfl rfl ?_
    refine gEy.dupR rfl rfl ?_
    refine gEy.iconst rfl rfl ?_
    refine gEy.iconst rfl rfl ?_
    refine gEy.iast (j := 32) rfl rfl rfl rfl rfl ?_
    refine gEy.dupR rfl rfl ?_
    refine gEy.iconst rfl rfl ?_
    refine gEy.iconst rfl rfl ?_
    refine gEy.iast (j := 33) rfl rfl rfl rfl rfl ?_
    refine gEy.dupR rfl rfl ?_
    refine gEy.iconst rfl rfl ?_
    refine gEy.iconst rfl rfl ?_
    refine gEy.iast (j := 34) rfl rfl rfl rfl rfl ?_
    refine gEy.dupR rfl rfl ?_
    refine gEy.iconst rfl rfl ?_
    refine gEy.iconst rfl rfl ?_
    refine gEy.iast (j := 35) rfl rfl rfl rfl rfl ?_
    refine gEy.putR rfl rfl rfl rfl rfl ?_
    refine gEy.aload rfl rfl rfl ?_
    refine gEy.iconst rfl rfl ?_
    refine gEy.newI (n := 36) (a := 83) rfl rfl rfl rfl rfl ?_
    refine gEy.putR rfl rfl rfl rfl rfl ?_
    refine gEy.aload rfl rfl rfl ?_
    refine gEy.iconst rfl rfl ?_
    refine gEy.newI (n := 36) (a := 84) rfl rfl rfl rfl rfl ?_
    refine gEy.putR rfl rfl rfl rfl rfl ?_
    refine gEy.aload rfl rfl rfl ?_
    refine gEy.iconst rfl rfl ?_
    refine gEy.newI (n := 36) (a := 85) rfl rfl rfl rfl rfl ?_
    refine gEy.dupR rfl rfl ?_
    refine gEy.iconst rfl rfl ?_
    refine gEy.iconst rfl rfl ?_
    refine gEy.iast (j := 0) rfl rfl rfl rfl rfl ?_
    refine gEy.dupR rfl rfl ?_
    refine gEy.iconst rfl rfl ?_
    refine gEy.iconst rfl rfl ?_
    refine gEy.iast (j := 1) rfl rfl rfl rfl rfl ?_
    refine gEy.dupR rfl rfl ?_
    refine gEy.iconst rfl rfl ?_
    refine gEy.iconst rfl rfl ?_
    refine gEy.iast (j := 2) rfl rfl rfl rfl rfl ?_
    refine gEy.dupR rfl rfl ?_
    refine gEy.iconst rfl rfl ?_
    refine gEy.iconst rfl rfl ?_
    refine gEy.iast (j := 3) rfl rfl rfl rfl rfl ?_
    refine gEy.dupR rfl rfl ?_
    refine gEy.iconst rfl rfl ?_
    refine gEy.iconst rfl rfl ?_
    refine gEy.iast (j := 4) rfl rfl rfl rfl rfl ?_
    refine gEy.dupR rfl rfl ?_
    refine gEy.iconst rfl rfl ?_
    refine gEy.iconst rfl rfl ?_
    refine gEy.iast (j := 5) rfl rfl rfl rfl rfl ?_
    refine gEy.dupR rfl rfl ?_
    refine gEy.iconst rfl rfl ?_
    refine gEy.iconst rfl rfl ?_
    refine gEy.iast (j := 6) rfl rfl rfl rfl rfl ?_
    refine gEy.dupR rfl rfl ?_
    refine gEy.iconst rfl rfl ?_
    refine gEy.iconst rfl rfl ?_
    refine gEy.iast (j := 7) rfl rfl rfl rfl rfl ?_
    refine gEy.dupR rfl rfl ?_
    refine gEy.iconst rfl rfl ?_
    refine gEy.iconst rfl rfl ?_
    refine gEy.iast (j := 8) rfl rfl rfl rfl rfl ?_
    refine gEy.dupR rfl rfl ?_
    refine gEy.iconst rfl rfl ?_
    refine gEy.iconst rfl rfl ?_
    refine gEy.iast (j := 9) rfl rfl rfl rfl rfl ?_
    refine gEy.dupR rfl rfl ?_
    refine gEy.iconst rfl rfl ?_
    refine gEy.iconst rfl rfl ?_
    refine gEy.iast (j := 10) rfl rfl rfl rfl rfl ?_
    refine gEy.dupR rfl rfl ?_
    refine gEy.iconst rfl rfl ?_
    refine gEy.iconst rfl rfl ?_
    refine gEy.iast (j := 11) rfl rfl rfl rfl rfl ?_
    refine gEy.dupR rfl rfl ?_
    refine gEy.iconst rfl rfl ?_
    refine gEy.iconst rfl rfl ?_
    refine gEy.iast (j := 12) rfl rfl rfl rfl rfl ?_
    refine gEy.dupR rfl rfl ?_
    refine gEy.iconst rfl rfl ?_
    refine gEy.iconst rfl rfl ?_
    refine gEy.iast (j := 13) rfl rfl rfl rfl rfl ?_
    refine gEy.dupR rfl rfl ?_
    refine gEy.iconst rfl rfl ?_
    refine gEy.iconst rfl rfl ?_
    refine gEy.iast (j := 14) rfl rfl rfl rfl rfl ?_
    refine gEy.dupR rfl rfl ?_
    refine gEy.iconst rfl rfl ?_
    refine gEy.iconst rfl rfl ?_
    refine gEy.iast (j := 15) rfl rfl rfl rfl rfl ?_
    refine gEy.dupR rfl rfl ?_
    refine gEy.iconst rfl rfl ?_
    refine gEy.iconst rfl rfl ?_
    refine gEy.iast (j := 16) rfl rfl rfl rfl rfl ?_
    refine gEy.dupR rfl rfl ?_
    refine gEy.iconst rfl rfl ?_
    refine gEy.iconst rfl rfl ?_
    refine gEy.iast (j := 17) rfl rfl rfl rfl rfl ?_
    refine gEy.dupR rfl rfl ?_
    refine gEy.iconst rfl rfl ?_
    refine gEy.iconst rfl rfl ?_
    refine gEy.iast (j := 18) rfl rfl rfl rfl rfl ?_
    refine gEy.dupR rfl rfl ?_
    refine gEy.iconst rfl rfl ?_
    refine gEy.iconst rfl rfl ?_
    refine gEy.iast (j := 19) rfl rfl rfl rfl rfl ?_
    refine gEy.dupR rfl rfl ?_
    refine gEy.iconst rfl rfl ?_
    refine gEy.iconst rfl rfl ?_
    refine gEy.iast (j := 20) rfl rfl rfl rfl rfl ?_
    refine gEy.dupR rfl rfl ?_
    refine gEy.iconst rfl rfl ?_
    refine gEy.iconst rfl rfl ?_
    refine gEy.iast (j := 21) rfl rfl rfl rfl rfl ?_
    refine gEy.dupR rfl rfl ?_
    refine gEy.iconst rfl rfl ?_
    refine gEy.iconst rfl rfl ?_
    refine gEy.iast (j := 22) rfl rfl rfl rfl rfl ?_
    refine gEy.dupR rfl rfl ?_
    refine gEy.iconst rfl rfl ?_
    refine gEy.iconst rfl rfl ?_
    refine gEy.iast (j := 23) rfl rfl rfl rfl rfl ?_
    refine gEy.dupR rfl rfl ?_
    refine gEy.iconst rfl rfl ?_
    refine gEy.iconst rfl rfl ?_
    refine gEy.iast (j := 24) rfl rfl rfl rfl rfl ?_
    refine gEy.dupR rfl rfl ?_
    refine gEy.iconst rfl rfl ?_
    refine gEy.iconst rfl rfl ?_
    refine gEy.iast (j := 25) rfl rfl rfl rfl rfl ?_
    refine gEy.dupR rfl rfl ?_
    refine gEy.iconst rfl rfl ?_
    refine gEy.iconst rfl rfl ?_
    refine gEy.iast (j := 26) rfl rfl rfl rfl rfl ?_
    refine gEy.dupR rfl rfl ?_
    refine gEy.iconst rfl rfl ?_
    refine gEy.iconst rfl rfl ?_
    refine gEy.iast (j := 27) rfl rfl rfl rfl rfl ?_
    refine gEy.dupR rfl rfl ?_
    refine gEy.iconst rfl rfl ?_
    refine gEy.iconst rfl rfl ?_
    refine gEy.iast (j := 28) rfl rfl rfl rfl rfl ?_
    refine gEy.dupR rfl rfl ?_
    refine gEy.iconst rfl rfl ?_
    refine gEy.iconst rfl rfl ?_
    refine gEy.iast (j := 29) rfl rfl rfl rfl rfl ?_
    refine gEy.dupR rfl rfl ?_
    refine gEy.iconst rfl rfl ?_
    refine gEy.iconst rfl rfl ?_
    refine gEy.iast (j := 30) rfl rfl rfl rfl rfl ?_
    refine gEy.dupR rfl rfl ?_
    refine gEy.iconst rfl rfl ?_
    refine gEy.iconst rfl rfl ?_
    refine gEy.iast (j := 31) rfl rfl rfl rfl rfl ?_
    refine gEy.dupR rfl rfl ?_
    refine gEy.iconst rfl rfl ?_
    refine gEy.iconst rfl rfl ?_
    refine gEy.iast (j := 32) rfl rfl rfl rfl rfl ?_
    refine gEy.dupR rfl rfl ?_
    refine gEy.iconst rfl rfl ?_
    refine gEy.iconst rfl rfl ?_
    refine gEy.iast (j := 33) rfl rfl rfl rfl rfl ?_
    refine gEy.dupR rfl rfl ?_
    refine gEy.iconst rfl rfl ?_
    refine gEy.iconst rfl rfl ?_
    refine gEy.iast (j := 34) rfl rfl rfl rfl rfl ?_
    refine gEy.dupR rfl rfl ?_
    refine gEy.iconst rfl rfl ?_
    refine gEy.iconst rfl rfl ?_
    refine gEy.iast (j := 35) rfl rfl rfl rfl rfl ?_
    refine gEy.putR rfl rfl rfl rfl rfl ?_
    refine gEy.aload rfl rfl rfl ?_
    refine gEy.iconst rfl rfl ?_
    refine gEy.newI (n := 324) (a := 86) rfl rfl rfl rfl rfl ?_
    refine gEy.putR rfl rfl rfl rfl rfl ?_
    refine gEy.aload rfl rfl rfl ?_
    refine gEy.iconst rfl rfl ?_
    refine gEy.newI (n := 8) (a := 87) rfl rfl rfl rfl rfl ?_
    refine gEy.dupR rfl rfl ?_
    refine gEy.iconst rfl rfl ?_
    refine gEy.iconst rfl rfl ?_
    refine gEy.iast (j := 0) rfl rfl rfl rfl rfl ?_
    refine gEy.dupR rfl rfl ?_
    refine gEy.iconst rfl rfl ?_
    refine gEy.iconst rfl rfl ?_
    refine gEy.iast (j := 1) rfl rfl rfl rfl rfl ?_
    refine gEy.dupR rfl rfl ?_
    refine gEy.iconst rfl rfl ?_
    refine gEy.iconst rfl rfl ?_
    refine gEy.iast (j := 2) rfl rfl rfl rfl rfl ?_
    refine gEy.dupR rfl rfl ?_
    refine gEy.iconst rfl rfl ?_
    refine gEy.iconst rfl rfl ?_
    refine gEy.iast (j := 3) rfl rfl rfl rfl rfl ?_
    refine gEy.dupR rfl rfl ?_
    refine gEy.iconst rfl rfl ?_
    refine gEy.iconst rfl rfl ?_
    refine gEy.iast (j := 4) rfl rfl rfl rfl rfl ?_
    refine gEy.dupR rfl rfl ?_
    refine gEy.iconst rfl rfl ?_
    refine gEy.iconst rfl rfl ?_
    refine gEy.iast (j := 5) rfl rfl rfl rfl rfl ?_
    refine gEy.dupR rfl rfl ?_
    refine gEy.iconst rfl rfl ?_
    refine gEy.iconst rfl rfl ?_
    refine gEy.iast (j := 6) rfl rfl rfl rfl rfl ?_
    refine gEy.dupR rfl rfl ?_
    refine gEy.iconst rfl rfl ?_
    refine gEy.iconst rfl rfl ?_
    refine gEy.iast (j := 7) rfl rfl rfl rfl rfl ?_
    refine gEy.putR rfl rfl rfl rfl rfl ?_
    refine gEy.aload rfl rfl rfl ?_
    refine gEy.iconst rfl rfl ?_
    refine gEy.newI (n := 12) (a := 88) rfl rfl rfl rfl rfl ?_
    refine gEy.putR rfl rfl rfl rfl rfl ?_
    refine gEy.aload rfl rfl rfl ?_
    refine gEy.iconst rfl rfl ?_
    refine gEy.newI (n := 12) (a := 89) rfl rfl rfl rfl rfl ?_
    refine gEy.putR rfl rfl rfl rfl rfl ?_
    refine gEy.aload rfl rfl rfl ?_
    refine gEy.iconst rfl rfl ?_
    refine gEy.newI (n := 12) (a := 90) rfl rfl rfl rfl rfl ?_
    refine gEy.putR rfl rfl rfl rfl rfl ?_
    refine gEy.aload rfl rfl rfl ?_
    refine gEy.iconst rfl rfl ?_
    refine gEy.newI (n := 12) (a := 91) rfl rfl rfl rfl rfl ?_
    refine gEy.putR rfl rfl rfl rfl rfl ?_
    refine gEy.aload rfl rfl rfl ?_
    refine gEy.iconst rfl rfl ?_
    refine gEy.newI (n := 14) (a := 92) rfl rfl rfl rfl rfl ?_
    refine gEy.putR rfl rfl rfl rfl rfl ?_
    refine gEy.aload rfl rfl rfl ?_
    refine gEy.iconst rfl rfl ?_
    refine gEy.newI (n := 14) (a := 93) rfl rfl rfl rfl rfl ?_
    refine gEy.putR rfl rfl rfl rfl rfl ?_
    refine gEy.aload rfl rfl rfl ?_
    refine gEy.iconst rfl rfl ?_
    refine gEy.newI (n := 14) (a := 94) rfl rfl rfl rfl rfl ?_
    refine gEy.putR rfl rfl rfl rfl rfl ?_
    refine gEy.aload rfl rfl rfl ?_
    refine gEy.iconst rfl rfl ?_
    refine gEy.newI (n := 14) (a := 95) rfl rfl rfl rfl rfl ?_
    refine gEy.putR rfl rfl rfl rfl rfl ?_
    refine gEy.aload rfl rfl rfl ?_
    refine gEy.iconst rfl rfl ?_
    refine gEy.newI (n := 14) (a := 96) rfl rfl rfl rfl rfl ?_
    refine gEy.putR rfl rfl rfl rfl rfl ?_
    refine gEy.aload rfl rfl rfl ?_
    refine gEy.iconst rfl rfl ?_
    refine gEy.newI (n := 14) (a := 97) rfl rfl rfl rfl rfl ?_
    refine gEy.putR rfl rfl rfl rfl rfl ?_
    refine gEy.aload rfl rfl rfl ?_
    refine gEy.iconst rfl rfl ?_
    refine gEy.newI (n := 126) (a := 98) rfl rfl rfl rfl rfl ?_
    refine gEy.putR rfl rfl rfl rfl rfl ?_
    refine gEy.aload rfl rfl rfl ?_
    refine gEy.iconst rfl rfl ?_
    refine gEy.newI (n := 840) (a := 99) rfl rfl rfl rfl rfl ?_
    refine gEy.putR rfl rfl rfl rfl rfl ?_
    refine gEy.aload rfl rfl rfl ?_
    refine gEy.iconst rfl rfl ?_
    refine gEy.newI (n := 6) (a := 100) rfl rfl rfl rfl rfl ?_
    refine gEy.putR rfl rfl rfl rfl rfl ?_
    refine gEy.aload rfl rfl rfl ?_
    refine gEy.iconst rfl rfl ?_
    refine gEy.newI (n := 6) (a := 101) rfl rfl rfl rfl rfl ?_
    refine gEy.putR rfl rfl rfl rfl rfl ?_
    refine gEy.aload rfl rfl rfl ?_
    refine gEy.iconst rfl rfl ?_
    refine gEy.newI (n := 6) (a := 102) rfl rfl rfl rfl rfl ?_
    refine gEy.putR rfl rfl rfl rfl rfl ?_
    refine gEy.aload rfl rfl rfl ?_
    refine gEy.iconst rfl rfl ?_
    refine gEy.newI (n := 50) (a := 103) rfl rfl rfl rfl rfl ?_
    refine gEy.putR rfl rfl rfl rfl rfl ?_
    refine gEy.aload rfl rfl rfl ?_
    refine gEy.iconst rfl rfl ?_
    refine gEy.newI (n := 6) (a := 104) rfl rfl rfl rfl rfl ?_
    refine gEy.dupR rfl rfl ?_
    refine gEy.iconst rfl rfl ?_
    refine gEy.iconst rfl rfl ?_
    refine gEy.iast (j := 0) rfl rfl rfl rfl rfl ?_
    refine gEy.dupR rfl rfl ?_
    refine gEy.iconst rfl rfl ?_
    refine gEy.iconst rfl rfl ?_
    refine gEy.iast (j := 1) rfl rfl rfl rfl rfl ?_
    refine gEy.dupR rfl rfl ?_
    refine gEy.iconst rfl rfl ?_
    refine gEy.iconst rfl rfl ?_
    refine gEy.iast (j := 2) rfl rfl rfl rfl rfl ?_
    refine gEy.dupR rfl rfl ?_
    refine gEy.iconst rfl rfl ?_
    refine gEy.iconst rfl rfl ?_
    refine gEy.iast (j := 3) rfl rfl rfl rfl rfl ?_
    refine gEy.dupR rfl rfl ?_
    refine gEy.iconst rfl rfl ?_
    refine gEy.iconst rfl rfl ?_
    refine gEy.iast (j := 4) rfl rfl rfl rfl rfl ?_
    refine gEy.dupR rfl rfl ?_
    refine gEy.iconst rfl rfl ?_
    refine gEy.iconst rfl rfl ?_
    refine gEy.iast (j := 5) rfl rfl rfl rfl rfl ?_
    refine gEy.putR rfl rfl rfl rfl rfl ?_
    refine gEy.aload rfl rfl rfl ?_
    refine gEy.iconst rfl rfl ?_
    refine gEy.newI (n := 9) (a := 105) rfl rfl rfl rfl rfl ?_
    refine gEy.putR rfl rfl rfl rfl rfl ?_
    refine gEy.aload rfl rfl rfl ?_
    refine gEy.iconst rfl rfl ?_
    refine gEy.newI (n := 36) (a := 106) rfl rfl rfl rfl rfl ?_
    refine gEy.putR rfl rfl rfl rfl rfl ?_
    refine gEy.aload rfl rfl rfl ?_
    refine gEy.iconst rfl rfl ?_
    refine gEy.newI (n := 36) (a := 107) rfl rfl rfl rfl rfl ?_
    refine gEy.putR rfl rfl rfl rfl rfl ?_
    refine gEy.aload rfl rfl rfl ?_
    refine gEy.iconst rfl rfl ?_
    refine gEy.newI (n := 36) (a := 108) rfl rfl rfl rfl rfl ?_
    refine gEy.putR rfl rfl rfl rfl rfl ?_
    refine gEy.aload rfl rfl rfl ?_
    refine gEy.iconst rfl rfl ?_
    refine gEy.newI (n := 324) (a := 109) rfl rfl rfl rfl rfl ?_
    refine gEy.putR rfl rfl rfl rfl rfl ?_
    refine gEy.aload rfl rfl rfl ?_
    refine gEy.iconst rfl rfl ?_
    refine gEy.newI (n := 36) (a := 110) rfl rfl rfl rfl rfl ?_
    refine gEy.putR rfl rfl rfl rfl rfl ?_
    refine gEy.aload rfl rfl rfl ?_
    refine gEy.iconst rfl rfl ?_
    refine gEy.newI (n := 4) (a := 111) rfl rfl rfl rfl rfl ?_
    refine gEy.putR rfl rfl rfl rfl rfl ?_
    refine gEy.aload rfl rfl rfl ?_
    refine gEy.iconst rfl rfl ?_
    refine gEy.newI (n := 160) (a := 112) rfl rfl rfl rfl rfl ?_
    refine gEy.putR rfl rfl rfl rfl rfl ?_
    refine gEy.aload rfl rfl rfl ?_
    refine gEy.iconst rfl rfl ?_
    refine gEy.newI (n := 8) (a := 113) rfl rfl rfl rfl rfl ?_
    refine gEy.dupR rfl rfl ?_
    refine gEy.iconst rfl rfl ?_
    refine gEy.iconst rfl rfl ?_
    refine gEy.iast (j := 0) rfl rfl rfl rfl rfl ?_
    refine gEy.dupR rfl rfl ?_
    refine gEy.iconst rfl rfl ?_
    refine gEy.iconst rfl rfl ?_
    refine gEy.iast (j := 1) rfl rfl rfl rfl rfl ?_
    refine gEy.dupR rfl rfl ?_
    refine gEy.iconst rfl rfl ?_
    refine gEy.iconst rfl rfl ?_
    refine gEy.iast (j := 2) rfl rfl rfl rfl rfl ?_
    refine gEy.dupR rfl rfl ?_
    refine gEy.iconst rfl rfl ?_
    refine gEy.iconst rfl rfl ?_
    refine gEy.iast (j := 3) rfl rfl rfl rfl rfl ?_
    refine gEy.dupR rfl rfl ?_
    refine gEy.iconst rfl rfl ?_
    refine gEy.iconst rfl rfl ?_
    refine gEy.iast (j := 4) rfl rfl rfl rfl rfl ?_
    refine gEy.dupR rfl rfl ?_
    refine gEy.iconst rfl rfl ?_
    refine gEy.iconst rfl rfl ?_
    refine gEy.iast (j := 5) rfl rfl rfl rfl rfl ?_
    refine gEy.dupR rfl rfl ?_
    refine gEy.iconst rfl rfl ?_
    refine gEy.iconst rfl rfl ?_
    refine gEy.iast (j := 6) rfl rfl rfl rfl rfl ?_
    refine gEy.dupR rfl rfl ?_
    refine gEy.iconst rfl rfl ?_
    refine gEy.iconst rfl rfl ?_
    refine gEy.iast (j := 7) rfl rfl rfl rfl rfl ?_
    refine gEy.putR rfl rfl rfl rfl rfl ?_
    refine gEy.aload rfl rfl rfl ?_
    refine gEy.iconst rfl rfl ?_
    refine gEy.newI (n := 31) (a := 114) rfl rfl rfl rfl rfl ?_
    refine gEy.dupR rfl rfl ?_
    refine gEy.iconst rfl rfl ?_
    refine gEy.iconst rfl rfl ?_
    refine gEy.iast (j := 0) rfl rfl rfl rfl rfl ?_
    refine gEy.dupR rfl rfl ?_
    refine gEy.iconst rfl rfl ?_
    refine gEy.iconst rfl rfl ?_
    refine gEy.iast (j := 1) rfl rfl rfl rfl rfl ?_
    refine gEy.dupR rfl rfl ?_
    refine gEy.iconst rfl rfl ?_
    refine gEy.iconst rfl rfl ?_
    refine gEy.iast (j := 2) rfl rfl rfl rfl rfl ?_
    refine gEy.dupR rfl rfl ?_
    refine gEy.iconst rfl rfl ?_
    refine gEy.iconst rfl rfl ?_
    refine gEy.iast (j := 3) rfl rfl rfl rfl rfl ?_
    refine gEy.dupR rfl rfl ?_
    refine gEy.iconst rfl rfl ?_
    refine gEy.iconst rfl rfl ?_
    refine gEy.iast (j := 4) rfl rfl rfl rfl rfl ?_
    refine gEy.dupR rfl rfl ?_
    refine gEy.iconst rfl rfl ?_
    refine gEy.iconst rfl rfl ?_
    refine gEy.iast (j := 5) rfl rfl rfl rfl rfl ?_
    refine gEy.dupR rfl rfl ?_
    refine gEy.iconst rfl rfl ?_
    refine gEy.iconst rfl rfl ?_
    refine gEy.iast (j := 6) rfl rfl rfl rfl rfl ?_
    refine gEy.dupR rfl rfl ?_
    refine gEy.iconst rfl rfl ?_
    refine gEy.iconst rfl rfl ?_
    refine gEy.iast (j := 7) rfl rfl rfl rfl rfl ?_
    refine gEy.dupR rfl rfl ?_
    refine gEy.iconst rfl rfl ?_
    refine gEy.iconst rfl rfl ?_
    refine gEy.iast (j := 8) rfl rfl rfl rfl rfl ?_
    refine gEy.dupR rfl rfl ?_
    refine gEy.iconst rfl rfl ?_
    refine gEy.iconst rfl rfl ?_
    refine gEy.iast (j := 9) rfl rfl rfl rfl rfl ?_
    refine gEy.dupR rfl rfl ?_
    refine gEy.iconst rfl rfl ?_
    refine gEy.iconst rfl rfl ?_
    refine gEy.iast (j := 10) rfl rfl rfl rfl rfl ?_
    refine gEy.dupR rfl rfl ?_
    refine gEy.iconst rfl rfl ?_
    refine gEy.iconst rfl rfl ?_
    refine gEy.iast (j := 11) rfl rfl rfl rfl rfl ?_
    refine gEy.dupR rfl rfl ?_
    refine gEy.iconst rfl rfl ?_
    refine gEy.iconst rfl rfl ?_
    refine gEy.iast (j := 12) rfl rfl rfl rfl rfl ?_
    refine gEy.dupR rfl rfl ?_
    refine gEy.iconst rfl rfl ?_
    refine gEy.iconst rfl rfl ?_
    refine gEy.iast (j := 13) rfl rfl rfl rfl rfl ?_
    refine gEy.dupR rfl rfl ?_
    refine gEy.iconst rfl rfl ?_
    refine gEy.iconst rfl rfl ?_
    refine gEy.iast (j := 14) rfl rfl rfl rfl rfl ?_
    refine gEy.dupR rfl rfl ?_
    refine gEy.iconst rfl rfl ?_
    refine gEy.iconst rfl rfl ?_
    refine gEy.iast (j := 15) rfl rfl rfl rfl rfl ?_
    refine gEy.dupR rfl rfl ?_
    refine gEy.iconst rfl rfl ?_
    refine gEy.iconst rfl rfl ?_
    refine gEy.iast (j := 16) rfl rfl rfl rfl rfl ?_
    refine gEy.dupR rfl rfl ?_
    refine gEy.iconst rfl rfl ?_
    refine gEy.iconst rfl rfl ?_
    refine gEy.iast (j := 17) rfl rfl rfl rfl rfl ?_
    refine gEy.dupR rfl rfl ?_
    refine gEy.iconst rfl rfl ?_
    refine gEy.iconst rfl rfl ?_
    refine gEy.iast (j := 18) rfl rfl rfl rfl rfl ?_
    refine gEy.dupR rfl rfl ?_
    refine gEy.iconst rfl rfl ?_
    refine gEy.iconst rfl rfl ?_
    refine gEy.iast (j := 19) rfl rfl rfl rfl rfl ?_
    refine gEy.dupR rfl rfl ?_
    refine gEy.iconst rfl rfl ?_
    refine gEy.iconst rfl rfl ?_
    refine gEy.iast (j := 20) rfl rfl rfl rfl rfl ?_
    refine gEy.dupR rfl rfl ?_
    refine gEy.iconst rfl rfl ?_
    refine gEy.iconst rfl rfl ?_
    refine gEy.iast (j := 21) rfl rfl rfl rfl rfl ?_
    refine gEy.dupR rfl rfl ?_
    refine gEy.iconst rfl rfl ?_
    refine gEy.iconst rfl rfl ?_
    refine gEy.iast (j := 22) rfl rfl rfl rfl rfl ?_
    refine gEy.dupR rfl rfl ?_
    refine gEy.iconst rfl rfl ?_
    refine gEy.iconst rfl rfl ?_
    refine gEy.iast (j := 23) rfl rfl rfl rfl rfl ?_
    refine gEy.dupR rfl rfl ?_
    refine gEy.iconst rfl rfl ?_
    refine gEy.iconst rfl rfl ?_
    refine gEy.iast (j := 24) rfl rfl rfl rfl rfl ?_
    refine gEy.dupR rfl rfl ?_
    refine gEy.iconst rfl rfl ?_
    refine gEy.iconst rfl rfl ?_
    refine gEy.iast (j := 25) rfl rfl rfl rfl rfl ?_
    refine gEy.dupR rfl rfl ?_
    refine gEy.iconst rfl rfl ?_
    refine gEy.iconst rfl rfl ?_
    refine gEy.iast (j := 26) rfl rfl rfl rfl rfl ?_
    refine gEy.dupR rfl rfl ?_
    refine gEy.iconst rfl rfl ?_
    refine gEy.iconst rfl rfl ?_
    refine gEy.iast (j := 27) rfl rfl rfl rfl rfl ?_
    refine gEy.dupR rfl rfl ?_
    refine gEy.iconst rfl rfl ?_
    refine gEy.iconst rfl rfl ?_
    refine gEy.iast (j := 28) rfl rfl rfl rfl rfl ?_
    refine gEy.dupR rfl rfl ?_
    refine gEy.iconst rfl rfl ?_
    refine gEy.iconst rfl rfl ?_
    refine gEy.iast (j := 29) rfl rfl rfl rfl rfl ?_
    refine gEy.dupR rfl rfl ?_
    refine gEy.iconst rfl rfl ?_
    refine gEy.iconst rfl rfl ?_
    refine gEy.iast (j := 30) rfl rfl rfl rfl rfl ?_
    refine gEy.putR rfl rfl rfl rfl rfl ?_
    refine gEy.aload rfl rfl rfl ?_
    refine gEy.iconst rfl rfl ?_
    refine gEy.newI (n := 6) (a := 115) rfl rfl rfl rfl rfl ?_
    refine gEy.dupR rfl rfl ?_
    refine gEy.iconst rfl rfl ?_
    refine gEy.iconst rfl rfl ?_
    refine gEy.iast (j := 0) rfl rfl rfl rfl rfl ?_
    refine gEy.dupR rfl rfl ?_
    refine gEy.iconst rfl rfl ?_
    refine gEy.iconst rfl rfl ?_
    refine gEy.iast (j := 1) rfl rfl rfl rfl rfl ?_
    refine gEy.dupR rfl rfl ?_
    refine gEy.iconst rfl rfl ?_
    refine gEy.iconst rfl rfl ?_
    refine gEy.iast (j := 2) rfl rfl rfl rfl rfl ?_
    refine gEy.dupR rfl rfl ?_
    refine gEy.iconst rfl rfl ?_
    refine gEy.iconst rfl rfl ?_
    refine gEy.iast (j := 3) rfl rfl rfl rfl rfl ?_
    refine gEy.dupR rfl rfl ?_
    refine gEy.iconst rfl rfl ?_
    refine gEy.iconst rfl rfl ?_
    refine gEy.iast (j := 4) rfl rfl rfl rfl rfl ?_
    refine gEy.dupR rfl rfl ?_
    refine gEy.iconst rfl rfl ?_
    refine gEy.iconst rfl rfl ?_
    refine gEy.iast (j := 5) rfl rfl rfl rfl rfl ?_
    refine gEy.putR rfl rfl rfl rfl rfl ?_
    refine gEy.aload rfl rfl rfl ?_
    refine gEy.iconst rfl rfl ?_
    refine gEy.newI (n := 12) (a := 116) rfl rfl rfl rfl rfl ?_
    refine gEy.putR rfl rfl rfl rfl rfl ?_
    refine gEy.aload rfl rfl rfl ?_
    refine gEy.iconst rfl rfl ?_
    refine gEy.newI (n := 12) (a := 117) rfl rfl rfl rfl rfl ?_
    refine gEy.putR rfl rfl rfl rfl rfl ?_
    refine gEy.aload rfl rfl rfl ?_
    refine gEy.iconst rfl rfl ?_
    refine gEy.newI (n := 12) (a := 118) rfl rfl rfl rfl rfl ?_
    refine gEy.putR rfl rfl rfl rfl rfl ?_
    refine gEy.aload rfl rfl rfl ?_
    refine gEy.iconst rfl rfl ?_
    refine gEy.newI (n := 12) (a := 119) rfl rfl rfl rfl rfl ?_
    refine gEy.putR rfl rfl rfl rfl rfl ?_
    refine gEy.aload rfl rfl rfl ?_
    refine gEy.iconst rfl rfl ?_
    refine gEy.newI (n := 12) (a := 120) rfl rfl rfl rfl rfl ?_
    refine gEy.putR rfl rfl rfl rfl rfl ?_
    refine gEy.aload rfl rfl rfl ?_
    refine gEy.iconst rfl rfl ?_
    refine gEy.newI (n := 12) (a := 121) rfl rfl rfl rfl rfl ?_
    refine gEy.putR rfl rfl rfl rfl rfl ?_
    refine gEy.aload rfl rfl rfl ?_
    refine gEy.iconst rfl rfl ?_
    refine gEy.newI (n := 12) (a := 122) rfl rfl rfl rfl rfl ?_
    refine gEy.putR rfl rfl rfl rfl rfl ?_
    refine gEy.aload rfl rfl rfl ?_
    refine gEy.iconst rfl rfl ?_
    refine gEy.newI (n := 7200) (a := 123) rfl rfl rfl rfl rfl ?_
    refine gEy.putR rfl rfl rfl rfl rfl ?_
    refine gEy.aload rfl rfl rfl ?_
    refine gEy.iconst rfl rfl ?_
    refine gEy.newI (n := 64) (a := 124) rfl rfl rfl rfl rfl ?_
    refine gEy.putR rfl rfl rfl rfl rfl ?_
    refine gEy.aload rfl rfl rfl ?_
    refine gEy.iconst rfl rfl ?_
    refine gEy.newI (n := 4) (a := 125) rfl rfl rfl rfl rfl ?_
    refine gEy.dupR rfl rfl ?_
    refine gEy.iconst rfl rfl ?_
    refine gEy.iconst rfl rfl ?_
    refine gEy.iast (j := 0) rfl rfl rfl rfl rfl ?_
    refine gEy.dupR rfl rfl ?_
    refine gEy.iconst rfl rfl ?_
    refine gEy.iconst rfl rfl ?_
    refine gEy.iast (j := 1) rfl rfl rfl rfl rfl ?_
    refine gEy.dupR rfl rfl ?_
    refine gEy.iconst rfl rfl ?_
    refine gEy.iconst rfl rfl ?_
    refine gEy.iast (j := 2) rfl rfl rfl rfl rfl ?_
    refine gEy.dupR rfl rfl ?_
    refine gEy.iconst rfl rfl ?_
    refine gEy.iconst rfl rfl ?_
    refine gEy.iast (j := 3) rfl rfl rfl rfl rfl ?_
    refine gEy.putR rfl rfl rfl rfl rfl ?_
    refine gEy.aload rfl rfl rfl ?_
    refine gEy.iconst rfl rfl ?_
    refine gEy.newI (n := 4) (a := 126) rfl rfl rfl rfl rfl ?_
    refine gEy.putR rfl rfl rfl rfl rfl ?_
    refine gEy.aload rfl rfl rfl ?_
    refine gEy.iconst rfl rfl ?_
    refine gEy.newI (n := 288) (a := 127) rfl rfl rfl rfl rfl ?_
    refine gEy.putR rfl rfl rfl rfl rfl ?_
    exact gEy.retv rfl rfl
  · rfl
  · exact (gHas.cons rfl (gHas.cons rfl (gHas.cons rfl (gHas.cons rfl (gHas.cons rfl (gHas.cons rfl (gHas.cons rfl (gHas.cons rfl (gHas.cons rfl (gHas.cons rfl (gHas.cons rfl (gHas.cons rfl (gHas.cons rfl (gHas.cons rfl (gHas.cons rfl (gHas.cons rfl (gHas.cons rfl (gHas.cons rfl (gHas.cons rfl (gHas.cons rfl (gHas.cons rfl (gHas.cons rfl (gHas.cons rfl (gHas.cons rfl (gHas.cons rfl (gHas.cons rfl (gHas.cons rfl (gHas.cons rfl (gHas.cons rfl (gHas.cons rfl (gHas.cons rfl (gHas.cons rfl (gHas.cons rfl (gHas.cons rfl (gHas.cons rfl (gHas.cons rfl (gHas.cons rfl (gHas.cons rfl (gHas.cons rfl (gHas.cons rfl (gHas.cons rfl (gHas.cons rfl (gHas.cons rfl (gHas.cons rfl (gHas.cons rfl (gHas.cons rfl (gHas.cons rfl gHas.nil)))))))))))))))))))))))))))))))))))))))))))))))
  · repeat first
      | exact gKp.rf
      | refine gKp.setS ?_ (Nat.le_of_ble_eq_true rfl)
      | refine gKp.setN ?_ (Nat.le_of_ble_eq_true rfl)
      | refine gKp.mkI ?_ (Nat.le_of_ble_eq_true rfl)
      | refine gKp.mkO ?_ (Nat.le_of_ble_eq_true rfl)
  · intro id q hid
    match id, hid with
    | 0, _ => exact (match q with | 0 => rfl | 1 => rfl | q + 2 => rfl)
    | 1, _ => exact (match q with | 0 => rfl | 1 => rfl | 2 => rfl | 3 => rfl | 4 => rfl | 5 => rfl | 6 => rfl | 7 => rfl | 8 => rfl | 9 => rfl | 10 => rfl | 11 => rfl | 12 => rfl | 13 => rfl | 14 => rfl | 15 => rfl | 16 => rfl | 17 => rfl | 18 => rfl | 19 => rfl | 20 => rfl | 21 => rfl | 22 => rfl | 23 => rfl | 24 => rfl | 25 => rfl | 26 => rfl | 27 => rfl | 28 => rfl | 29 => rfl | 30 => rfl | 31 => rfl | 32 => rfl | 33 => rfl | 34 => rfl | 35 => rfl | q + 36 => rfl)
    | 2, _ => rfl
    | 3, _ => rfl
    | 4, _ => exact (match q with | 0 => rfl | 1 => rfl | 2 => rfl | 3 => rfl | 4 => rfl | 5 => rfl | 6 => rfl | 7 => rfl | 8 => rfl | 9 => rfl | 10 => rfl | 11 => rfl | 12 => rfl | 13 => rfl | 14 => rfl | 15 => rfl | 16 => rfl | 17 => rfl | 18 => rfl | 19 => rfl | 20 => rfl | 21 => rfl | 22 => rfl | 23 => rfl | 24 => rfl | 25 => rfl | 26 => rfl | 27 => rfl | 28 => rfl | 29 => rfl | 30 => rfl | 31 => rfl | 32 => rfl | 33 => rfl | 34 => rfl | 35 => rfl | q + 36 => rfl)
    | 5, _ => rfl
    | 6, _ => exact (match q with | 0 => rfl | 1 => rfl | 2 => rfl | 3 => rfl | 4 => rfl | 5 => rfl | 6 => rfl | 7 => rfl | q + 8 => rfl)
    | 7, _ => rfl
    | 8, _ => rfl
    | 9, _ => rfl
    | 10, _ => rfl
    | 11, _ => rfl
    | 12, _ => rfl
    | 13, _ => rfl
    | 14, _ => rfl
    | 15, _ => rfl
    | 16, _ => rfl
    | 17, _ => rfl
    | 18, _ => rfl
    | 19, _ => rfl
    | 20, _ => rfl
    | 21, _ => rfl
    | 22, _ => rfl
    | 23, _ => exact (match q with | 0 => rfl | 1 => rfl | 2 => rfl | 3 => rfl | 4 => rfl | 5 => rfl | q + 6 => rfl)
    | 24, _ => rfl
    | 25, _ => rfl
    | 26, _ => rfl
    | 27, _ => rfl
    | 28, _ => rfl
    | 29, _ => rfl
    | 30, _ => rfl
    | 31, _ => rfl
    | 32, _ => exact (match q with | 0 => rfl | 1 => rfl | 2 => rfl | 3 => rfl | 4 => rfl | 5 => rfl | 6 => rfl | 7 => rfl | q + 8 => rfl)
    | 33, _ => exact (match q with | 0 => rfl | 1 => rfl | 2 => rfl | 3 => rfl | 4 => rfl | 5 => rfl | 6 => rfl | 7 => rfl | 8 => rfl | 9 => rfl | 10 => rfl | 11 => rfl | 12 => rfl | 13 => rfl | 14 => rfl | 15 => rfl | 16 => rfl | 17 => rfl | 18 => rfl | 19 => rfl | 20 => rfl | 21 => rfl | 22 => rfl | 23 => rfl | 24 => rfl | 25 => rfl | 26 => rfl | 27 => rfl | 28 => rfl | 29 => rfl | 30 => rfl | q + 31 => rfl)
    | 34, _ => exact (match q with | 0 => rfl | 1 => rfl | 2 => rfl | 3 => rfl | 4 => rfl | 5 => rfl | q + 6 => rfl)
    | 35, _ => rfl
    | 36, _ => rfl
    | 37, _ => rfl
    | 38, _ => rfl
    | 39, _ => rfl
    | 40, _ => rfl
    | 41, _ => rfl
    | 42, _ => rfl
    | 43, _ => rfl
    | 44, _ => exact (match q with | 0 => rfl | 1 => rfl | 2 => rfl | 3 => rfl | q + 4 => rfl)
    | 45, _ => rfl
    | 46, _ => rfl
    | id + 47, h => exact absurd h (by omega)
