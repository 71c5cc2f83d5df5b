/-! ===== the invariant ===== -/
/-- oil of a cell: the sum of its nine places -/
def osum (ol : Nat → Nat) (c : Nat) : Nat := ol (9 * c) + ol (9 * c + 1) + ol (9 * c + 2) + ol (9 * c + 3) + ol (9 * c + 4) + ol (9 * c + 5) + ol (9 * c + 6) + ol (9 * c + 7) + ol (9 * c + 8)
def gPush (gs wt ol : Nat → Nat) (c : Nat) : Nat := wt c + gs c + osum ol c
/-- push without the fresh oil -/
def gDry (gs wt ol : Nat → Nat) (c : Nat) : Nat := max (wt c + gs c) (gPush gs wt ol c - 999)
def gsum (f : Nat → Nat) : Nat → Nat
  | 0 => 0
  | n + 1 => gsum f n + f n
/-- how far push may have come after n calls, in hour hr -/
def gPB (n hr : Nat) (gs wt ol : Nat → Nat) : Prop := (∀ c, c < 36 → gDry gs wt ol c ≤ 51000 + 225 * hr) ∧ gsum (fun c => gDry gs wt ol c * gDry gs wt ol c) 36 ≤ 120000000 * hr + 4000000 * n
/-- the reference's view of the field that is now: rows by number, 22: wide, high, hour, leases, wells -/
def fvL (N : gN) : gN := fun sel => match sel with
  | 0 => N 82
  | 1 => N 83
  | 2 => N 84
  | 3 => N 85
  | 4 => N 86
  | 5 => N 103
  | 6 => N 100
  | 7 => N 101
  | 8 => N 102
  | 9 => N 87
  | 10 => N 88
  | 11 => N 89
  | 12 => N 90
  | 13 => N 91
  | 14 => N 92
  | 15 => N 93
  | 16 => N 94
  | 17 => N 95
  | 18 => N 96
  | 19 => N 97
  | 20 => N 98
  | 21 => N 99
  | _ => fun i => match i with
    | 0 => N 81 0
    | 1 => N 81 1
    | 2 => N 81 2
    | 3 => N 81 10
    | 4 => N 81 15
    | _ => 0
/-- how long the rows are -/
def fvLen : Nat → Nat := fun sel => match sel with
  | 0 => 36 | 1 => 36 | 2 => 36 | 3 => 36 | 4 => 324 | 5 => 50 | 6 => 6 | 7 => 6 | 8 => 6 | 9 => 8 | 10 => 12 | 11 => 12 | 12 => 12 | 13 => 12
  | 14 => 14 | 15 => 14 | 16 => 14 | 17 => 14 | 18 => 14 | 19 => 14 | 20 => 126 | 21 => 840 | _ => 5
/-- from where on they are empty -/
def fvZ : Nat → Nat := fun sel => match sel with
  | 0 => 36 | 1 => 36 | 2 => 36 | 3 => 36 | 4 => 324 | 5 => 50 | 6 => 6 | 7 => 6 | 8 => 6 | 9 => 8 | 10 => 12 | 11 => 12 | 12 => 12 | 13 => 12
  | 14 => 10 | 15 => 10 | 16 => 10 | 17 => 10 | 18 => 14 | 19 => 14 | 20 => 126 | 21 => 840 | _ => 5
/-- where a kept page has them -/
def fvOff : Nat → Nat → Nat := fun sel i => match sel with
  | 0 => 3 + 4 * i
  | 1 => 4 + 4 * i
  | 2 => 5 + 4 * i
  | 3 => 6 + 4 * i
  | 4 => 147 + i
  | 5 => 471 + i
  | 6 => 521 + 3 * i
  | 7 => 522 + 3 * i
  | 8 => 523 + 3 * i
  | 9 => 539 + i
  | 10 => 548 + 4 * i
  | 11 => 549 + 4 * i
  | 12 => 550 + 4 * i
  | 13 => 551 + 4 * i
  | 14 => 597 + 6 * i
  | 15 => 598 + 6 * i
  | 16 => 599 + 6 * i
  | 17 => 600 + 6 * i
  | 18 => 601 + 6 * i
  | 19 => 602 + 6 * i
  | 20 => 681 + i
  | 21 => 807 + i
  | _ => match i with
    | 0 => 0
    | 1 => 1
    | 2 => 2
    | 3 => 547
    | _ => 596
/-- the reference's view of a kept field: page k of row 123 -/
def fvP (N : gN) (k : Nat) : gN := fun sel i => if i < fvLen sel then N 123 (1800 * k + fvOff sel i) else 0
/-- a field: class block C (offsets of a Town), reference rows V, after n calls -/
def FRel (n : Nat) (C V : gN) : Prop := ∃ (w h hr le we : Nat) (sd gs wt ol wp wc ww wo ws : Nat → Nat),
  (1 ≤ w ∧ w ≤ 6 ∧ 1 ≤ h ∧ h ≤ 6 ∧ hr ≤ 199 ∧ le ≤ 12 ∧ we ≤ 10) ∧
  (V 22 0 = nI w ∧ V 22 1 = nI h ∧ V 22 2 = nI hr ∧ V 22 3 = nI le ∧ V 22 4 = nI we) ∧
  (C 2 0 = nI w ∧ C 2 1 = nI h ∧ C 2 2 = nI (w * h) ∧ C 0 4 = nI hr ∧ C 11 1 = nI le ∧ C 17 0 = nI we) ∧
  (∀ c, c < w * h → C 3 c = nI (c % w) ∧ C 4 c = nI (c / w)) ∧
  (C 5 = V 0 ∧ C 6 = V 1 ∧ C 7 = V 2 ∧ C 9 = V 3 ∧ C 10 = V 4) ∧
  (V 0 = (fun c => nI (sd c)) ∧ V 1 = (fun c => nI (gs c)) ∧ V 2 = (fun c => nI (wt c)) ∧ V 4 = (fun i => nI (ol i)) ∧ C 8 = fun c => nI (osum ol c)) ∧
  ((∀ c, sd c ≤ 9 ∧ gs c ≤ 999) ∧ gPB n hr gs wt ol) ∧
  (∀ c, c < 36 → V 3 c = -4 ∨ ∃ l, l < 8 ∧ V 3 c = nI l) ∧
  (C 12 = V 9 ∧ C 13 = V 10 ∧ C 14 = V 11 ∧ C 15 = V 12 ∧ C 16 = V 13) ∧
  (C 18 = V 14 ∧ C 19 = V 15 ∧ C 20 = V 16 ∧ C 21 = V 17) ∧
  (V 14 = (fun k => nI (wp k)) ∧ V 15 = (fun k => nI (wc k)) ∧ V 16 = (fun k => nI (ww k)) ∧ V 17 = fun k => nI (wo k)) ∧
  ((∀ k, k < we → wp k < 6 ∧ wc k < w * h ∧ ww k ≤ 60) ∧ ∀ k, wo k ≤ 1) ∧
  (∀ k, k < we → C 22 k = V 18 k ∧ C 23 k = V 19 k ∧ (∀ l, l < 9 → C 24 (9 * k + l) = V 20 (9 * k + l)) ∧ ∀ s, s < 50 → C 25 (50 * k + s) = nI (ws (60 * k + s)) ∧ V 21 (60 * k + s) = nI (ws (60 * k + s)) ∧ ws (60 * k + s) ≤ 60 * hr) ∧
  (∀ k, we ≤ k → k < 10 → C 22 k = 0 ∧ C 23 k = 0 ∧ (∀ l, l < 9 → C 24 (9 * k + l) = 0) ∧ ∀ s, s < 50 → C 25 (50 * k + s) = 0) ∧
  (C 27 = V 6 ∧ C 28 = V 7 ∧ C 29 = V 8 ∧ C 30 = V 5) ∧
  ∀ sel i, sel < 22 → fvZ sel ≤ i → V sel i = 0
def GPers (N : gN) : Prop := ∃ np : Nat, np ≤ 6 ∧ N 0 3 = nI np ∧ N 81 8 = nI np ∧ N 33 = N 104 ∧ ∀ p, p < 6 → N 104 p = -4 ∨ ∃ c, c < 36 ∧ N 104 p = nI c
def GTape (N : gN) : Prop := (∃ ts : Nat, ts ≤ 160 ∧ N 34 0 = nI ts ∧ N 81 37 = nI ts) ∧ N 35 = N 112 ∧ (∃ by_ : Nat → Nat, N 112 = (fun i => nI (by_ i)) ∧ ∀ i, by_ i < 256) ∧ N 34 3 = N 81 38 ∧ N 113 = gI0 113 ∧ N 114 = gI0 114 ∧ N 115 = gI0 115
def GLaw (N : gN) : Prop := ∃ (nl : Nat) (ru fr nu vo : Nat → Nat), nl ≤ 12 ∧ N 41 0 = nI nl ∧ N 81 48 = nI nl ∧ (∀ k, k < nl → (N 42 k = nI (ru k) ∧ N 116 k = nI (ru k) ∧ ru k ≤ 5) ∧ (N 43 k = nI (fr k) ∧ N 117 k = nI (fr k) ∧ fr k ≤ 49) ∧ (N 44 k = nI (nu k) ∧ N 118 k = nI (nu k) ∧ nu k ≤ 999 ∧ (ru k ≤ 1 → nu k ≤ 9)) ∧ N 45 k = nI (vo k) ∧ N 119 k = nI (vo k) ∧ vo k ≤ 1) ∧ ∀ k, k < 12 → N 40 k = 0
def GSheet (N : gN) (k : Nat) : Prop := N (73 + 2 * k) 0 = N 125 k ∧ (N 125 k = -4 ∨ ∃ la, la < 3 ∧ N 125 k = nI la) ∧ (∃ sz : Nat, sz ≤ 72 ∧ N (73 + 2 * k) 1 = nI sz ∧ N 126 k = nI sz) ∧ ∀ i, i < 72 → N (74 + 2 * k) i = N 127 (72 * k + i)
def GKept (n K : Nat) (N : gN) : Prop := K ≤ 3 ∧ N 0 2 = nI K ∧ N 81 60 = nI K ∧ (0 < K → FRel n (fun j => N (128 + j)) (fvP N 0)) ∧ (1 < K → FRel n (fun j => N (159 + j)) (fvP N 1)) ∧ (2 < K → FRel n (fun j => N (190 + j)) (fvP N 2))
def Inv (n K : Nat) (N : gN) : Prop := FRel n (fun j => N (1 + j)) (fvL N) ∧ GPers N ∧ GTape N ∧ GLaw N ∧ (GSheet N 0 ∧ GSheet N 1 ∧ GSheet N 2 ∧ GSheet N 3) ∧ GKept n K N
def klOf (K : Nat) : List (Option Nat) := [if 0 < K then some 128 else none, if 1 < K then some 159 else none, if 2 < K then some 190 else none]
/-- the whole of it: shapes and numbers -/
def gI (n : Nat) (q : gS) : Prop := ∃ K : Nat, q.1.2 = 128 + 31 * K ∧ gHas q.1.1 0 (gsh_OT (klOf K)) ∧ gHas q.1.1 81 gsh_MO ∧ (∀ j, j < K → gHas q.1.1 (128 + 31 * j) (gsh_Town (128 + 31 * j))) ∧ Inv n K q.2.1
theorem gPB.mono {n n' hr : Nat} {gs wt ol : Nat → Nat} (h : n ≤ n') (H : gPB n hr gs wt ol) : gPB n' hr gs wt ol := ⟨H.1, by have := H.2; omega⟩
theorem FRel.mono {n n' : Nat} {C V : gN} (h : n ≤ n') (H : FRel n C V) : FRel n' C V := by
  obtain ⟨w, h9, hr, le, we, sd, gs, wt, ol, wp, wc, ww, wo, ws, a1, a2, a3, a4, a5, a6, ⟨a7, a8⟩, r⟩ := H
  exact ⟨w, h9, hr, le, we, sd, gs, wt, ol, wp, wc, ww, wo, ws, a1, a2, a3, a4, a5, a6, ⟨a7, a8.mono h⟩, r⟩
theorem GKept.mono {n n' K : Nat} {N : gN} (h : n ≤ n') (H : GKept n K N) : GKept n' K N := ⟨H.1, H.2.1, H.2.2.1, fun z => (H.2.2.2.1 z).mono h, fun z => (H.2.2.2.2.1 z).mono h, fun z => (H.2.2.2.2.2 z).mono h⟩
theorem Inv.mono {n n' K : Nat} {N : gN} (h : n ≤ n') (H : Inv n K N) : Inv n' K N := ⟨H.1.mono h, H.2.1, H.2.2.1, H.2.2.2.1, H.2.2.2.2.1, H.2.2.2.2.2.mono h⟩
theorem gI.skip {n : Nat} {q : gS} (H : gI n q) : gI (n + 1) q := by
  obtain ⟨K, a, b, c, d, e⟩ := H
  exact ⟨K, a, b, c, d, e.mono (by omega)⟩
theorem gI.begun {q : gS} (h : gBegun q) : gI 0 q := by
  obtain ⟨h1, h2, h3, h4⟩ := h
  refine ⟨0, h1, h2, h3, fun j hj => by omega, ?_⟩
  have e : ∀ id, id < 128 → q.2.1 id = gI0 id := fun id hid => funext fun x => h4 id x hid
  have E : Inv 0 0 gI0 := by
    refine ⟨?_, ?_, ?_, ?_, ?_, ?_⟩
    · refine ⟨3, 3, 0, 0, 0, fun c => if c < 36 then 5 else 0, fun _ => 0, fun _ => 0, fun _ => 0, fun _ => 0, fun _ => 0, fun _ => 0, fun _ => 0, fun _ => 0, by decide, ⟨rfl, rfl, rfl, rfl, rfl⟩, ⟨rfl, rfl, rfl, rfl, rfl, rfl⟩, by decide, ⟨rfl, rfl, rfl, rfl, rfl⟩, ⟨?_, rfl, rfl, rfl, rfl⟩, ⟨?_, ?_⟩, ?_, ⟨rfl, rfl, rfl, rfl, rfl⟩, ⟨rfl, rfl, rfl, rfl⟩, ⟨rfl, rfl, rfl, rfl⟩, ⟨fun k hk => by omega, fun k => Nat.zero_le _⟩, fun k hk => by omega, fun k _ _ => ⟨rfl, rfl, fun _ _ => rfl, fun _ _ => rfl⟩, ⟨rfl, rfl, rfl, rfl⟩, ?_⟩
      · funext c
        show (if c < 36 then (5 : Int32) else 0) = nI (if c < 36 then 5 else 0)
        split <;> rfl
      · intro c
        refine ⟨?_, Nat.zero_le _⟩
        show (if c < 36 then 5 else 0) ≤ 9
        split <;> omega
      · refine ⟨fun c _ => ?_, ?_⟩
        · show max (0 + 0) (0 + 0 + (0 + 0 + 0 + 0 + 0 + 0 + 0 + 0 + 0) - 999) ≤ _
          omega
        · decide
      · intro c hc
        left
        show (if c < 36 then (-4 : Int32) else 0) = -4
        rw [if_pos hc]
      · intro sel i hs hi
        match sel, hs with
        | 0, _ => exact if_neg (Nat.not_lt.mpr hi)
        | 1, _ => rfl
        | 2, _ => rfl
        | 3, _ => exact if_neg (Nat.not_lt.mpr hi)
        | 4, _ => rfl
        | 5, _ => rfl
        | 6, _ => rfl
        | 7, _ => rfl
        | 8, _ => rfl
        | 9, _ => exact if_neg (Nat.not_lt.mpr hi)
        | 10, _ => rfl
        | 11, _ => rfl
        | 12, _ => rfl
        | 13, _ => rfl
        | 14, _ => rfl
        | 15, _ => rfl
        | 16, _ => rfl
        | 17, _ => rfl
        | 18, _ => rfl
        | 19, _ => rfl
        | 20, _ => rfl
        | 21, _ => rfl
        | sel + 22, h => omega
    · exact ⟨0, by decide, rfl, rfl, rfl, fun p hp => Or.inl (if_pos hp)⟩
    · exact ⟨⟨0, by decide, rfl, rfl⟩, rfl, ⟨fun _ => 0, rfl, fun _ => Nat.le_of_ble_eq_true rfl⟩, rfl, rfl, rfl, rfl⟩
    · exact ⟨0, fun _ => 0, fun _ => 0, fun _ => 0, fun _ => 0, by decide, rfl, rfl, fun k hk => by omega, fun _ _ => rfl⟩
    · exact ⟨⟨rfl, Or.inl rfl, ⟨0, by decide, rfl, rfl⟩, fun i _ => rfl⟩, ⟨rfl, Or.inl rfl, ⟨0, by decide, rfl, rfl⟩, fun i _ => rfl⟩, ⟨rfl, Or.inl rfl, ⟨0, by decide, rfl, rfl⟩, fun i _ => rfl⟩, ⟨rfl, Or.inl rfl, ⟨0, by decide, rfl, rfl⟩, fun i _ => rfl⟩⟩
    · exact ⟨by decide, rfl, rfl, fun z => by omega, fun z => by omega, fun z => by omega⟩
  have E2 : Inv 0 0 (fun id => if id < 128 then q.2.1 id else gI0 id) := by
    have : (fun id => if id < 128 then q.2.1 id else gI0 id) = gI0 := by
      funext id
      by_cases hid : id < 128
      · rw [if_pos hid]; exact e id hid
      · rw [if_neg hid]
    rw [this]
    exact E
  exact ⟨E2.1, E2.2.1, E2.2.2.1, E2.2.2.2.1, E2.2.2.2.2.1, by decide, E2.2.2.2.2.2.2.1, E2.2.2.2.2.2.2.2.1, fun z => by omega, fun z => by omega, fun z => by omega⟩
