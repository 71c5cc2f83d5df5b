/-! ===== the draws on both sides ===== -/
/-- a field told by its numbers; B bounds what a well drew in a shift -/
def FRX (C V : gN) (w h hr le we : Nat) (sd gs wt ol wp wc ww wo ws B : Nat → Nat) : Prop :=
  (1 ≤ w ∧ w ≤ 6 ∧ 1 ≤ h ∧ h ≤ 6 ∧ hr ≤ 199 ∧ le ≤ 12 ∧ we ≤ 10) ∧
  (V 22 0 = nI w ∧ V 22 1 = nI h ∧ V 22 2 = nI hr ∧ V 22 3 = nI le ∧ V 22 4 = nI we) ∧
  (C 2 0 = nI w ∧ C 2 1 = nI h ∧ C 2 2 = nI (w * h) ∧ C 0 4 = nI hr ∧ C 11 1 = nI le ∧ C 17 0 = nI we) ∧
  (∀ c, c < w * h → C 3 c = nI (c % w) ∧ C 4 c = nI (c / w)) ∧
  (C 5 = V 0 ∧ C 6 = V 1 ∧ C 7 = V 2 ∧ C 9 = V 3 ∧ C 10 = V 4) ∧
  (V 0 = (fun c => nI (sd c)) ∧ V 1 = (fun c => nI (gs c)) ∧ V 2 = (fun c => nI (wt c)) ∧ V 4 = (fun i => nI (ol i)) ∧ C 8 = fun c => nI (osum ol c)) ∧
  (∀ c, sd c ≤ 9 ∧ gs c ≤ 999) ∧
  (∀ c, c < 36 → V 3 c = -4 ∨ ∃ l, l < 8 ∧ V 3 c = nI l) ∧
  (C 12 = V 9 ∧ C 13 = V 10 ∧ C 14 = V 11 ∧ C 15 = V 12 ∧ C 16 = V 13) ∧
  (C 18 = V 14 ∧ C 19 = V 15 ∧ C 20 = V 16 ∧ C 21 = V 17) ∧
  (V 14 = (fun k => nI (wp k)) ∧ V 15 = (fun k => nI (wc k)) ∧ V 16 = (fun k => nI (ww k)) ∧ V 17 = fun k => nI (wo k)) ∧
  ((∀ k, k < we → wp k < 6 ∧ wc k < w * h ∧ ww k ≤ 60) ∧ ∀ k, wo k ≤ 1) ∧
  (∀ k, k < we → C 22 k = V 18 k ∧ C 23 k = V 19 k ∧ (∀ l, l < 9 → C 24 (9 * k + l) = V 20 (9 * k + l)) ∧ ∀ s, s < 50 → C 25 (50 * k + s) = nI (ws (60 * k + s)) ∧ V 21 (60 * k + s) = nI (ws (60 * k + s)) ∧ ws (60 * k + s) ≤ B k) ∧
  (∀ k, we ≤ k → k < 10 → C 22 k = 0 ∧ C 23 k = 0 ∧ (∀ l, l < 9 → C 24 (9 * k + l) = 0) ∧ ∀ s, s < 50 → C 25 (50 * k + s) = 0) ∧
  (C 27 = V 6 ∧ C 28 = V 7 ∧ C 29 = V 8 ∧ C 30 = V 5) ∧
  ∀ sel i, sel < 22 → fvZ sel ≤ i → V sel i = 0
theorem FRel.frx {n : Nat} {C V : gN} (H : FRel n C V) : ∃ (w h hr le we : Nat) (sd gs wt ol wp wc ww wo ws : Nat → Nat), FRX C V w h hr le we sd gs wt ol wp wc ww wo ws (fun _ => 60 * hr) ∧ gPB n hr gs wt ol := by
  obtain ⟨w, h9, hr, le, we, sd, gs, wt, ol, wp, wc, ww, wo, ws, a1, a2, a3, a4, a5, a6, ⟨a7, a7b⟩, a8, a9, b1, b2, b3, b4, b5, b6, b7⟩ := H
  exact ⟨w, h9, hr, le, we, sd, gs, wt, ol, wp, wc, ww, wo, ws, ⟨a1, a2, a3, a4, a5, a6, a7, a8, a9, b1, b2, b3, b4, b5, b6, b7⟩, a7b⟩
theorem FRX.rel {n w h hr le we : Nat} {C V : gN} {sd gs wt ol wp wc ww wo ws B : Nat → Nat} (H : FRX C V w h hr le we sd gs wt ol wp wc ww wo ws B) (hB : ∀ k, k < we → B k ≤ 60 * hr) (hP : gPB n hr gs wt ol) : FRel n C V := by
  obtain ⟨a1, a2, a3, a4, a5, a6, a7, a8, a9, b1, b2, b3, b4, b5, b6, b7⟩ := H
  exact ⟨w, h, hr, le, we, sd, gs, wt, ol, wp, wc, ww, wo, ws, a1, a2, a3, a4, a5, a6, ⟨a7, hP⟩, a8, a9, b1, b2, b3, fun k hk => ⟨(b4 k hk).1, (b4 k hk).2.1, (b4 k hk).2.2.1, fun s hs => ⟨((b4 k hk).2.2.2 s hs).1, ((b4 k hk).2.2.2 s hs).2.1, Nat.le_trans ((b4 k hk).2.2.2 s hs).2.2 (hB k hk)⟩⟩, b5, b6, b7⟩
/-- rows after a well has drawn; the same words serve both sides -/
def dRow1 (f : Nat → Int32) (c : Nat) (x : Int32) : Nat → Int32 := fun q => if q = c then x else f q
section FD
variable {C V C' V' : gN} {w h hr le we : Nat} {sd gs wt ol wp wc ww wo ws B : Nat → Nat}
theorem FRX.draw {k d o : Nat} (H : FRX C V w h hr le we sd gs wt ol wp wc ww wo ws B) (hk : k < we) (ho : o ≤ osum ol (wc k)) (ho6 : o ≤ 60) (hd : d - o ≤ wt (wc k))
    (c7 : C' 7 = dRow1 (C 7) (wc k) (nI (wt (wc k) - (d - o)))) (c8 : C' 8 = dRow1 (C 8) (wc k) (nI (osum ol (wc k) - o))) (c10 : C' 10 = fun q => nI (tkO ol (wc k) o q)) (c22 : C' 22 = dRow1 (C 22) k (C 22 k + nI o)) (c23 : C' 23 = dRow1 (C 23) k (C 23 k + nI (d - o))) (c24 : C' 24 = adR (C 24) k (tk ol (wc k) o) 9) (c25 : C' 25 = dRow1 (C 25) (50 * k + hr / 4) (C 25 (50 * k + hr / 4) + nI o)) (c27 : C' 27 = dRow1 (C 27) (wp k) (C 27 (wp k) + nI o))
    (cr : ∀ j, j < 31 → j ≠ 7 → j ≠ 8 → j ≠ 10 → j ≠ 22 → j ≠ 23 → j ≠ 24 → j ≠ 25 → j ≠ 27 → C' j = C j)
    (v2 : V' 2 = dRow1 (V 2) (wc k) (nI (wt (wc k) - (d - o)))) (v4 : V' 4 = fun q => nI (tkO ol (wc k) o q)) (v18 : V' 18 = dRow1 (V 18) k (V 18 k + nI o)) (v19 : V' 19 = dRow1 (V 19) k (V 19 k + nI (d - o))) (v20 : V' 20 = adR (V 20) k (tk ol (wc k) o) 9) (v21 : V' 21 = dRow1 (V 21) (60 * k + hr / 4) (V 21 (60 * k + hr / 4) + nI o)) (v6 : V' 6 = dRow1 (V 6) (wp k) (V 6 (wp k) + nI o))
    (vr : ∀ s, s < 22 → s ≠ 2 → s ≠ 4 → s ≠ 18 → s ≠ 19 → s ≠ 20 → s ≠ 21 → s ≠ 6 → V' s = V s) (v22 : ∀ i, i < 5 → V' 22 i = V 22 i) :
    FRX C' V' w h hr le we sd gs (fun q => if q = wc k then wt (wc k) - (d - o) else wt q) (tkO ol (wc k) o) wp wc ww wo (fun q => if q = 60 * k + hr / 4 then ws q + o else ws q) (fun j => if j = k then B j + 60 else B j) := by
  obtain ⟨a1, a2, a3, a4, ⟨d1, d2, d3, d4, d5⟩, ⟨o1, o2, o3, o4, o5⟩, a7, a8, ⟨e1, e2, e3, e4, e5⟩, ⟨f1, f2, f3, f4⟩, ⟨g1, g2, g3, g4⟩, ⟨b3, b3b⟩, b4, b5, ⟨k1, k2, k3, k4⟩, b7⟩ := H
  have hwc := (b3 k hk).2.1
  have h36 : w * h ≤ 6 * 6 := Nat.mul_le_mul a1.2.1 a1.2.2.2.1
  have hk10 : k < 10 := by omega
  have hsh : hr / 4 < 50 := by omega
  have CR : ∀ j, j < 31 → j ≠ 7 ∧ j ≠ 8 ∧ j ≠ 10 ∧ j ≠ 22 ∧ j ≠ 23 ∧ j ≠ 24 ∧ j ≠ 25 ∧ j ≠ 27 → C' j = C j := fun j hj z => cr j hj z.1 z.2.1 z.2.2.1 z.2.2.2.1 z.2.2.2.2.1 z.2.2.2.2.2.1 z.2.2.2.2.2.2.1 z.2.2.2.2.2.2.2
  have VR : ∀ s, s < 22 → s ≠ 2 ∧ s ≠ 4 ∧ s ≠ 18 ∧ s ≠ 19 ∧ s ≠ 20 ∧ s ≠ 21 ∧ s ≠ 6 → V' s = V s := fun s hs z => vr s hs z.1 z.2.1 z.2.2.1 z.2.2.2.1 z.2.2.2.2.1 z.2.2.2.2.2.1 z.2.2.2.2.2.2
  refine ⟨a1, ?_, ?_, ?_, ⟨?_, ?_, ?_, ?_, ?_⟩, ⟨?_, ?_, ?_, v4, ?_⟩, a7, ?_, ⟨?_, ?_, ?_, ?_, ?_⟩, ⟨?_, ?_, ?_, ?_⟩, ⟨?_, ?_, ?_, ?_⟩, ⟨b3, b3b⟩, fun j hj => ⟨?_, ?_, fun l hl => ?_, fun s hs => ?_⟩, fun j hj hj2 => ⟨?_, ?_, fun l hl => ?_, fun s hs => ?_⟩, ⟨?_, ?_, ?_, ?_⟩, fun sel i h1 h2 => ?_⟩
  · rw [v22 0 (by decide), v22 1 (by decide), v22 2 (by decide), v22 3 (by decide), v22 4 (by decide)]; exact a2
  · rw [CR 2 (by decide) (by decide), CR 0 (by decide) (by decide), CR 11 (by decide) (by decide), CR 17 (by decide) (by decide)]; exact a3
  · rw [CR 3 (by decide) (by decide), CR 4 (by decide) (by decide)]; exact a4
  · rw [CR 5 (by decide) (by decide), VR 0 (by decide) (by decide)]; exact d1
  · rw [CR 6 (by decide) (by decide), VR 1 (by decide) (by decide)]; exact d2
  · rw [c7, v2, d3]
  · rw [CR 9 (by decide) (by decide), VR 3 (by decide) (by decide)]; exact d4
  · rw [c10, v4]
  · rw [VR 0 (by decide) (by decide)]; exact o1
  · rw [VR 1 (by decide) (by decide)]; exact o2
  · rw [v2, o3]
    funext q
    show (if q = wc k then nI (wt (wc k) - (d - o)) else nI (wt q)) = nI (if q = wc k then wt (wc k) - (d - o) else wt q)
    split <;> rfl
  · rw [c8, o5]
    funext q
    show (if q = wc k then nI (osum ol (wc k) - o) else nI (osum ol q)) = nI (osum (tkO ol (wc k) o) q)
    rw [tkO_sum ho]
    split <;> rfl
  · rw [VR 3 (by decide) (by decide)]; exact a8
  · rw [CR 12 (by decide) (by decide), VR 9 (by decide) (by decide)]; exact e1
  · rw [CR 13 (by decide) (by decide), VR 10 (by decide) (by decide)]; exact e2
  · rw [CR 14 (by decide) (by decide), VR 11 (by decide) (by decide)]; exact e3
  · rw [CR 15 (by decide) (by decide), VR 12 (by decide) (by decide)]; exact e4
  · rw [CR 16 (by decide) (by decide), VR 13 (by decide) (by decide)]; exact e5
  · rw [CR 18 (by decide) (by decide), VR 14 (by decide) (by decide)]; exact f1
  · rw [CR 19 (by decide) (by decide), VR 15 (by decide) (by decide)]; exact f2
  · rw [CR 20 (by decide) (by decide), VR 16 (by decide) (by decide)]; exact f3
  · rw [CR 21 (by decide) (by decide), VR 17 (by decide) (by decide)]; exact f4
  · rw [VR 14 (by decide) (by decide)]; exact g1
  · rw [VR 15 (by decide) (by decide)]; exact g2
  · rw [VR 16 (by decide) (by decide)]; exact g3
  · rw [VR 17 (by decide) (by decide)]; exact g4
  · rw [c22, v18]
    unfold dRow1
    by_cases e : j = k
    · rw [if_pos e, if_pos e, (b4 k hk).1]
    · rw [if_neg e, if_neg e, (b4 j hj).1]
  · rw [c23, v19]
    unfold dRow1
    by_cases e : j = k
    · rw [if_pos e, if_pos e, (b4 k hk).2.1]
    · rw [if_neg e, if_neg e, (b4 j hj).2.1]
  · rw [c24, v20]
    unfold adR
    rw [(b4 j hj).2.2.1 l hl]
  · have q := (b4 j hj).2.2.2 s hs
    rw [c25, v21]
    show (if 50 * j + s = 50 * k + hr / 4 then C 25 (50 * k + hr / 4) + nI o else C 25 (50 * j + s)) = nI (if 60 * j + s = 60 * k + hr / 4 then ws (60 * j + s) + o else ws (60 * j + s)) ∧ (if 60 * j + s = 60 * k + hr / 4 then V 21 (60 * k + hr / 4) + nI o else V 21 (60 * j + s)) = nI (if 60 * j + s = 60 * k + hr / 4 then ws (60 * j + s) + o else ws (60 * j + s)) ∧ (if 60 * j + s = 60 * k + hr / 4 then ws (60 * j + s) + o else ws (60 * j + s)) ≤ (if j = k then B j + 60 else B j)
    by_cases e : j = k ∧ s = hr / 4
    · rw [if_pos (by omega), if_pos (by omega), if_pos (by omega), if_pos e.1, ← e.1, ← e.2, q.1, q.2.1, nI_add]
      exact ⟨rfl, rfl, by have := q.2.2; omega⟩
    · rw [if_neg (by omega), if_neg (by omega), if_neg (by omega)]
      refine ⟨q.1, q.2.1, ?_⟩
      by_cases e2 : j = k
      · rw [if_pos e2]; have := q.2.2; omega
      · rw [if_neg e2]; exact q.2.2
  · rw [c22]; show (if j = k then _ else _) = _; rw [if_neg (by omega)]; exact (b5 j hj hj2).1
  · rw [c23]; show (if j = k then _ else _) = _; rw [if_neg (by omega)]; exact (b5 j hj hj2).2.1
  · rw [c24]; unfold adR; rw [if_neg (by omega)]; exact (b5 j hj hj2).2.2.1 l hl
  · rw [c25]; show (if 50 * j + s = 50 * k + hr / 4 then _ else _) = _; rw [if_neg (by omega)]; exact (b5 j hj hj2).2.2.2 s hs
  · rw [c27, v6, k1]
  · rw [CR 28 (by decide) (by decide), VR 7 (by decide) (by decide)]; exact k2
  · rw [CR 29 (by decide) (by decide), VR 8 (by decide) (by decide)]; exact k3
  · rw [CR 30 (by decide) (by decide), VR 5 (by decide) (by decide)]; exact k4
  · by_cases s2 : sel = 2
    · subst s2
      have h2 : 36 ≤ i := h2
      rw [v2]; show (if i = wc k then _ else _) = _; rw [if_neg (by omega)]; exact b7 2 i h1 h2
    · by_cases s4 : sel = 4
      · subst s4
        have h2 : 324 ≤ i := h2
        rw [v4]
        show nI (tkO ol (wc k) o i) = 0
        unfold tkO
        rw [if_neg (by omega)]
        have := b7 4 i h1 h2
        rw [o4] at this
        exact this
      · by_cases s18 : sel = 18
        · subst s18
          have h2 : 14 ≤ i := h2
          rw [v18]; show (if i = k then _ else _) = _; rw [if_neg (by omega)]; exact b7 18 i h1 h2
        · by_cases s19 : sel = 19
          · subst s19
            have h2 : 14 ≤ i := h2
            rw [v19]; show (if i = k then _ else _) = _; rw [if_neg (by omega)]; exact b7 19 i h1 h2
          · by_cases s20 : sel = 20
            · subst s20
              have h2 : 126 ≤ i := h2
              rw [v20]; unfold adR; rw [if_neg (by omega)]; exact b7 20 i h1 h2
            · by_cases s21 : sel = 21
              · subst s21
                have h2 : 840 ≤ i := h2
                rw [v21]; show (if i = 60 * k + hr / 4 then _ else _) = _; rw [if_neg (by omega)]; exact b7 21 i h1 h2
              · by_cases s6 : sel = 6
                · subst s6
                  have h2 : 6 ≤ i := h2
                  have := (b3 k hk).1
                  rw [v6]; show (if i = wp k then _ else _) = _; rw [if_neg (by omega)]; exact b7 6 i h1 h2
                · rw [VR sel h1 ⟨s2, s4, s18, s19, s20, s21, s6⟩]; exact b7 sel i h1 h2
end FD
theorem drC_row (N : gN) (f : Nat → Nat) (k c p i d o os wt : Nat) :
    (drC N f k c p i d o os wt 8 = dRow1 (N 8) c (nI (wt - (d - o)))) ∧ (drC N f k c p i d o os wt 9 = dRow1 (N 9) c (nI (os - o))) ∧ (drC N f k c p i d o os wt 11 = fun q => nI (tkO f c o q)) ∧ (drC N f k c p i d o os wt 23 = dRow1 (N 23) k (N 23 k + nI (gsum (tk f c o) 9))) ∧ (drC N f k c p i d o os wt 24 = dRow1 (N 24) k (N 24 k + nI (d - o))) ∧ (drC N f k c p i d o os wt 25 = adR (N 25) k (tk f c o) 9) ∧ (drC N f k c p i d o os wt 26 = dRow1 (N 26) i (N 26 i + nI (gsum (tk f c o) 9))) ∧ (drC N f k c p i d o os wt 28 = dRow1 (N 28) p (N 28 p + nI o)) ∧ ∀ a, a ≠ 8 ∧ a ≠ 9 ∧ a ≠ 11 ∧ a ≠ 23 ∧ a ≠ 24 ∧ a ≠ 25 ∧ a ≠ 26 ∧ a ≠ 28 ∧ a ≠ 47 → drC N f k c p i d o os wt a = N a := by
  have base : ∀ a q, a ≠ 47 → a ≠ 11 → a ≠ 9 → a ≠ 8 → gup (gup (grw (grw N 47 (tkR (N 47) f c o 9)) 11 (fun q => nI (tkO f c o q))) 9 c (nI (os - o))) 8 c (nI (wt - (d - o))) a q = N a q := by
    intro a q z1 z2 z3 z4
    rw [gup_row z4, gup_row z3, grw_ne z2, grw_ne z1]
  refine ⟨?_, ?_, ?_, ?_, ?_, ?_, ?_, ?_, ?_⟩
  · funext q
    unfold drC ndN
    rw [gup_row (by decide), gup_row (by decide), if_neg (by omega), if_neg (by omega), if_neg (by omega), gup_eq]
    show (if q = c then _ else gup (grw (grw N 47 _) 11 _) 9 c _ 8 q) = _
    rw [gup_row (by decide), grw_ne (by decide), grw_ne (by decide)]
    rfl
  · funext q
    unfold drC ndN
    rw [gup_row (by decide), gup_row (by decide), if_neg (by omega), if_neg (by omega), if_neg (by omega), gup_row (by decide), gup_eq]
    show (if q = c then _ else grw (grw N 47 _) 11 _ 9 q) = _
    rw [grw_ne (by decide), grw_ne (by decide)]
    rfl
  · funext q
    unfold drC ndN
    rw [gup_row (by decide), gup_row (by decide), if_neg (by omega), if_neg (by omega), if_neg (by omega), gup_row (by decide), gup_row (by decide), grw_eq]
  · funext q
    unfold drC ndN
    rw [gup_row (by decide), gup_row (by decide), base 23 k (by decide) (by decide) (by decide) (by decide), base 23 q (by decide) (by decide) (by decide) (by decide), base 25 q (by decide) (by decide) (by decide) (by decide), base 26 i (by decide) (by decide) (by decide) (by decide)]
    unfold dRow1
    by_cases e : q = k
    · rw [if_pos ⟨rfl, e⟩, if_pos e]
    · rw [if_neg (fun z => e z.2), if_neg (by omega), if_neg (by omega), if_neg e]
  · funext q
    unfold drC
    rw [gup_row (by decide), gup_eq]
    unfold dRow1
    show (if q = k then _ else ndN _ k i _ 9 24 q) = _
    by_cases e : q = k
    · rw [if_pos e, if_pos e]
    · rw [if_neg e, if_neg e]
      unfold ndN
      rw [if_neg (by omega), if_neg (by omega), if_neg (by omega), base 24 q (by decide) (by decide) (by decide) (by decide)]
  · funext q
    unfold drC ndN
    rw [gup_row (by decide), gup_row (by decide), if_neg (by omega), base 25 q (by decide) (by decide) (by decide) (by decide)]
    unfold adR
    by_cases e : 9 * k ≤ q ∧ q < 9 * k + 9
    · rw [if_pos ⟨rfl, e⟩, if_pos e]
    · rw [if_neg (fun z => e z.2), if_neg (by omega), if_neg e]
  · funext q
    unfold drC ndN
    rw [gup_row (by decide), gup_row (by decide), if_neg (by omega), if_neg (by omega), base 26 i (by decide) (by decide) (by decide) (by decide), base 26 q (by decide) (by decide) (by decide) (by decide)]
    unfold dRow1
    by_cases e : q = i
    · rw [if_pos ⟨rfl, e⟩, if_pos e]
    · rw [if_neg (fun z => e z.2), if_neg e]
  · funext q
    unfold drC
    rw [gup_eq]
    unfold dRow1
    show (if q = p then _ else gup (ndN _ k i _ 9) 24 k _ 28 q) = _
    by_cases e : q = p
    · rw [if_pos e, if_pos e]
    · rw [if_neg e, if_neg e, gup_row (by decide)]
      unfold ndN
      rw [if_neg (by omega), if_neg (by omega), if_neg (by omega), base 28 q (by decide) (by decide) (by decide) (by decide)]
  · intro a z
    funext q
    unfold drC ndN
    rw [gup_row (by omega), gup_row (by omega), if_neg (by omega), if_neg (by omega), if_neg (by omega), base a q (by omega) (by omega) (by omega) (by omega)]
theorem drM_row (N : gN) (f : Nat → Nat) (k c p i d o wt : Nat) :
    (drM N f k c p i d o wt 84 = dRow1 (N 84) c (nI (wt - (d - o)))) ∧ (drM N f k c p i d o wt 86 = fun q => nI (tkO f c o q)) ∧ (drM N f k c p i d o wt 96 = dRow1 (N 96) k (N 96 k + nI o)) ∧ (drM N f k c p i d o wt 97 = dRow1 (N 97) k (N 97 k + nI (d - o))) ∧ (drM N f k c p i d o wt 98 = adR (N 98) k (tk f c o) 9) ∧ (drM N f k c p i d o wt 99 = dRow1 (N 99) i (N 99 i + nI o)) ∧ (drM N f k c p i d o wt 100 = dRow1 (N 100) p (N 100 p + nI o)) ∧ ∀ a, a ≠ 84 ∧ a ≠ 86 ∧ a ≠ 96 ∧ a ≠ 97 ∧ a ≠ 98 ∧ a ≠ 99 ∧ a ≠ 100 ∧ a ≠ 105 → drM N f k c p i d o wt a = N a := by
  unfold drM
  refine ⟨?_, ?_, ?_, ?_, ?_, ?_, ?_, ?_⟩
  · rw [gup_ne (by decide), gup_ne (by decide), grw_ne (by decide), gup_ne (by decide), gup_ne (by decide), gup_eq, grw_ne (by decide), grw_ne (by decide)]
    rfl
  · rw [gup_ne (by decide), gup_ne (by decide), grw_ne (by decide), gup_ne (by decide), gup_ne (by decide), gup_ne (by decide), grw_eq]
  · rw [gup_ne (by decide), gup_ne (by decide), grw_ne (by decide), gup_eq, gup_ne (by decide), gup_ne (by decide), grw_ne (by decide), grw_ne (by decide)]
    rfl
  · rw [gup_ne (by decide), gup_ne (by decide), grw_ne (by decide), gup_ne (by decide), gup_eq, gup_ne (by decide), grw_ne (by decide), grw_ne (by decide)]
    rfl
  · rw [gup_ne (by decide), gup_ne (by decide), grw_eq]
  · rw [gup_ne (by decide), gup_eq, grw_ne (by decide), gup_ne (by decide), gup_ne (by decide), gup_ne (by decide), grw_ne (by decide), grw_ne (by decide)]
    rfl
  · rw [gup_eq, gup_ne (by decide), grw_ne (by decide), gup_ne (by decide), gup_ne (by decide), gup_ne (by decide), grw_ne (by decide), grw_ne (by decide)]
    rfl
  · intro a z
    rw [gup_ne (by omega), gup_ne (by omega), grw_ne (by omega), gup_ne (by omega), gup_ne (by omega), gup_ne (by omega), grw_ne (by omega), grw_ne (by omega)]
theorem tk_zero (f : Nat → Nat) (c l : Nat) : tk f c 0 l = 0 := by
  have p0 : ∀ l, tkp f c 0 l = 0 := fun l => by unfold tkp; rw [Nat.zero_mul, Nat.zero_div]
  have l0 : ∀ l, tkl f c 0 l = 0 := by
    intro l
    induction l with
    | zero => show 0 - _ = 0; omega
    | succ l ih =>
      show (if 0 < tkl f c 0 l ∧ tkp f c 0 l < f (9 * c + l) then tkl f c 0 l - 1 else tkl f c 0 l) = 0
      rw [if_neg (by omega), ih]
  unfold tk
  rw [l0, if_neg (by omega), p0]
theorem tkO_zero (f : Nat → Nat) (c : Nat) : tkO f c 0 = f := by
  funext q
  unfold tkO
  rw [tk_zero]
  split <;> omega
theorem dRow1_id (f : Nat → Int32) (c : Nat) (x : Int32) (h : x = f c) : dRow1 f c x = f := by
  funext q
  unfold dRow1
  by_cases e : q = c
  · rw [if_pos e, h, e]
  · rw [if_neg e]
theorem adR_id (f : Nat → Int32) (k : Nat) (t : Nat → Nat) (j : Nat) (h : ∀ l, t l = 0) : adR f k t j = f := by
  funext q
  unfold adR
  rw [h]
  show (if _ then f q + 0 else f q) = f q
  rw [Int32.add_zero]
  split <;> rfl
