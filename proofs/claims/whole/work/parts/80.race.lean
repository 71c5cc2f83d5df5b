/-! ===== a race as numbers ===== -/
theorem osum_ex (os : Nat → Nat) : ∃ ol, osum ol = os := by
  refine ⟨fun i => if i % 9 = 0 then os (i / 9) else 0, funext fun c => ?_⟩
  have g : ∀ k, k < 9 → 0 < k → (if (9 * c + k) % 9 = 0 then os ((9 * c + k) / 9) else 0) = 0 := fun k h1 h2 => if_neg (by omega)
  have g0 : (if 9 * c % 9 = 0 then os (9 * c / 9) else 0) = os c := by rw [if_pos (by omega), show 9 * c / 9 = c by omega]
  unfold osum
  dsimp only
  rw [g0, g 1 (by decide) (by decide), g 2 (by decide) (by decide), g 3 (by decide) (by decide), g 4 (by decide) (by decide), g 5 (by decide) (by decide), g 6 (by decide) (by decide), g 7 (by decide) (by decide), g 8 (by decide) (by decide)]
  rfl
section RN
variable {w h : Nat} {sd gs wt os wt' os' : Nat → Nat}
/-- oil of the cells after the flows, where nobody asks of lots -/
def flS (w h : Nat) (sd gs wt os : Nat → Nat) : Nat → Nat := mvW os (foF w h sd gs wt os) (ddF w h) (4 * (w * h))
theorem flS_sum {c : Nat} (hw : 1 ≤ w) (h36 : w * h ≤ 36) (hc : c < w * h) : flS w h sd gs wt os c + gsum (flo w h sd (fun c => os c + wt c + gs c) os wt c) 4 = os c + gsum (inS w h (flo w h sd (fun c => os c + wt c + gs c) os wt) c) 4 := by
  have e1 : flS w h sd gs wt os c = _ := mvW_eq (dd := ddF w h) (foF_sum w h sd gs wt os) (4 * (w * h)) c
  have e2 := rvW_sum (foF_sum w h sd gs wt os) (4 * (w * h)) c
  rw [lftN_end _ (by omega)] at e2
  have e3 := rvI_sum (fw := foF w h sd gs wt os) (dd := ddF w h) (4 * (w * h)) c
  have e4 := in_sum (flo w h sd (fun c => os c + wt c + gs c) os wt) hw h36 hc
  have e5 : gsum (fun s => foF w h sd gs wt os (4 * c + s)) 4 = gsum (flo w h sd (fun c => os c + wt c + gs c) os wt c) 4 := gsum_congr (fun s hs => by unfold foF; rw [show (4 * c + s) / 4 = c by omega, show (4 * c + s) % 4 = s by omega])
  have e6 : rvI (foF w h sd gs wt os) (ddF w h) (4 * (w * h)) c = gsum (inS w h (flo w h sd (fun c => os c + wt c + gs c) os wt) c) 4 := e3.trans e4
  omega
theorem flW_sum2 {c : Nat} (hw : 1 ≤ w) (h36 : w * h ≤ 36) (hc : c < w * h) : flW w h sd gs wt os c + gsum (flw w h sd (fun c => os c + wt c + gs c) os wt c) 4 = wt c + gsum (inS w h (flw w h sd (fun c => os c + wt c + gs c) os wt) c) 4 := by
  obtain ⟨ol, e⟩ := osum_ex os
  subst e
  exact flW_sum hw h36 hc
/-- push stays under its bound -/
theorem PoolOk.flow (O : PoolOk w h sd gs wt os) (hg : ∀ c, gs c ≤ 999) : PoolOk w h sd gs (flW w h sd gs wt os) (flS w h sd gs wt os) := by
  have h36 := O.n36
  obtain ⟨ol, e⟩ := osum_ex os
  subst e
  have E := en_of (ol := ol) (wt := wt) (h := h) O.1.1 h36 O.2.1 hg
  refine ⟨O.1, O.2.1, fun c hc => ?_⟩
  have s1 := flS_sum (sd := sd) (gs := gs) (wt := wt) (os := osum ol) O.1.1 h36 hc
  have s2 := flW_sum (sd := sd) (gs := gs) (wt := wt) (ol := ol) O.1.1 h36 hc
  have b : ∀ s, s < 4 → 40 * (inS w h (flo w h sd (fun c => osum ol c + wt c + gs c) (osum ol) wt) c s + inS w h (flw w h sd (fun c => osum ol c + wt c + gs c) (osum ol) wt) c s) ≤ 9 * (96774 - (osum ol c + wt c + gs c)) := by
    intro s hs
    unfold inS
    by_cases z : nbr w h c s = 100
    · rw [if_pos z, if_pos z]; omega
    · rw [if_neg z, if_neg z]
      have hd : nbr w h c s < w * h := (nbr_lt O.1.1 hc s).resolve_left z
      have y := (nbr_sym O.1.1 hd hc hs h36).mp rfl
      have f1 := (E.2.2.2.1 (nbr w h c s) (opS s)).1
      have f2 := (E.2.2.2.2.1 (nbr w h c s) (opS s)).2 (by rw [y]; omega)
      rw [y] at f2
      unfold enP at f2
      have := O.2.2 _ hd
      omega
  have b0 := b 0 (by decide)
  have b1 := b 1 (by decide)
  have b2 := b 2 (by decide)
  have b3 := b 3 (by decide)
  simp only [gsum] at s1 s2
  have := O.2.2 c hc
  omega
theorem wnt_cong {ps ps' : Nat → Nat} (hw : 1 ≤ w) (e : ∀ c, c < w * h → ps c = ps' c) {c : Nat} (hc : c < w * h) (s : Nat) : wnt w h sd ps c s = wnt w h sd ps' c s := by
  unfold wnt
  by_cases z : nbr w h c s = 100
  · rw [if_pos z, if_pos z]
  · rw [if_neg z, if_neg z, e c hc, e _ ((nbr_lt hw hc s).resolve_left z)]
theorem fl_cong1 (hw : 1 ≤ w) (e : ∀ c, c < w * h → os c = os' c ∧ wt c = wt' c) {c : Nat} (hc : c < w * h) (s : Nat) : flo w h sd (fun c => os c + wt c + gs c) os wt c s = flo w h sd (fun c => os' c + wt' c + gs c) os' wt' c s ∧ flw w h sd (fun c => os c + wt c + gs c) os wt c s = flw w h sd (fun c => os' c + wt' c + gs c) os' wt' c s := by
  have e1 : ∀ s, wnt w h sd (fun c => os c + wt c + gs c) c s = wnt w h sd (fun c => os' c + wt' c + gs c) c s := fun s => wnt_cong hw (fun c hc => by rw [(e c hc).1, (e c hc).2]) hc s
  have e2 : wsm w h sd (fun c => os c + wt c + gs c) c = wsm w h sd (fun c => os' c + wt' c + gs c) c := gsum_congr (fun s _ => e1 s)
  have e3 : gos w h sd (fun c => os c + wt c + gs c) os wt c s = gos w h sd (fun c => os' c + wt' c + gs c) os' wt' c s := by
    unfold gos
    rw [e2, e1, (e c hc).1, (e c hc).2]
  unfold flo flw
  rw [e3, (e c hc).1, (e c hc).2]
  exact ⟨rfl, rfl⟩
theorem fl_cong (hw : 1 ≤ w) (h36 : w * h ≤ 36) (e : ∀ c, c < w * h → os c = os' c ∧ wt c = wt' c) {c : Nat} (hc : c < w * h) : flS w h sd gs wt os c = flS w h sd gs wt' os' c ∧ flW w h sd gs wt os c = flW w h sd gs wt' os' c := by
  have s1 := flS_sum (sd := sd) (gs := gs) (wt := wt) (os := os) hw h36 hc
  have s2 := flW_sum2 (sd := sd) (gs := gs) (wt := wt) (os := os) hw h36 hc
  have s3 := flS_sum (sd := sd) (gs := gs) (wt := wt') (os := os') hw h36 hc
  have s4 := flW_sum2 (sd := sd) (gs := gs) (wt := wt') (os := os') hw h36 hc
  have F := fun {c} hc s => fl_cong1 (sd := sd) (gs := gs) (os := os) (os' := os') (wt := wt) (wt' := wt') (h := h) hw e (c := c) hc s
  have g1 : gsum (flo w h sd (fun c => os c + wt c + gs c) os wt c) 4 = gsum (flo w h sd (fun c => os' c + wt' c + gs c) os' wt' c) 4 := gsum_congr (fun s _ => (F hc s).1)
  have g2 : gsum (flw w h sd (fun c => os c + wt c + gs c) os wt c) 4 = gsum (flw w h sd (fun c => os' c + wt' c + gs c) os' wt' c) 4 := gsum_congr (fun s _ => (F hc s).2)
  have g3 : gsum (inS w h (flo w h sd (fun c => os c + wt c + gs c) os wt) c) 4 = gsum (inS w h (flo w h sd (fun c => os' c + wt' c + gs c) os' wt') c) 4 := gsum_congr (fun s _ => by
    unfold inS
    by_cases z : nbr w h c s = 100
    · rw [if_pos z, if_pos z]
    · rw [if_neg z, if_neg z, (F ((nbr_lt hw hc s).resolve_left z) _).1])
  have g4 : gsum (inS w h (flw w h sd (fun c => os c + wt c + gs c) os wt) c) 4 = gsum (inS w h (flw w h sd (fun c => os' c + wt' c + gs c) os' wt') c) 4 := gsum_congr (fun s _ => by
    unfold inS
    by_cases z : nbr w h c s = 100
    · rw [if_pos z, if_pos z]
    · rw [if_neg z, if_neg z, (F ((nbr_lt hw hc s).resolve_left z) _).2])
  have := (e c hc).1
  have := (e c hc).2
  omega
theorem flS_lots {ol : Nat → Nat} {c : Nat} (hw : 1 ≤ w) (h36 : w * h ≤ 36) (hc : c < w * h) : osum (flO w h sd gs wt ol) c = flS w h sd gs wt (osum ol) c := by
  have s1 := flS_sum (sd := sd) (gs := gs) (wt := wt) (os := osum ol) hw h36 hc
  have s2 := flO_sum (sd := sd) (gs := gs) (wt := wt) (ol := ol) hw h36 hc
  omega
end RN
/-- a race's numbers: oil of the cells, water, what came to whom -/
abbrev rT := (Nat → Nat) × (Nat → Nat) × (Nat → Int32)
/-- somebody draws -/
def rD (c v p : Nat) (s : rT) : rT := (fun q => if q = c then s.1 c - dwO v (s.1 c) (s.2.1 c) else s.1 q, fun q => if q = c then s.2.1 c - (dwD v (s.1 c) (s.2.1 c) - dwO v (s.1 c) (s.2.1 c)) else s.2.1 q, fun q => if q = p then s.2.2 p + nI (dwO v (s.1 c) (s.2.1 c)) else s.2.2 q)
def rFold (f : Nat → rT → rT) : Nat → Nat → rT → rT
  | 0, _, s => s
  | r + 1, k, s => rFold f r (k + 1) (f k s)
/-- a well that was there; one who drills -/
def rW (wp wc ww wo : Nat → Nat) (k : Nat) (s : rT) : rT := if wo k = 0 then s else rD (wc k) (ww k) (wp k) s
def rP (sp : Nat → Nat) (v set p : Nat) (s : rT) : rT := if set / 2 ^ p % 2 = 1 then rD (sp p) v p s else s
def rF (w h : Nat) (sd gs : Nat → Nat) (s : rT) : rT := (flS w h sd gs s.2.1 s.1, flW w h sd gs s.2.1 s.1, s.2.2)
/-- what a race keeps to: push's bound -/
def rOk (w h : Nat) (sd gs : Nat → Nat) (s : rT) : Prop := PoolOk w h sd gs s.2.1 s.1
theorem rOk.draw {w h c v p : Nat} {sd gs : Nat → Nat} {s : rT} (O : rOk w h sd gs s) : rOk w h sd gs (rD c v p s) := by
  refine ⟨O.1, O.2.1, fun d hd => ?_⟩
  have := O.2.2 d hd
  show (if d = c then s.1 c - _ else s.1 d) + (if d = c then s.2.1 c - _ else s.2.1 d) + gs d ≤ 96774
  by_cases e : d = c
  · rw [if_pos e, if_pos e, ← e]; omega
  · rw [if_neg e, if_neg e]; exact this
theorem rOk.fold {w h : Nat} {sd gs : Nat → Nat} {f : Nat → rT → rT} (hf : ∀ k s, rOk w h sd gs s → rOk w h sd gs (f k s)) : ∀ (r k : Nat) (s : rT), rOk w h sd gs s → rOk w h sd gs (rFold f r k s)
  | 0, _, _, O => O
  | r + 1, k, s, O => rOk.fold hf r (k + 1) (f k s) (hf k s O)
theorem rOk.well {w h : Nat} {sd gs wp wc ww wo : Nat → Nat} (k : Nat) (s : rT) (O : rOk w h sd gs s) : rOk w h sd gs (rW wp wc ww wo k s) := by
  unfold rW
  split
  · exact O
  · exact O.draw
theorem rOk.racer {w h v set : Nat} {sd gs sp : Nat → Nat} (p : Nat) (s : rT) (O : rOk w h sd gs s) : rOk w h sd gs (rP sp v set p s) := by
  unfold rP
  split
  · exact O.draw
  · exact O
/-- an hour of a race -/
def rH (w h : Nat) (sd gs : Nat → Nat) (we : Nat) (wp wc ww wo : Nat → Nat) (n : Nat) (sp : Nat → Nat) (v set : Nat) (s : rT) : rT := rF w h sd gs (rFold (rP sp v set) n 0 (rFold (rW wp wc ww wo) we 0 s))
theorem rOk.hour {w h we n v set : Nat} {sd gs wp wc ww wo sp : Nat → Nat} {s : rT} (O : rOk w h sd gs s) (hg : ∀ c, gs c ≤ 999) : rOk w h sd gs (rH w h sd gs we wp wc ww wo n sp v set s) :=
  PoolOk.flow (rOk.fold (fun k s => rOk.racer k s) n 0 _ (rOk.fold (fun k s => rOk.well k s) we 0 s O)) hg
