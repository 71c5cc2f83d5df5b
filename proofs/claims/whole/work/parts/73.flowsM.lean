/-! ===== flows, the reference's side: the loops ===== -/
section RS
variable {w h : Nat} {sd gs wt ol : Nat → Nat} {S : gN} {L : Nat → Nat → Int64}
/-- memory after the flows before t -/
def RSt (w h : Nat) (sd gs wt ol : Nat → Nat) (S N : gN) (t : Nat) : Prop := N 86 = (fun i => nI (mvO ol (foF w h sd gs wt (osum ol)) t i)) ∧ N 84 = (fun c => nI (rvW wt (fwF w h sd gs wt (osum ol)) t c)) ∧ (∀ q, q < 9 * (w * h) → N 109 q = nI (mvA ol (foF w h sd gs wt (osum ol)) (ddF w h) t q)) ∧ (∀ q, q < w * h → N 110 q = nI (rvI (fwF w h sd gs wt (osum ol)) (ddF w h) t q)) ∧ ∀ q, q ≠ 84 → q ≠ 86 → q ≠ 105 → q ≠ 109 → q ≠ 110 → q ≠ 111 → N q = S q
/-- what stands while the flows go -/
def RBase (w h : Nat) (sd gs wt ol : Nat → Nat) (S : gN) : Prop := S 81 0 = nI w ∧ S 81 1 = nI h ∧ (∀ c, c < w * h → S 106 c = nI (osum ol c + wt c + gs c) ∧ S 107 c = nI (osum ol c) ∧ S 108 c = nI (wt c)) ∧ ∀ c, c < w * h → S 82 c = nI (sd c)
theorem L58f_s (x1 v1 v2 : Int32) (F : Nat) (v4 : Int32) (m2 : gM) : L_MO_flowOf_58 x1 v1 v2 (F + 1) v4 m2 = (if v4 < 4 then (if v1 < v2 then (gok (gib v4 4) (gnz v2 (J_MO_flowOf_90 x1 v1 (L_MO_flowOf_58 x1 v1 v2 F) v4 (((grd m2 111 v4) * v1) / v2) m2))) else (gok (gib v4 4) (J_MO_flowOf_90 x1 v1 (L_MO_flowOf_58 x1 v1 v2 F) v4 (grd m2 111 v4) m2))) else (some m2)) := rfl
theorem mo_flowStep {N : gN} {c s : Nat} (B : RBase w h sd gs wt ol S) (O : PoolOk w h sd gs wt (osum ol)) (hc : c < w * h) (hs : s < 4) (R : RSt w h sd gs wt ol S N (4 * c + s)) (h111 : ∀ k, k < 4 → N 111 k = nI (wnt w h sd (fun c => osum ol c + wt c + gs c) c k)) :
    ∃ N' : gN, RSt w h sd gs wt ol S N' (4 * c + s + 1) ∧ (∀ k, k < 4 → N' 111 k = nI (wnt w h sd (fun c => osum ol c + wt c + gs c) c k)) ∧ ∀ F, L_MO_flowOf_58 (nI c) (nI (osum ol c + wt c)) (nI (wsm w h sd (fun c => osum ol c + wt c + gs c) c)) (F + 1) (nI s) (N, L) = L_MO_flowOf_58 (nI c) (nI (osum ol c + wt c)) (nI (wsm w h sd (fun c => osum ol c + wt c + gs c) c)) F (nI (s + 1)) (N', L) := by
  have h36 := O.n36
  have b1 := O.2.2 c hc
  have tc : (4 * c + s) / 4 = c := by omega
  have ts : (4 * c + s) % 4 = s := by omega
  have wb : ∀ s, 40 * wnt w h sd (fun c => osum ol c + wt c + gs c) c s ≤ 9 * 96774 := fun s => wnt_bd w h sd (fun c => osum ol c + wt c + gs c) O.2.1 c s b1
  have wbs := wb s
  have wsb : wsm w h sd (fun c => osum ol c + wt c + gs c) c ≤ 21774 * 4 := gsum_bd (fun s _ => by have := wb s; omega)
  have gle := gos_le w h sd (fun c => osum ol c + wt c + gs c) (osum ol) wt c s
  have gsm := gos_sum w h sd (fun c => osum ol c + wt c + gs c) (osum ol) wt c
  have gon := gsum_one (gos w h sd (fun c => osum ol c + wt c + gs c) (osum ol) wt c) hs
  have fll := fl_le w h sd (fun c => osum ol c + wt c + gs c) (osum ol) wt c s
  obtain ⟨r86, r84, r109, r110, rS⟩ := R
  have eF : foF w h sd gs wt (osum ol) (4 * c + s) = flo w h sd (fun c => osum ol c + wt c + gs c) (osum ol) wt c s := by unfold foF; rw [tc, ts]
  have eW : fwF w h sd gs wt (osum ol) (4 * c + s) = flw w h sd (fun c => osum ol c + wt c + gs c) (osum ol) wt c s := by unfold fwF; rw [tc, ts]
  have eD : ddF w h (4 * c + s) = nbr w h c s := by unfold ddF; rw [tc, ts]
  -- the want, scaled
  have head : ∀ F, L_MO_flowOf_58 (nI c) (nI (osum ol c + wt c)) (nI (wsm w h sd (fun c => osum ol c + wt c + gs c) c)) (F + 1) (nI s) (N, L) = J_MO_flowOf_90 (nI c) (nI (osum ol c + wt c)) (L_MO_flowOf_58 (nI c) (nI (osum ol c + wt c)) (nI (wsm w h sd (fun c => osum ol c + wt c + gs c) c)) F) (nI s) (nI (gos w h sd (fun c => osum ol c + wt c + gs c) (osum ol) wt c s)) (N, L) := by
    intro F
    have h1 := h111 s hs
    rw [L58f_s]
    have gz : gos w h sd (fun c => osum ol c + wt c + gs c) (osum ol) wt c s = if osum ol c + wt c < wsm w h sd (fun c => osum ol c + wt c + gs c) c then wnt w h sd (fun c => osum ol c + wt c + gs c) c s * (osum ol c + wt c) / wsm w h sd (fun c => osum ol c + wt c + gs c) c else wnt w h sd (fun c => osum ol c + wt c + gs c) c s := rfl
    by_cases y : osum ol c + wt c < wsm w h sd (fun c => osum ol c + wt c + gs c) c
    · rw [if_pos y] at gz
      have hm : wnt w h sd (fun c => osum ol c + wt c + gs c) c s * (osum ol c + wt c) ≤ 21774 * 96774 := Nat.mul_le_mul (by omega) (by omega)
      have dv : nI (wnt w h sd (fun c => osum ol c + wt c + gs c) c s * (osum ol c + wt c)) / nI (wsm w h sd (fun c => osum ol c + wt c + gs c) c) = nI (gos w h sd (fun c => osum ol c + wt c + gs c) (osum ol) wt c s) := by
        rw [gz]; exact pk_div (by omega) (by omega) (by omega)
      simp (disch := omega) only [gfd_eq, glet_eq, gbind_eq, nI_ltI, nI_1, gok_nI, grd_nI, nI_clamp, if_true, if_false, Nat.lt_irrefl, hs, q4, y, gnz_ok, h1, pk_mul, dv, i10, gokT]
    · rw [if_neg y] at gz
      simp (disch := omega) only [gfd_eq, glet_eq, gbind_eq, nI_ltI, nI_1, gok_nI, grd_nI, nI_clamp, if_true, if_false, Nat.lt_irrefl, hs, q4, y, h1, i10, gokT]
      rw [gz]
  by_cases g0 : 0 < gos w h sd (fun c => osum ol c + wt c + gs c) (osum ol) wt c s
  · have bo0 : 0 < osum ol c + wt c := by omega
    have w0 : 0 < wnt w h sd (fun c => osum ol c + wt c + gs c) c s := by omega
    have hd : nbr w h c s < w * h := by
      rcases nbr_lt O.1.1 hc s with e | e
      · exfalso
        unfold wnt at w0
        rw [if_pos e] at w0
        omega
      · exact e
    have nbe : nbI (nbr w h c s) = nI (nbr w h c s) := if_neg (by omega)
    have x0 : N 81 0 = nI w := by rw [rS 81 (by decide) (by decide) (by decide) (by decide) (by decide) (by decide)]; exact B.1
    have x1 : N 81 1 = nI h := by rw [rS 81 (by decide) (by decide) (by decide) (by decide) (by decide) (by decide)]; exact B.2.1
    have be := mo_beside (m := (N, L)) x0 x1 ⟨O.1.1, O.1.2.1⟩ O.1.2.2 hc hs
    rw [nbe] at be
    have e107 : N 107 c = nI (osum ol c) := by rw [rS 107 (by decide) (by decide) (by decide) (by decide) (by decide) (by decide)]; exact (B.2.2.1 c hc).2.1
    have e108 : N 108 c = nI (wt c) := by rw [rS 108 (by decide) (by decide) (by decide) (by decide) (by decide) (by decide)]; exact (B.2.2.1 c hc).2.2
    have po : gos w h sd (fun c => osum ol c + wt c + gs c) (osum ol) wt c s * osum ol c ≤ 21774 * 96774 := Nat.mul_le_mul (by omega) (by omega)
    have pw : gos w h sd (fun c => osum ol c + wt c + gs c) (osum ol) wt c s * wt c ≤ 21774 * 96774 := Nat.mul_le_mul (by omega) (by omega)
    have dvo : nI (gos w h sd (fun c => osum ol c + wt c + gs c) (osum ol) wt c s * osum ol c) / nI (osum ol c + wt c) = nI (flo w h sd (fun c => osum ol c + wt c + gs c) (osum ol) wt c s) := pk_div (by omega) bo0 (by omega)
    have dvw : nI (gos w h sd (fun c => osum ol c + wt c + gs c) (osum ol) wt c s * wt c) / nI (osum ol c + wt c) = nI (flw w h sd (fun c => osum ol c + wt c + gs c) (osum ol) wt c s) := pk_div (by omega) bo0 (by omega)
    have ok := mvO_ok (foF_sum w h sd gs wt (osum ol)) (4 * c + s)
    have sm := mvO_sum (foF_sum w h sd gs wt (osum ol)) (4 * c + s) c
    have okw := rvW_ok (fwF_sum w h sd gs wt (osum ol)) (4 * c + s)
    rw [tc, eF] at ok
    rw [tc, eW] at okw
    have bt : flo w h sd (fun c => osum ol c + wt c + gs c) (osum ol) wt c s * osum (mvO ol (foF w h sd gs wt (osum ol)) (4 * c + s)) c < 2 ^ 31 := by
      have : flo w h sd (fun c => osum ol c + wt c + gs c) (osum ol) wt c s * osum (mvO ol (foF w h sd gs wt (osum ol)) (4 * c + s)) c ≤ 21774 * 96774 := Nat.mul_le_mul (by omega) (by omega)
      omega
    have tkr := mo_take (m := (N, L)) (c := c) (by omega) r86 ok bt (by omega)
    have O1 : mvO ol (foF w h sd gs wt (osum ol)) (4 * c + s + 1) = tkO (mvO ol (foF w h sd gs wt (osum ol)) (4 * c + s)) c (flo w h sd (fun c => osum ol c + wt c + gs c) (osum ol) wt c s) := by
      show tkO (mvO ol (foF w h sd gs wt (osum ol)) (4 * c + s)) ((4 * c + s) / 4) (foF w h sd gs wt (osum ol) (4 * c + s)) = _
      rw [tc, eF]
    have A1 : mvA ol (foF w h sd gs wt (osum ol)) (ddF w h) (4 * c + s + 1) = fun q => if 9 * nbr w h c s ≤ q ∧ q < 9 * nbr w h c s + 9 then mvA ol (foF w h sd gs wt (osum ol)) (ddF w h) (4 * c + s) q + tk (mvO ol (foF w h sd gs wt (osum ol)) (4 * c + s)) c (flo w h sd (fun c => osum ol c + wt c + gs c) (osum ol) wt c s) (q - 9 * nbr w h c s) else mvA ol (foF w h sd gs wt (osum ol)) (ddF w h) (4 * c + s) q := by
      show (fun q => if 9 * ddF w h (4 * c + s) ≤ q ∧ q < 9 * ddF w h (4 * c + s) + 9 then _ + tk _ ((4 * c + s) / 4) (foF w h sd gs wt (osum ol) (4 * c + s)) (q - 9 * ddF w h (4 * c + s)) else _) = _
      rw [tc, eF, eD]
    have W1 : rvW wt (fwF w h sd gs wt (osum ol)) (4 * c + s + 1) = fun q => if q = c then rvW wt (fwF w h sd gs wt (osum ol)) (4 * c + s) q - flw w h sd (fun c => osum ol c + wt c + gs c) (osum ol) wt c s else rvW wt (fwF w h sd gs wt (osum ol)) (4 * c + s) q := by
      show (fun q => if q = (4 * c + s) / 4 then _ - fwF w h sd gs wt (osum ol) (4 * c + s) else _) = _
      rw [tc, eW]
    have I1 : rvI (fwF w h sd gs wt (osum ol)) (ddF w h) (4 * c + s + 1) = fun q => if q = nbr w h c s then rvI (fwF w h sd gs wt (osum ol)) (ddF w h) (4 * c + s) q + flw w h sd (fun c => osum ol c + wt c + gs c) (osum ol) wt c s else rvI (fwF w h sd gs wt (osum ol)) (ddF w h) (4 * c + s) q := by
      show (fun q => if q = ddF w h (4 * c + s) then _ + fwF w h sd gs wt (osum ol) (4 * c + s) else _) = _
      rw [eD, eW]
    generalize flo w h sd (fun c => osum ol c + wt c + gs c) (osum ol) wt c s = o at *
    generalize flw w h sd (fun c => osum ol c + wt c + gs c) (osum ol) wt c s = ww at *
    generalize nbr w h c s = d at *
    generalize mvO ol (foF w h sd gs wt (osum ol)) (4 * c + s) = Ot at *
    generalize mvA ol (foF w h sd gs wt (osum ol)) (ddF w h) (4 * c + s) = At at *
    generalize rvW wt (fwF w h sd gs wt (osum ol)) (4 * c + s) = Wt at *
    generalize rvI (fwF w h sd gs wt (osum ol)) (ddF w h) (4 * c + s) = It at *
    let N1 : gN := grw (grw N 105 (tkR (N 105) Ot c o 9)) 86 (fun i => nI (tkO Ot c o i))
    have tkr : f_MO_take (nI c) (nI o) (N, L) = some (N1, L) := tkr
    have n1 : ∀ q, q ≠ 105 → q ≠ 86 → N1 q = N q := fun q z1 z2 => by
      show grw (grw N 105 _) 86 _ q = _
      rw [grw_ne z2, grw_ne z1]
    have n105 : ∀ l, l < 9 → N1 105 l = nI (tk Ot c o l) := fun l hl => by
      show grw (grw N 105 _) 86 _ 105 l = _
      rw [grw_ne (by decide), grw_eq]
      unfold tkR
      rw [if_pos hl]
    have n86 : N1 86 = fun i => nI (tkO Ot c o i) := grw_eq _ _ _
    clear_value N1
    have LL : ∀ K, L_MO_flowOf_142 (nI d, (N, L)) K 1000 0 (N1, L) = K (nI 9) (grw N1 109 (adR (N1 109) d (tk Ot c o) 9), L) := by
      intro K
      unfold L_MO_flowOf_142
      refine gloopS0 (fun (g : Int32 → gM → Option gM) j (s : gM) => g (nI j) s) 9 (fun j => (grw N1 109 (adR (N1 109) d (tk Ot c o) j), L)) _ ?_ ?_ ?_ 1000 (by omega)
      · show (grw N1 109 (adR (N1 109) d (tk Ot c o) 0), L) = _
        rw [adR_0, grw_id]
      · intro g j hj
        have a1 : grw N1 109 (adR (N1 109) d (tk Ot c o) j) 109 (9 * d + j) = N1 109 (9 * d + j) := by rw [grw_eq, adR_at]
        have a2 : grw N1 109 (adR (N1 109) d (tk Ot c o) j) 105 j = nI (tk Ot c o j) := by rw [grw_ne (by decide)]; exact n105 j hj
        simp (disch := omega) only [gfd_eq, glet_eq, gbind_eq, nI_ltI, nI_1, gok_nI, grd_nI, nI_clamp, if_true, if_false, Nat.lt_irrefl, hj, q9, pk_mul, nI_add, a1, a2, gst_nI, adR_s, i10, gokT]
      · intro g
        simp (disch := omega) only [gfd_eq, glet_eq, gbind_eq, nI_ltI, nI_1, gok_nI, grd_nI, nI_clamp, if_true, if_false, Nat.lt_irrefl, q9, i10, gokT]
    let N2 : gN := grw N1 109 (adR (N1 109) d (tk Ot c o) 9)
    have n2 : ∀ q, q ≠ 105 → q ≠ 86 → q ≠ 109 → N2 q = N q := fun q z1 z2 z3 => by
      show grw N1 109 _ q = _
      rw [grw_ne z3, n1 q z1 z2]
    have n286 : N2 86 = fun i => nI (tkO Ot c o i) := by
      show grw N1 109 _ 86 = _
      rw [grw_ne (by decide)]; exact n86
    have n2109 : ∀ q, q < 9 * (w * h) → N2 109 q = nI (if 9 * d ≤ q ∧ q < 9 * d + 9 then At q + tk Ot c o (q - 9 * d) else At q) := fun q hq => by
      show grw N1 109 _ 109 q = _
      rw [grw_eq, n1 109 (by decide) (by decide)]
      unfold adR
      rw [r109 q hq, nI_add]
      split <;> rfl
    have LL : ∀ K, L_MO_flowOf_142 (nI d, (N, L)) K 1000 0 (N1, L) = K (nI 9) (N2, L) := LL
    clear_value N2
    have e84 : N2 84 c = nI (Wt c) := by rw [n2 84 (by decide) (by decide) (by decide), r84]
    have e110 : gup N2 84 c (nI (Wt c - ww)) 110 d = nI (It d) := by rw [gup_row (by decide), n2 110 (by decide) (by decide) (by decide)]; exact r110 d hd
    refine ⟨gup (gup N2 84 c (nI (Wt c - ww))) 110 d (nI (It d + ww)), ⟨?_, ?_, fun q hq => ?_, fun q hq => ?_, fun q z1 z2 z3 z4 z5 z6 => ?_⟩, fun k hk => ?_, fun F => ?_⟩
    · rw [gup_ne (by decide), gup_ne (by decide), n286, O1]
    · rw [gup_ne (by decide), gup_eq, n2 84 (by decide) (by decide) (by decide), r84, W1]
      funext q
      show (if q = c then nI (Wt c - ww) else nI (Wt q)) = nI (if q = c then Wt q - ww else Wt q)
      by_cases z : q = c
      · rw [if_pos z, if_pos z, z]
      · rw [if_neg z, if_neg z]
    · rw [gup_row (by decide), gup_row (by decide), n2109 q hq, A1]
    · rw [gup_all, I1]
      show (if 110 = 110 ∧ q = d then nI (It d + ww) else gup N2 84 c (nI (Wt c - ww)) 110 q) = nI (if q = d then It q + ww else It q)
      by_cases z : q = d
      · rw [if_pos ⟨rfl, z⟩, if_pos z, z]
      · rw [if_neg (fun y => z y.2), if_neg z, gup_row (by decide), n2 110 (by decide) (by decide) (by decide)]
        exact r110 q hq
    · rw [gup_ne z5, gup_ne z1, n2 q z3 z2 z4]
      exact rS q z1 z2 z3 z4 z5 z6
    · rw [gup_row (by decide), gup_row (by decide), n2 111 (by decide) (by decide) (by decide)]
      exact h111 k hk
    · rw [head F]
      unfold J_MO_flowOf_90 J_MO_flowOf_178 J_MO_flowOf_201
      simp (disch := omega) only [gfd_eq, glet_eq, gbind_eq, nI_ltI, nI_1, gok_nI, grd_nI, nI_clamp, if_true, if_false, Nat.lt_irrefl, lt0_nI, g0, bo0, be, gnz_ok, e108, pk_mul, dvw, e107, dvo, tkr, LL, e84, pk_sub, gst_nI, e110, nI_add, i10, gokT]
  · have z0 : gos w h sd (fun c => osum ol c + wt c + gs c) (osum ol) wt c s = 0 := by omega
    have no := mv_none (ol := ol) (fo := foF w h sd gs wt (osum ol)) (wt := wt) (fw := fwF w h sd gs wt (osum ol)) (dd := ddF w h) (t := 4 * c + s) (by rw [eF]; omega) (by rw [eW]; omega)
    refine ⟨N, ⟨?_, ?_, fun q hq => ?_, fun q hq => ?_, rS⟩, h111, fun F => ?_⟩
    · rw [no.1]; exact r86
    · rw [no.2.2.2.1]; exact r84
    · rw [no.2.1]; exact r109 q hq
    · rw [no.2.2.2.2]; exact r110 q hq
    · rw [head F, z0]
      unfold J_MO_flowOf_90 J_MO_flowOf_201
      show (if (0 : Int32) < nI 0 then _ else _) = _
      rw [if_neg (by decide), nI_1]
theorem mo_flowOf {N : gN} {c : Nat} (B : RBase w h sd gs wt ol S) (O : PoolOk w h sd gs wt (osum ol)) (hc : c < w * h) (R : RSt w h sd gs wt ol S N (4 * c)) : ∃ N' : gN, RSt w h sd gs wt ol S N' (4 * (c + 1)) ∧ f_MO_flowOf (nI c) (N, L) = some (N', L) := by
  have h36 := O.n36
  have R0 := R
  obtain ⟨r86, r84, r109, r110, rS⟩ := R
  have rS' : ∀ q, q ≠ 84 ∧ q ≠ 86 ∧ q ≠ 105 ∧ q ≠ 109 ∧ q ≠ 110 ∧ q ≠ 111 → N q = S q := fun q z => rS q z.1 z.2.1 z.2.2.1 z.2.2.2.1 z.2.2.2.2.1 z.2.2.2.2.2
  let wr : Nat → Nat → Int32 := fun j q => if q < j then nI (wnt w h sd (fun c => osum ol c + wt c + gs c) c q) else N 111 q
  have L1 : ∀ K, L_MO_flowOf_19 (nI c) K 1000 0 0 (N, L) = K (nI (wsm w h sd (fun c => osum ol c + wt c + gs c) c)) (nI 4) (grw N 111 (wr 4), L) := by
    intro K
    unfold L_MO_flowOf_19
    refine gloopS0 (fun (g : Int32 → Int32 → gM → Option gM) j (s : Int32 × gM) => g s.1 (nI j) s.2) 4 (fun j => (nI (gsum (wnt w h sd (fun c => osum ol c + wt c + gs c) c) j), (grw N 111 (wr j), L))) _ (s0 := (0, (N, L))) ?_ ?_ ?_ 1000 (by omega)
    · have : wr 0 = N 111 := by
        funext q
        exact if_neg (by omega)
      show (nI 0, (grw N 111 (wr 0), L)) = _
      rw [this, grw_id]
      rfl
    · intro g j hj
      have wa := mo_want (m := (grw N 111 (wr j), L)) (s := j) (w := w) (h := h) (sd := sd) (gs := gs) (wt := wt) (os := osum ol) (by dsimp only; rw [grw_ne (by decide), rS' 81 (by decide)]; exact B.1) (by dsimp only; rw [grw_ne (by decide), rS' 81 (by decide)]; exact B.2.1) O hc hj (fun c hc => by dsimp only; rw [grw_ne (by decide), rS' 106 (by decide)]; exact (B.2.2.1 c hc).1) (fun c hc => by dsimp only; rw [grw_ne (by decide), rS' 82 (by decide)]; exact B.2.2.2 c hc)
      have st : gup (grw N 111 (wr j)) 111 j (nI (wnt w h sd (fun c => osum ol c + wt c + gs c) c j)) = grw N 111 (wr (j + 1)) := by
        rw [gup_grw, grw_grw, grw_eq]
        congr 1
        funext q
        show (if q = j then _ else if q < j then _ else _) = if q < j + 1 then _ else _
        by_cases z : q = j
        · rw [if_pos z, if_pos (by omega), z]
        · rw [if_neg z]
          by_cases z2 : q < j
          · rw [if_pos z2, if_pos (by omega)]
          · rw [if_neg z2, if_neg (by omega)]
      have rd : grw N 111 (wr (j + 1)) 111 j = nI (wnt w h sd (fun c => osum ol c + wt c + gs c) c j) := by
        rw [grw_eq]
        exact if_pos (by omega)
      simp (disch := omega) only [gfd_eq, glet_eq, gbind_eq, nI_ltI, nI_1, gok_nI, grd_nI, nI_clamp, if_true, if_false, Nat.lt_irrefl, hj, q4, wa, gst_nI, st, rd, nI_add, i10, gokT]
      rfl
    · intro g
      simp (disch := omega) only [gfd_eq, glet_eq, gbind_eq, nI_ltI, nI_1, gok_nI, grd_nI, nI_clamp, if_true, if_false, Nat.lt_irrefl, q4, i10, gokT]
      rfl
  have key : ∀ (r s : Nat) (M : gN), s + r = 4 → RSt w h sd gs wt ol S M (4 * c + s) → (∀ k, k < 4 → M 111 k = nI (wnt w h sd (fun c => osum ol c + wt c + gs c) c k)) → ∃ N' : gN, RSt w h sd gs wt ol S N' (4 * (c + 1)) ∧ ∀ F, r < F → L_MO_flowOf_58 (nI c) (nI (osum ol c + wt c)) (nI (wsm w h sd (fun c => osum ol c + wt c + gs c) c)) F (nI s) (M, L) = some (N', L) := by
    intro r
    induction r with
    | zero =>
      intro s M hs R1 h1
      have : s = 4 := by omega
      subst this
      refine ⟨M, by rw [show 4 * (c + 1) = 4 * c + 4 by omega]; exact R1, fun F hF => ?_⟩
      obtain ⟨F, rfl⟩ : ∃ F', F = F' + 1 := ⟨F - 1, by omega⟩
      rw [L58f_s]
      simp (disch := omega) only [gfd_eq, glet_eq, gbind_eq, nI_ltI, nI_1, gok_nI, grd_nI, nI_clamp, if_true, if_false, Nat.lt_irrefl, q4, i10, gokT]
    | succ r ih =>
      intro s M hs R1 h1
      obtain ⟨M1, R2, h2, run⟩ := mo_flowStep (L := L) B O hc (by omega) R1 h1
      obtain ⟨N', R3, fin⟩ := ih (s + 1) M1 (by omega) R2 h2
      refine ⟨N', R3, fun F hF => ?_⟩
      obtain ⟨F, rfl⟩ : ∃ F', F = F' + 1 := ⟨F - 1, by omega⟩
      rw [run F]
      exact fin F (by omega)
  obtain ⟨N', R3, fin⟩ := key 4 0 (grw N 111 (wr 4)) (by omega) ⟨by rw [grw_ne (by decide)]; exact r86, by rw [grw_ne (by decide)]; exact r84, fun q hq => by rw [grw_ne (by decide)]; exact r109 q hq, fun q hq => by rw [grw_ne (by decide)]; exact r110 q hq, fun q z1 z2 z3 z4 z5 z6 => by rw [grw_ne z6]; exact rS q z1 z2 z3 z4 z5 z6⟩ (fun k hk => by rw [grw_eq]; exact if_pos hk)
  have fin : L_MO_flowOf_58 (nI c) (nI (osum ol c + wt c)) (nI (wsm w h sd (fun c => osum ol c + wt c + gs c) c)) 1000 0 (grw N 111 (wr 4), L) = some (N', L) := fin 1000 (by omega)
  refine ⟨N', R3, ?_⟩
  have e107 : N 107 c = nI (osum ol c) := by rw [rS' 107 (by decide)]; exact (B.2.2.1 c hc).2.1
  have e108 : N 108 c = nI (wt c) := by rw [rS' 108 (by decide)]; exact (B.2.2.1 c hc).2.2
  clear_value wr
  unfold f_MO_flowOf J_MO_flowOf_55
  simp (disch := omega) only [gfd_eq, glet_eq, gbind_eq, nI_ltI, nI_1, gok_nI, grd_nI, nI_clamp, if_true, if_false, Nat.lt_irrefl, e107, e108, nI_add, L1, fin, i10, gokT]
end RS
