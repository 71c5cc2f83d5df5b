/-! ===== orders ===== -/
theorem L_Tape_read_29_s (a : Nat) (F : Nat) (v1 : Int32) (m5 : gM) : L_Tape_read_29 a (F + 1) v1 m5 = (if 160 < v1 then (some m5) else (if (gfd m5 a 3) = 0 then (if (gfd m5 a 6) = 9 then (some m5) else ((f_Tape_readFrom a m5).bind fun (r2 : Int32 × gM) => (f_Tape_readRule a r2.1 r2.2).bind fun (r3 : gM) => (L_Tape_read_29 a F) (v1 + 1) r3)) else (some m5))) := rfl
theorem L_MO_orders_19_s (k_19 : gM → Option (Int32 × gM)) (F : Nat) (m14 : gM) : L_MO_orders_19 k_19 (F + 1) m14 = (if (gfd m14 81 39) = 0 then (if (gfd m14 81 43) = 0 then (k_19 m14) else ((f_MO_oneLine m14).bind fun (r2 : gM) => (L_MO_orders_19 k_19 F) r2)) else (k_19 m14)) := rfl
theorem L_MO_orders_78_s (k_78 : Int32 → gM → Option (Int32 × gM)) (F : Nat) (v2 : Int32) (m6 : gM) : L_MO_orders_78 k_78 (F + 1) v2 m6 = (if v2 < 12 then (gok (gib v2 12) (gok (gib v2 12) (glet (gst m6 116 v2 (grd m6 120 v2)) fun (m7 : gM) => gok (gib v2 12) (gok (gib v2 12) (glet (gst m7 117 v2 (grd m7 121 v2)) fun (m8 : gM) => gok (gib v2 12) (gok (gib v2 12) (glet (gst m8 118 v2 (grd m8 122 v2)) fun (m9 : gM) => gok (gib v2 12) (glet (gst m9 119 v2 0) fun (m10 : gM) => (L_MO_orders_78 k_78 F) (v2 + 1) m10)))))))) else (k_78 v2 m6)) := rfl
theorem rvl_6 {tc v : Nat} (h9 : tc ≤ 9) (h6 : tc ≤ 6) : rvl tc v = tc := if_pos h6
section LZ
variable {ts : Nat} {by_ : Nat → Nat} {nl : Nat} {ru fr nu : Nat → Nat}
/-- what readFrom and readRule do behind one another -/
def cLine (m : gM) : Option gM := (f_Tape_readFrom 34 m).bind fun (r2 : Int32 × gM) => f_Tape_readRule 34 r2.1 r2.2
theorem cRule_bad {N : gN} {L : Nat → Nat → Int64} {f pl a_ tk st vl : Int32} (hf : ¬ f = 0) (h12 : nl ≤ 12) (h0 : N 36 0 = nI nl) (x : Int32) (o : Option (Int32 × gM)) (ho : o = some (x, (tS N f pl a_ tk st vl, L))) : (o.bind fun (r2 : Int32 × gM) => f_Tape_readRule 34 r2.1 r2.2) = some (tS N f pl a_ tk st vl, L) := by
  rw [ho, gbind_eq]
  exact cb_rule hf h12 h0 x
theorem c31_bad {N : gN} {L : Nat → Nat → Int64} {f pl a_ tk st vl : Int32} (hf : ¬ f = 0) : J_Tape_readFrom_31 34 (tS N f pl a_ tk st vl, L) = some (0, (tS N f pl a_ tk st vl, L)) := by
  unfold J_Tape_readFrom_31
  exact if_neg hf
theorem c14_bad {N : gN} {L : Nat → Nat → Int64} {f pl a_ tk st vl : Int32} (hf : ¬ f = 0) : J_Tape_readFrom_14 34 (tS N f pl a_ tk st vl, L) = some (0, (tS N f pl a_ tk st vl, L)) := by
  unfold J_Tape_readFrom_14
  rw [cl_fail1 N L hf, gbind_eq, c31_bad hf]
  split <;> rfl
/-- the rule's first token, checked -/
theorem start_both (hts : ts ≤ 160) (hby : ∀ i, by_ i < 256) (h12 : nl < 12) (hB : ∀ k, k < nl → ru k ≤ 5 ∧ fr k ≤ 49 ∧ nu k ≤ 999) {a s tc v f : Nat} (ha : a ≤ ts) (hs : s ≤ ts) (htc : tc ≤ 9) (hv0 : tc ≠ 7 → v = 0) (hf : f ≤ 49) : LOut ts by_ nl ru fr nu (fun N L pl => f_Tape_readRule 34 (nI f) (tS N 0 pl (nI a) (nI tc) (nI s) (nI v), L)) (fun M L wa => if nI (rtk tc) = 1 then (if nI (rvl tc v) = 6 then J_MO_oneLine_87 (nI f) (rS M 0 wa (nI a) (nI s) (nI (rtk tc)) (nI (rvl tc v)), L) else J_MO_oneLine_92 (nI f) (rS M 0 wa (nI a) (nI s) (nI (rtk tc)) (nI (rvl tc v)), L)) else J_MO_oneLine_87 (nI f) (rS M 0 wa (nI a) (nI s) (nI (rtk tc)) (nI (rvl tc v)), L)) := by
  have k2 := k_ok (k := 2) (by decide) (by decide)
  have e6 : (nI tc < 6) ↔ tc < 6 := nI_ltI (b := 6) (by omega) (by decide)
  have m87 : ∀ (M : gN) (L : Nat → Nat → Int64) (wa : Int32), J_MO_oneLine_87 (nI f) (rS M 0 wa (nI a) (nI s) (nI (rtk tc)) (nI (rvl tc v)), L) = some (rS M (nI 2) (nI s) (nI a) (nI s) (nI (rtk tc)) (nI (rvl tc v)), L) := fun M L wa => by
    unfold J_MO_oneLine_87
    rw [mo_fails0, gbind_eq]
    exact mb_92 k2.2 _
  by_cases h6 : tc < 6
  · have t1 : rtk tc = 1 := if_pos (by omega)
    have t2 : rvl tc v = tc := if_pos (by omega)
    have v0 : v = 0 := hv0 (by omega)
    subst v0
    have n6 : ¬ nI tc = 6 := fun z => by
      have := (eq_lit (b := tc) (k := 6) (by omega) (by decide)).mp z
      omega
    refine LOut.of (rule_both (q := tc) (s := s) hts hby h12 hB ha hs (by omega) hf) (fun N L pl hC D => ?_) (fun M L wa hM hK D => ?_)
    · show f_Tape_readRule 34 (nI f) _ = _
      unfold f_Tape_readRule
      rw [show gfd (tS N 0 pl (nI a) (nI tc) (nI s) (nI 0), L) 34 6 = nI tc from rfl, if_pos (e6.mpr h6)]
      rfl
    · show (if nI (rtk tc) = 1 then _ else _) = _
      rw [t1, t2, if_pos (show nI 1 = 1 from rfl), if_neg n6]
      rfl
  · refine LOut.bad 2 s (by decide) (by decide) hs (fun N L pl hC D => ⟨nI a, nI tc, nI s, nI v, ?_⟩) (fun M L wa hM hK D => ⟨nI a, nI s, nI (rtk tc), nI (rvl tc v), ?_⟩)
    · show f_Tape_readRule 34 (nI f) _ = _
      unfold f_Tape_readRule
      rw [show gfd (tS N 0 pl (nI a) (nI tc) (nI s) (nI v), L) 34 6 = nI tc from rfl, if_neg (fun z => h6 (e6.mp z)), cl_fail0, gbind_eq]
      exact cb_14 k2.1 (by omega) D.1 _
    · show (if nI (rtk tc) = 1 then _ else _) = _
      by_cases h7 : tc = 6
      · have t1 : rtk tc = 1 := if_pos (by omega)
        have t2 : rvl tc v = 6 := by rw [h7]; rfl
        rw [if_pos (show nI (rtk tc) = 1 by rw [t1]; rfl), if_pos (show nI (rvl tc v) = 6 by rw [t2]; rfl)]
        exact m87 M L wa
      · rw [if_neg (fun z => by have := (rtk_1 htc).mp z; omega)]
        exact m87 M L wa
/-- a line, from its first token on -/
theorem line_both (hts : ts ≤ 160) (hby : ∀ i, by_ i < 256) (h12 : nl ≤ 12) (hB : ∀ k, k < nl → ru k ≤ 5 ∧ fr k ≤ 49 ∧ nu k ≤ 999) {a s tc v : Nat} (ha : a ≤ ts) (hs : s ≤ ts) (htc : tc ≤ 9) (hv0 : tc ≠ 7 → v = 0) : LOut ts by_ nl ru fr nu (fun N L pl => cLine (tS N 0 pl (nI a) (nI tc) (nI s) (nI v), L)) (fun M L wa => f_MO_oneLine (rS M 0 wa (nI a) (nI s) (nI (rtk tc)) (nI (rvl tc v)), L)) := by
  have z0 : ((0 : Int32) = 0) = True := eq_true rfl
  have k1 := k_ok (k := 1) (by decide) (by decide)
  have k2 := k_ok (k := 2) (by decide) (by decide)
  have k4 := k_ok (k := 4) (by decide) (by decide)
  have e6 : ((6 : Int32) < nI tc) ↔ 6 < tc := nI_ltI (a := 6) (by decide) (by omega)
  by_cases h6 : 6 < tc
  · -- no rule here
    have n1 : ¬ nI (rtk tc) = 1 := fun z => by have := (rtk_1 htc).mp z; omega
    refine LOut.bad 2 s (by decide) (by decide) hs (fun N L pl hC D => ⟨nI a, nI tc, nI s, nI v, ?_⟩) (fun M L wa hM hK D => ⟨nI a, nI s, nI (rtk tc), nI (rvl tc v), ?_⟩)
    · show cLine _ = _
      unfold cLine
      refine cRule_bad k2.1 (by omega) D.1 0 _ ?_
      unfold f_Tape_readFrom
      rw [show gfd (tS N 0 pl (nI a) (nI tc) (nI s) (nI v), L) 34 6 = nI tc from rfl, if_pos (e6.mpr h6), cl_fail0, gbind_eq]
      exact c14_bad k2.1
    · show f_MO_oneLine _ = _
      unfold f_MO_oneLine
      rw [show gfd (rS M 0 wa (nI a) (nI s) (nI (rtk tc)) (nI (rvl tc v)), L) 81 43 = nI (rtk tc) from rfl, if_neg n1, mo_fails0, gbind_eq]
      exact mb_30 k2.1 k2.2
  have y1 : nI (rtk tc) = 1 := (rtk_1 htc).mpr (by omega)
  have y2 : rvl tc v = tc := if_pos (by omega)
  have v0 : v = 0 := hv0 (by omega)
  subst v0
  by_cases hnl : nl < 12
  · have cF : ∀ (N : gN) (L : Nat → Nat → Int64) (pl : Int32), drC_ N nl ru fr nu → f_Tape_readFrom 34 (tS N 0 pl (nI a) (nI tc) (nI s) (nI 0), L) = J_Tape_readFrom_31 34 (tS N 0 pl (nI a) (nI tc) (nI s) (nI 0), L) := fun N L pl D => by
      have d0 : gfd (tS N 0 pl (nI a) (nI tc) (nI s) (nI 0), L) (34 + 2) 0 = nI nl := D.1
      unfold f_Tape_readFrom
      rw [show gfd (tS N 0 pl (nI a) (nI tc) (nI s) (nI 0), L) 34 6 = nI tc from rfl, if_neg (fun z => h6 (e6.mp z))]
      unfold J_Tape_readFrom_14
      rw [d0, if_pos (show nI nl < (12 : Int32) from nI_lt (a := nl) (b := 12) hnl (by decide))]
    have mF : ∀ (M : gN) (L : Nat → Nat → Int64) (wa : Int32), drM_ M nl ru fr nu → f_MO_oneLine (rS M 0 wa (nI a) (nI s) (nI (rtk tc)) (nI (rvl tc 0)), L) = J_MO_oneLine_30 (rS M 0 wa (nI a) (nI s) (nI (rtk tc)) (nI (rvl tc 0)), L) := fun M L wa D => by
      have d0 : gfd (rS M 0 wa (nI a) (nI s) (nI (rtk tc)) (nI (rvl tc 0)), L) 81 53 = nI nl := D.1
      have n12 : ¬ nI nl = 12 := fun z => by
        have := (nI_eq (b := 12) (by omega) (by decide)).mp z
        omega
      unfold f_MO_oneLine
      rw [show gfd (rS M 0 wa (nI a) (nI s) (nI (rtk tc)) (nI (rvl tc 0)), L) 81 43 = nI (rtk tc) from rfl, if_pos y1, d0, if_neg n12]
    by_cases ht6 : tc = 6
    · -- from a shift on
      subst ht6
      have c31 : ∀ (N : gN) (L : Nat → Nat → Int64) (pl : Int32), J_Tape_readFrom_31 34 (tS N 0 pl (nI a) (nI 6) (nI s) (nI 0), L) = (f_Tape_nextToken 34 (tS N 0 pl (nI a) (nI 6) (nI s) (nI 0), L)).bind fun (r1 : gM) => (f_Tape_checkNumber 34 49 r1).bind fun (r2 : gM) => glet (gfd r2 34 8) fun (v1 : Int32) => (f_Tape_nextToken 34 r2).bind fun (r3 : gM) => some (v1, r3) := fun N L pl => by
        unfold J_Tape_readFrom_31
        rw [show gfd (tS N 0 pl (nI a) (nI 6) (nI s) (nI 0), L) 34 3 = 0 from rfl, if_pos rfl, show gfd (tS N 0 pl (nI a) (nI 6) (nI s) (nI 0), L) 34 6 = 6 from rfl, if_pos rfl]
      have m30 : ∀ (M : gN) (L : Nat → Nat → Int64) (wa : Int32), J_MO_oneLine_30 (rS M 0 wa (nI a) (nI s) (nI (rtk 6)) (nI (rvl 6 0)), L) = (f_MO_next (rS M 0 wa (nI a) (nI s) (nI (rtk 6)) (nI (rvl 6 0)), L)).bind fun (r9 : gM) => (f_MO_number 49 r9).bind fun (r10 : Int32 × gM) => (f_MO_next r10.2).bind fun (r11 : gM) => if (gfd r11 81 39) = 0 then (if (gfd r11 81 43) = 1 then (if (gfd r11 81 44) = 6 then (J_MO_oneLine_87 r10.1 r11) else (J_MO_oneLine_92 r10.1 r11)) else (J_MO_oneLine_87 r10.1 r11)) else (J_MO_oneLine_92 r10.1 r11) := fun M L wa => by
        unfold J_MO_oneLine_30
        rw [show gfd (rS M 0 wa (nI a) (nI s) (nI (rtk 6)) (nI (rvl 6 0)), L) 81 39 = 0 from rfl, if_pos rfl, show gfd (rS M 0 wa (nI a) (nI s) (nI (rtk 6)) (nI (rvl 6 0)), L) 81 44 = 6 from rfl, if_pos rfl]
      rcases next_both hts hby ha with ⟨a1, s1, t1, w1, b1, b2, b3, b4, b5, x1, x2⟩ | ⟨s1, b1, x1, x2⟩
      · rcases check_both (a := a1) (s := s1) (tc := t1) (v := w1) (mx := 49) b3 b4 (by decide) with ⟨k, g1, g2, g3, g4⟩ | ⟨h7, hle, g3, g4⟩
        · have kk := k_ok g1 g2
          refine LOut.bad k s1 g1 g2 b2 (fun N L pl hC D => ⟨nI a1, nI t1, nI s1, nI w1, ?_⟩) (fun M L wa hM hK D => ⟨nI a1, nI s1, nI (rtk t1), nI (rvl t1 w1), ?_⟩)
          · show cLine _ = _
            unfold cLine
            refine cRule_bad kk.1 (by omega) D.1 (nI w1) _ ?_
            have g := g3 N L pl
            have g : f_Tape_checkNumber 34 49 (tS N 0 pl (nI a1) (nI t1) (nI s1) (nI w1), L) = _ := g
            rw [cF N L pl D, c31, x1 N L pl _ _ _ hC, gbind_eq, g, gbind_eq, glet_eq, cb_next kk.1, gbind_eq]
            rfl
          · show f_MO_oneLine _ = _
            have g := g4 M L wa
            have g : f_MO_number 49 (rS M 0 wa (nI a1) (nI s1) (nI (rtk t1)) (nI (rvl t1 w1)), L) = _ := g
            rw [mF M L wa D, m30, x2 M L wa _ _ _ hM hK, gbind_eq, g, gbind_eq]
            dsimp only
            rw [mb_next kk.2, gbind_eq, show gfd (rS M (nI k) (nI s1) (nI a1) (nI s1) (nI (rtk t1)) (nI (rvl t1 w1)), L) 81 39 = nI k from rfl, if_neg kk.1]
            exact mb_92 kk.2 _
        · have cG : ∀ (N : gN) (L : Nat → Nat → Int64) (pl : Int32), hyC ts by_ N → drC_ N nl ru fr nu → f_Tape_readFrom 34 (tS N 0 pl (nI a) (nI 6) (nI s) (nI 0), L) = (f_Tape_nextToken 34 (tS N 0 pl (nI a1) (nI 7) (nI s1) (nI w1), L)).bind fun (r3 : gM) => some (nI w1, r3) := fun N L pl hC D => by
            have g := g3 N L pl
            have g : f_Tape_checkNumber 34 49 (tS N 0 pl (nI a1) (nI t1) (nI s1) (nI w1), L) = _ := g
            rw [cF N L pl D, c31, x1 N L pl _ _ _ hC, gbind_eq, g, gbind_eq, glet_eq]
            rfl
          have mG : ∀ (M : gN) (L : Nat → Nat → Int64) (wa : Int32), hyM ts by_ M → hyK M → drM_ M nl ru fr nu → f_MO_oneLine (rS M 0 wa (nI a) (nI s) (nI (rtk 6)) (nI (rvl 6 0)), L) = (f_MO_next (rS M 0 wa (nI a1) (nI s1) (nI 2) (nI w1), L)).bind fun (r11 : gM) => if (gfd r11 81 39) = 0 then (if (gfd r11 81 43) = 1 then (if (gfd r11 81 44) = 6 then (J_MO_oneLine_87 (nI w1) r11) else (J_MO_oneLine_92 (nI w1) r11)) else (J_MO_oneLine_87 (nI w1) r11)) else (J_MO_oneLine_92 (nI w1) r11) := fun M L wa hM hK D => by
            have g := g4 M L wa
            have g : f_MO_number 49 (rS M 0 wa (nI a1) (nI s1) (nI (rtk t1)) (nI (rvl t1 w1)), L) = _ := g
            rw [mF M L wa D, m30, x2 M L wa _ _ _ hM hK, gbind_eq, g, gbind_eq]
          rcases next_both hts hby b1 with ⟨a2, s2, t2, w2, d1, d2, d3, d4, d5, u1, u2⟩ | ⟨s2, d1, u1, u2⟩
          · refine LOut.of (start_both (f := w1) (v := w2) hts hby hnl hB d1 d2 d3 d5 hle) (fun N L pl hC D => ?_) (fun M L wa hM hK D => ?_)
            · show cLine _ = _
              unfold cLine
              rw [cG N L pl hC D, u1 N L pl _ _ _ hC, gbind_eq, gbind_eq]
            · show f_MO_oneLine _ = _
              rw [mG M L wa hM hK D, u2 M L wa _ _ _ hM hK, gbind_eq]
              exact if_pos rfl
          · refine LOut.bad 1 s2 (by decide) (by decide) d1 (fun N L pl hC D => ?_) (fun M L wa hM hK D => ?_)
            · obtain ⟨a', tk', vl', e⟩ := u1 N L pl (nI 7) (nI s1) (nI w1) hC
              refine ⟨a', tk', nI s2, vl', ?_⟩
              show cLine _ = _
              unfold cLine
              refine cRule_bad k1.1 (by omega) D.1 (nI w1) _ ?_
              rw [cG N L pl hC D, e, gbind_eq]
              rfl
            · obtain ⟨a', tk', vl', e⟩ := u2 M L wa (nI s1) (nI 2) (nI w1) hM hK
              refine ⟨a', nI s2, tk', vl', ?_⟩
              show f_MO_oneLine _ = _
              rw [mG M L wa hM hK D, e, gbind_eq, show gfd (rS M 1 (nI s2) a' (nI s2) tk' vl', L) 81 39 = nI 1 from rfl, if_neg k1.1]
              exact mb_92 k1.2 _
      · refine LOut.bad 1 s1 (by decide) (by decide) b1 (fun N L pl hC D => ?_) (fun M L wa hM hK D => ?_)
        · obtain ⟨a', tk', vl', e⟩ := x1 N L pl (nI 6) (nI s) (nI 0) hC
          refine ⟨a', tk', nI s1, vl', ?_⟩
          show cLine _ = _
          unfold cLine
          refine cRule_bad (f := nI 1) k1.1 (by omega) D.1 vl' _ ?_
          have cc := cb_check (N := N) (L := L) (f := nI 1) (pl := nI s1) (a_ := a') (tk := tk') (st := nI s1) (vl := vl') k1.1 49
          have cn := cb_next (N := N) (L := L) (f := nI 1) (pl := nI s1) (a_ := a') (tk := tk') (st := nI s1) (vl := vl') k1.1
          have e : f_Tape_nextToken 34 (tS N 0 pl (nI a) (nI 6) (nI s) (nI 0), L) = some (tS N (nI 1) (nI s1) a' tk' (nI s1) vl', L) := e
          rw [cF N L pl D, c31, e, gbind_eq, cc, gbind_eq, glet_eq, cn, gbind_eq]
          rfl
        · obtain ⟨a', tk', vl', e⟩ := x2 M L wa (nI s) (nI (rtk 6)) (nI (rvl 6 0)) hM hK
          refine ⟨a', nI s1, tk', vl', ?_⟩
          show f_MO_oneLine _ = _
          have cc := mb_number (M := M) (L := L) (f := nI 1) (wa := nI s1) (a_ := a') (st := nI s1) (tk := tk') (vl := vl') k1.1 49
          have cn := mb_next (M := M) (L := L) (f := nI 1) (wa := nI s1) (a_ := a') (st := nI s1) (tk := tk') (vl := vl') k1.2
          have e : f_MO_next (rS M 0 wa (nI a) (nI s) (nI (rtk 6)) (nI (rvl 6 0)), L) = some (rS M (nI 1) (nI s1) a' (nI s1) tk' vl', L) := e
          rw [mF M L wa D, m30, e, gbind_eq, cc, gbind_eq]
          dsimp only
          rw [cn, gbind_eq, show gfd (rS M (nI 1) (nI s1) a' (nI s1) tk' vl', L) 81 39 = nI 1 from rfl, if_neg k1.1]
          exact mb_92 k1.2 _
    · -- from shift 0 on
      have n6 : ¬ nI tc = 6 := fun z => by
        have := (eq_lit (b := tc) (k := 6) (by omega) (by decide)).mp z
        omega
      refine LOut.of (start_both (tc := tc) (v := 0) (f := 0) (s := s) hts hby hnl hB ha hs htc (fun _ => rfl) (by decide)) (fun N L pl hC D => ?_) (fun M L wa hM hK D => ?_)
      · show cLine _ = _
        unfold cLine
        rw [cF N L pl D]
        unfold J_Tape_readFrom_31
        rw [show gfd (tS N 0 pl (nI a) (nI tc) (nI s) (nI 0), L) 34 3 = 0 from rfl, if_pos rfl, show gfd (tS N 0 pl (nI a) (nI tc) (nI s) (nI 0), L) 34 6 = nI tc from rfl, if_neg n6, gbind_eq]
        rfl
      · show f_MO_oneLine _ = _
        rw [mF M L wa D]
        unfold J_MO_oneLine_30
        rw [show gfd (rS M 0 wa (nI a) (nI s) (nI (rtk tc)) (nI (rvl tc 0)), L) 81 39 = 0 from rfl, if_pos rfl, show gfd (rS M 0 wa (nI a) (nI s) (nI (rtk tc)) (nI (rvl tc 0)), L) 81 44 = nI (rvl tc 0) from rfl, y2, if_neg n6, if_pos y1, if_neg n6]
        rfl
  · -- too many lines
    have e12 : nl = 12 := by omega
    subst e12
    refine LOut.bad 4 s (by decide) (by decide) hs (fun N L pl hC D => ⟨nI a, nI tc, nI s, nI 0, ?_⟩) (fun M L wa hM hK D => ⟨nI a, nI s, nI (rtk tc), nI (rvl tc 0), ?_⟩)
    · show cLine _ = _
      unfold cLine
      refine cRule_bad k4.1 (by omega) D.1 0 _ ?_
      have d0 : gfd (tS N 0 pl (nI a) (nI tc) (nI s) (nI 0), L) (34 + 2) 0 = nI 12 := D.1
      unfold f_Tape_readFrom
      rw [show gfd (tS N 0 pl (nI a) (nI tc) (nI s) (nI 0), L) 34 6 = nI tc from rfl, if_neg (fun z => h6 (e6.mp z))]
      unfold J_Tape_readFrom_14
      rw [d0, if_neg (show ¬ nI 12 < (12 : Int32) by decide), cl_fail0, gbind_eq]
      exact c31_bad k4.1
    · show f_MO_oneLine _ = _
      have d0 : gfd (rS M 0 wa (nI a) (nI s) (nI (rtk tc)) (nI (rvl tc 0)), L) 81 53 = nI 12 := D.1
      unfold f_MO_oneLine
      rw [show gfd (rS M 0 wa (nI a) (nI s) (nI (rtk tc)) (nI (rvl tc 0)), L) 81 43 = nI (rtk tc) from rfl, if_pos y1, d0, if_pos (show nI 12 = (12 : Int32) from rfl), mo_fails0, gbind_eq]
      exact mb_30 k4.1 k4.2
end LZ
