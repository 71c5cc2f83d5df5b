/-! ===== a line read, whole ===== -/
/-- the greatest number of a rule -/
def mst (q : Nat) : Nat := if q ≤ 1 then 9 else if q = 5 then 5 else 999
theorem mst_ok : ∀ q, q < 6 → q ≠ 4 → gI0 115 q = nI (mst q) := by decide +kernel
theorem cl_mostOf {q : Nat} (hq : q < 6) (m : gM) : f_Tape_mostOf (nI q) m = some (nI (mst q), m) := by
  unfold f_Tape_mostOf
  rcases (show q = 0 ∨ q = 1 ∨ q = 2 ∨ q = 3 ∨ q = 4 ∨ q = 5 by omega) with e | e | e | e | e | e <;> subst e <;> simp only [gswo] <;> repeat (first | rw [if_pos (by decide)] | rw [if_neg (by decide)]) <;> rfl
/-- behind the number's check -/
def cK42 (x1 v7 : Int32) (r7 : gM) : Option gM := glet (gfd r7 34 8) fun (v8 : Int32) => if v7 = 5 then ((f_Orders_tellsExcept (34 + 2) v8 x1 r7).bind fun (r8 : Int32 × gM) => if r8.1 = 0 then (J_Tape_readRule_87 34 x1 v7 v8 r8.2) else ((f_Tape_fail 34 5 r8.2).bind fun (r9 : gM) => J_Tape_readRule_87 34 x1 v7 v8 r9)) else (J_Tape_readRule_87 34 x1 v7 v8 r7)
def mK120 (v10 v11 : Int32) (r5 : Int32 × gM) : Option gM := if v11 = 5 then ((f_MO_once v11 v10 r5.1 r5.2).bind fun (r6 : gM) => J_MO_oneLine_151 v10 v11 r5.1 r6) else (J_MO_oneLine_151 v10 v11 r5.1 r5.2)
theorem cK41_eq (x y : Int32) (m : gM) : cK41 x y m = if y = 4 then J_Tape_readRule_91 34 x y 0 m else (f_Tape_mostOf y m).bind fun (r6 : Int32 × gM) => (f_Tape_checkNumber 34 r6.1 r6.2).bind (cK42 x y) := rfl
theorem mK119_eq (x y z : Int32) (m : gM) : mK119 x y z m = if y = 4 then J_MO_oneLine_155 x y z m else gok (gib y 6) ((f_MO_number (grd m 115 y) m).bind (mK120 x y)) := rfl
theorem cb_K42 {N : gN} {L : Nat → Nat → Int64} {f pl a_ tk st vl : Int32} (hf : ¬ f = 0) {nl : Nat} (h12 : nl ≤ 12) (h0 : N 36 0 = nI nl) (x y : Int32) : cK42 x y (tS N f pl a_ tk st vl, L) = some (tS N f pl a_ tk st vl, L) := by
  unfold cK42
  rw [glet_eq]
  by_cases h5 : y = 5
  · rw [if_pos h5]
    have h0' : (tS N f pl a_ tk st vl, L).1 36 0 = nI nl := (congrFun (show tS N f pl a_ tk st vl 36 = N 36 from tS_ne (by decide)) 0).trans h0
    obtain ⟨z, e2⟩ := cl_excAny h12 h0' (gfd (tS N f pl a_ tk st vl, L) 34 8) x nl 0 1000 (by omega) (by omega)
    have e2 : f_Orders_tellsExcept (34 + 2) (gfd (tS N f pl a_ tk st vl, L) 34 8) x (tS N f pl a_ tk st vl, L) = some (z, (tS N f pl a_ tk st vl, L)) := e2
    rw [e2, gbind_eq]
    dsimp only
    rw [cl_fail1 N L hf, gbind_eq, cb_87 hf]
    split <;> rfl
  · rw [if_neg h5]; exact cb_87 hf _ _ _
theorem mb_K120 {M : gN} {L : Nat → Nat → Int64} {f wa a_ st tk vl : Int32} (hf : ¬ f = 0) (hp : 0 < f) (x y z : Int32) : mK120 x y (z, (rS M f wa a_ st tk vl, L)) = some (rS M f wa a_ st tk vl, L) := by
  unfold mK120
  dsimp only
  rw [mb_once hf, gbind_eq, mb_151 hf hp]
  split <;> rfl
section LW
variable {ts : Nat} {by_ : Nat → Nat} {nl : Nat} {ru fr nu : Nat → Nat}
theorem num_both (hts : ts ≤ 160) (hby : ∀ i, by_ i < 256) (h12 : nl < 12) {a s tc v q f n : Nat} (ha : a ≤ ts) (hq : q ≤ 5) (hf : f ≤ 49) (hn : n ≤ 999) (hqn : q ≤ 1 → n ≤ 9) : LOut ts by_ nl ru fr nu (fun N L pl => J_Tape_readRule_87 34 (nI f) (nI q) (nI n) (tS N 0 pl (nI a) (nI tc) (nI s) (nI v), L)) (fun M L wa => J_MO_oneLine_151 (nI f) (nI q) (nI n) (rS M 0 wa (nI a) (nI s) (nI (rtk tc)) (nI (rvl tc v)), L)) := by
  have k1 := k_ok (k := 1) (by decide) (by decide)
  rcases next_both hts hby ha with ⟨a', s', tc', v', b1, b2, b3, b4, b5, x1, x2⟩ | ⟨s', b1, x1, x2⟩
  · refine LOut.of (end_both (v := v') hts hby h12 b1 b2 b3 hq hf hn hqn) (fun N L pl hC D => ?_) (fun M L wa hM hK D => ?_)
    · show J_Tape_readRule_87 34 (nI f) (nI q) (nI n) _ = _
      unfold J_Tape_readRule_87
      rw [x1 N L pl _ _ _ hC, gbind_eq]
    · show J_MO_oneLine_151 (nI f) (nI q) (nI n) _ = _
      unfold J_MO_oneLine_151
      rw [x2 M L wa _ _ _ hM hK, gbind_eq]
  · refine LOut.bad 1 s' (by decide) (by decide) b1 (fun N L pl hC D => ?_) (fun M L wa hM hK D => ?_)
    · obtain ⟨a', tk', vl', e⟩ := x1 N L pl (nI tc) (nI s) (nI v) hC
      refine ⟨a', tk', nI s', vl', ?_⟩
      show J_Tape_readRule_87 34 (nI f) (nI q) (nI n) _ = _
      unfold J_Tape_readRule_87
      rw [e, gbind_eq]
      exact cb_91 k1.1 _ _ _
    · obtain ⟨a', tk', vl', e⟩ := x2 M L wa (nI s) (nI (rtk tc)) (nI (rvl tc v)) hM hK
      refine ⟨a', nI s', tk', vl', ?_⟩
      show J_MO_oneLine_151 (nI f) (nI q) (nI n) _ = _
      unfold J_MO_oneLine_151
      rw [e, gbind_eq]
      exact mb_155 k1.1 _ _ _
theorem k42_both (hts : ts ≤ 160) (hby : ∀ i, by_ i < 256) (h12 : nl < 12) (hB : ∀ k, k < nl → ru k ≤ 5 ∧ fr k ≤ 49 ∧ nu k ≤ 999) {a s q f v : Nat} (ha : a ≤ ts) (hs : s ≤ ts) (hq : q ≤ 5) (hf : f ≤ 49) (hv : v ≤ 999) (hqn : q ≤ 1 → v ≤ 9) : LOut ts by_ nl ru fr nu (fun N L pl => cK42 (nI f) (nI q) (tS N 0 pl (nI a) (nI 7) (nI s) (nI v), L)) (fun M L wa => mK120 (nI f) (nI q) (nI v, (rS M 0 wa (nI a) (nI s) (nI 2) (nI v), L))) := by
  have k5 := k_ok (k := 5) (by decide) (by decide)
  have e5 : (nI q = 5) ↔ q = 5 := eq_lit (b := q) (k := 5) (by omega) (by decide)
  have nb := num_both (nl := nl) (ru := ru) (fr := fr) (nu := nu) (tc := 7) (s := s) (v := v) hts hby h12 ha hq hf hv hqn
  by_cases c5 : q = 5
  · have c5' : nI q = 5 := e5.mpr c5
    by_cases hx : ∃ b, b < nl ∧ (ru b = 5 ∧ fr b = f ∧ nu b = v)
    · obtain ⟨b, hb, h1⟩ := hx
      refine LOut.bad 5 s (by decide) (by decide) hs (fun N L pl hC D => ⟨nI a, nI 7, nI s, nI v, ?_⟩) (fun M L wa hM hK D => ⟨nI a, nI s, nI 2, nI v, ?_⟩)
      · have t := cl_exc1 (m := (tS N 0 pl (nI a) (nI 7) (nI s) (nI v), L)) (by omega) D.1 D.2.1 hB hv hf hb h1 nl 0 1000 (by omega) (by omega) (by omega)
        have t : f_Orders_tellsExcept (34 + 2) (nI v) (nI f) (tS N 0 pl (nI a) (nI 7) (nI s) (nI v), L) = some (1, (tS N 0 pl (nI a) (nI 7) (nI s) (nI v), L)) := t
        show cK42 (nI f) (nI q) _ = _
        unfold cK42
        rw [glet_eq, if_pos c5']
        show ((f_Orders_tellsExcept (34 + 2) (nI v) (nI f) (tS N 0 pl (nI a) (nI 7) (nI s) (nI v), L)).bind _) = _
        rw [t, gbind_eq]
        show (if (1 : Int32) = 0 then _ else _) = _
        rw [if_neg (by decide), cl_fail0, gbind_eq]
        exact cb_87 k5.1 _ _ _
      · have t := mo_once1 (L := L) (wa := wa) (a_ := nI a) (st := nI s) (tk := nI 2) (vl := nI v) (by omega) D hB hq hf hv hb ⟨h1.1.trans c5.symm, h1.2.1, fun _ => h1.2.2⟩ nl 0 1000 (by omega) (by omega) (by omega)
        have t : f_MO_once (nI q) (nI f) (nI v) (rS M 0 wa (nI a) (nI s) (nI 2) (nI v), L) = some (rS M 5 (nI s) (nI a) (nI s) (nI 2) (nI v), L) := t
        show mK120 (nI f) (nI q) _ = _
        unfold mK120
        rw [if_pos c5']
        dsimp only
        rw [t, gbind_eq]
        exact mb_151 k5.1 k5.2 _ _ _
    · have hno : ∀ b, b < nl → ¬ (ru b = 5 ∧ fr b = f ∧ nu b = v) := fun b hb z => hx ⟨b, hb, z⟩
      refine LOut.of nb (fun N L pl hC D => ?_) (fun M L wa hM hK D => ?_)
      · have t := cl_exc0 (m := (tS N 0 pl (nI a) (nI 7) (nI s) (nI v), L)) (by omega) D.1 D.2.1 hB hv hf hno nl 0 1000 (by omega) (by omega)
        have t : f_Orders_tellsExcept (34 + 2) (nI v) (nI f) (tS N 0 pl (nI a) (nI 7) (nI s) (nI v), L) = some (0, (tS N 0 pl (nI a) (nI 7) (nI s) (nI v), L)) := t
        show cK42 (nI f) (nI q) _ = _
        unfold cK42
        rw [glet_eq, if_pos c5']
        show ((f_Orders_tellsExcept (34 + 2) (nI v) (nI f) (tS N 0 pl (nI a) (nI 7) (nI s) (nI v), L)).bind _) = _
        rw [t, gbind_eq]
        exact if_pos rfl
      · have t := mo_once0 (L := L) (wa := wa) (a_ := nI a) (st := nI s) (tk := nI 2) (vl := nI v) (by omega) D hB hq hf hv (fun b hb z => hno b hb ⟨z.1.trans c5, z.2.1, z.2.2 c5⟩) nl 0 1000 (by omega) (by omega)
        have t : f_MO_once (nI q) (nI f) (nI v) (rS M 0 wa (nI a) (nI s) (nI 2) (nI v), L) = some (rS M 0 wa (nI a) (nI s) (nI 2) (nI v), L) := t
        show mK120 (nI f) (nI q) _ = _
        unfold mK120
        rw [if_pos c5']
        dsimp only
        rw [t, gbind_eq]
        rfl
  · have c5' : ¬ nI q = 5 := fun z => c5 (e5.mp z)
    refine LOut.of nb (fun N L pl hC D => ?_) (fun M L wa hM hK D => ?_)
    · show cK42 (nI f) (nI q) _ = _
      unfold cK42
      rw [glet_eq, if_neg c5']
      rfl
    · show mK120 (nI f) (nI q) _ = _
      unfold mK120
      rw [if_neg c5']
      rfl
theorem rtk_2 {tc : Nat} (h9 : tc ≤ 9) : (nI (rtk tc) = 2) ↔ tc = 7 := by
  rcases (show tc = 0 ∨ tc = 1 ∨ tc = 2 ∨ tc = 3 ∨ tc = 4 ∨ tc = 5 ∨ tc = 6 ∨ tc = 7 ∨ tc = 8 ∨ tc = 9 by omega) with e | e | e | e | e | e | e | e | e | e <;> subst e <;> decide
theorem rtk_1 {tc : Nat} (h9 : tc ≤ 9) : (nI (rtk tc) = 1) ↔ tc ≤ 6 := by
  rcases (show tc = 0 ∨ tc = 1 ∨ tc = 2 ∨ tc = 3 ∨ tc = 4 ∨ tc = 5 ∨ tc = 6 ∨ tc = 7 ∨ tc = 8 ∨ tc = 9 by omega) with e | e | e | e | e | e | e | e | e | e <;> subst e <;> decide
/-- a number checked, on both sides: at fault, or it stands -/
theorem check_both {a s tc v mx : Nat} (htc : tc ≤ 9) (hv : v ≤ 999) (hmx : mx ≤ 999) :
    (∃ k, 1 ≤ k ∧ k ≤ 5 ∧ (∀ (N : gN) (L : Nat → Nat → Int64) (pl : Int32), f_Tape_checkNumber 34 (nI mx) (tS N 0 pl (nI a) (nI tc) (nI s) (nI v), L) = some (tS N (nI k) (nI s) (nI a) (nI tc) (nI s) (nI v), L)) ∧ ∀ (M : gN) (L : Nat → Nat → Int64) (wa : Int32), f_MO_number (nI mx) (rS M 0 wa (nI a) (nI s) (nI (rtk tc)) (nI (rvl tc v)), L) = some (nI (rvl tc v), (rS M (nI k) (nI s) (nI a) (nI s) (nI (rtk tc)) (nI (rvl tc v)), L))) ∨
    (tc = 7 ∧ v ≤ mx ∧ (∀ (N : gN) (L : Nat → Nat → Int64) (pl : Int32), f_Tape_checkNumber 34 (nI mx) (tS N 0 pl (nI a) (nI tc) (nI s) (nI v), L) = some (tS N 0 pl (nI a) (nI 7) (nI s) (nI v), L)) ∧ ∀ (M : gN) (L : Nat → Nat → Int64) (wa : Int32), f_MO_number (nI mx) (rS M 0 wa (nI a) (nI s) (nI (rtk tc)) (nI (rvl tc v)), L) = some (nI v, (rS M 0 wa (nI a) (nI s) (nI 2) (nI v), L))) := by
  have z0 : ((0 : Int32) = 0) = True := eq_true rfl
  have e7 : (nI tc = 7) ↔ tc = 7 := eq_lit (b := tc) (k := 7) (by omega) (by decide)
  have r2 := rtk_2 htc
  by_cases h7 : tc = 7
  · have E7 : (nI tc = 7) = True := eq_true (e7.mpr h7)
    have R2 : (nI (rtk tc) = 2) = True := eq_true (r2.mpr h7)
    have rv : rvl tc v = v := by rw [h7]; rfl
    have rk : rtk tc = 2 := by rw [h7]; rfl
    have el : (nI mx < nI v) ↔ mx < v := nI_ltI (by omega) (by omega)
    by_cases hx : mx < v
    · refine Or.inl ⟨3, by decide, by decide, fun N L pl => ?_, fun M L wa => ?_⟩
      · unfold f_Tape_checkNumber
        simp (disch := omega) only [gfd_eq, glet_eq, gbind_eq, nI_ltI, nI_1, gok_nI, grd_nI, nI_clamp, if_true, if_false, Nat.lt_irrefl, tS_r6, E7, tS_r8, el, hx, cl_fail0, i10, gokT]
        rfl
      · rw [rv]
        unfold f_MO_number J_MO_number_23 J_MO_number_43
        simp (disch := omega) only [gfd_eq, glet_eq, gbind_eq, nI_ltI, nI_1, gok_nI, grd_nI, nI_clamp, if_true, if_false, Nat.lt_irrefl, rS_r39, z0, rS_r43, R2, rS_r44, el, hx, mo_fails0, i10, gokT]
        rfl
    · refine Or.inr ⟨h7, by omega, fun N L pl => ?_, fun M L wa => ?_⟩
      · unfold f_Tape_checkNumber
        simp (disch := omega) only [gfd_eq, glet_eq, gbind_eq, nI_ltI, nI_1, gok_nI, grd_nI, nI_clamp, if_true, if_false, Nat.lt_irrefl, tS_r6, E7, tS_r8, el, hx, i10, gokT]
        rw [h7]
      · rw [rv]
        unfold f_MO_number J_MO_number_23 J_MO_number_43
        simp (disch := omega) only [gfd_eq, glet_eq, gbind_eq, nI_ltI, nI_1, gok_nI, grd_nI, nI_clamp, if_true, if_false, Nat.lt_irrefl, rS_r39, z0, rS_r43, R2, rS_r44, el, hx, i10, gokT]
        rw [rk]
  · have E7 : (nI tc = 7) = False := eq_false (fun z => h7 (e7.mp z))
    have R2 : (nI (rtk tc) = 2) = False := eq_false (fun z => h7 (r2.mp z))
    refine Or.inl ⟨2, by decide, by decide, fun N L pl => ?_, fun M L wa => ?_⟩
    · unfold f_Tape_checkNumber
      simp (disch := omega) only [gfd_eq, glet_eq, gbind_eq, nI_ltI, nI_1, gok_nI, grd_nI, nI_clamp, if_true, if_false, Nat.lt_irrefl, tS_r6, E7, cl_fail0, i10, gokT]
      rfl
    · unfold f_MO_number J_MO_number_43
      simp (disch := omega) only [gfd_eq, glet_eq, gbind_eq, nI_ltI, nI_1, gok_nI, grd_nI, nI_clamp, if_true, if_false, Nat.lt_irrefl, rS_r39, z0, rS_r43, R2, mo_fails0, rS_r44, i10, gokT]
      rfl
theorem tail_both (hts : ts ≤ 160) (hby : ∀ i, by_ i < 256) (h12 : nl < 12) (hB : ∀ k, k < nl → ru k ≤ 5 ∧ fr k ≤ 49 ∧ nu k ≤ 999) {a s q f : Nat} (ha : a ≤ ts) (hq : q ≤ 5) (hf : f ≤ 49) : LOut ts by_ nl ru fr nu (fun N L pl => J_Tape_readRule_41 34 (nI f) (nI q) (tS N 0 pl (nI a) (nI q) (nI s) 0, L)) (fun M L wa => J_MO_oneLine_119 (nI f) (nI q) 0 (rS M 0 wa (nI a) (nI s) 1 (nI q), L)) := by
  have k1 := k_ok (k := 1) (by decide) (by decide)
  have e4 : (nI q = 4) ↔ q = 4 := eq_lit (b := q) (k := 4) (by omega) (by decide)
  rcases next_both hts hby ha with ⟨a1, s1, tc, v, b1, b2, b3, b4, b5, x1, x2⟩ | ⟨s1, b1, x1, x2⟩
  · have step : LOut ts by_ nl ru fr nu (fun N L pl => cK41 (nI f) (nI q) (tS N 0 pl (nI a1) (nI tc) (nI s1) (nI v), L)) (fun M L wa => mK119 (nI f) (nI q) 0 (rS M 0 wa (nI a1) (nI s1) (nI (rtk tc)) (nI (rvl tc v)), L)) := by
      by_cases c4 : q = 4
      · have c4' : nI q = 4 := e4.mpr c4
        refine LOut.of (end_both (q := q) (f := f) (n := 0) (v := v) hts hby h12 b1 b2 b3 hq hf (by decide) (fun _ => by decide)) (fun N L pl hC D => ?_) (fun M L wa hM hK D => ?_)
        · show cK41 (nI f) (nI q) _ = _
          rw [cK41_eq, if_pos c4']
          rfl
        · show mK119 (nI f) (nI q) 0 _ = _
          rw [mK119_eq, if_pos c4']
          rfl
      · have c4' : ¬ nI q = 4 := fun z => c4 (e4.mp z)
        have mx : mst q ≤ 999 := by unfold mst; split <;> (try split) <;> omega
        have mo := fun m => cl_mostOf (q := q) (by omega) m
        have m115 : ∀ (M : gN) (L : Nat → Nat → Int64) (wa : Int32), hyK M → grd (rS M 0 wa (nI a1) (nI s1) (nI (rtk tc)) (nI (rvl tc v)), L) 115 (nI q) = nI (mst q) := fun M L wa hK => by
          rw [grd_nI _ _ (by omega)]
          exact ((congrFun (show rS M 0 wa (nI a1) (nI s1) (nI (rtk tc)) (nI (rvl tc v)) 115 = M 115 from rS_ne (by decide)) q).trans (congrFun hK.2.2 q)).trans (mst_ok q (by omega) c4)
        have cE : ∀ (N : gN) (L : Nat → Nat → Int64) (pl : Int32), cK41 (nI f) (nI q) (tS N 0 pl (nI a1) (nI tc) (nI s1) (nI v), L) = (f_Tape_checkNumber 34 (nI (mst q)) (tS N 0 pl (nI a1) (nI tc) (nI s1) (nI v), L)).bind (cK42 (nI f) (nI q)) := fun N L pl => by
          rw [cK41_eq, if_neg c4', mo, gbind_eq]
        have mE : ∀ (M : gN) (L : Nat → Nat → Int64) (wa : Int32), hyK M → mK119 (nI f) (nI q) 0 (rS M 0 wa (nI a1) (nI s1) (nI (rtk tc)) (nI (rvl tc v)), L) = (f_MO_number (nI (mst q)) (rS M 0 wa (nI a1) (nI s1) (nI (rtk tc)) (nI (rvl tc v)), L)).bind (mK120 (nI f) (nI q)) := fun M L wa hK => by
          rw [mK119_eq, if_neg c4', gok_nI (by omega) (by decide), m115 M L wa hK]
        rcases check_both (a := a1) (s := s1) (tc := tc) (v := v) (mx := mst q) b3 b4 mx with ⟨k, y1, y2, y3, y4⟩ | ⟨h7, hle, y3, y4⟩
        · have kk := k_ok y1 y2
          refine LOut.bad k s1 y1 y2 b2 (fun N L pl hC D => ⟨nI a1, nI tc, nI s1, nI v, ?_⟩) (fun M L wa hM hK D => ⟨nI a1, nI s1, nI (rtk tc), nI (rvl tc v), ?_⟩)
          · show cK41 (nI f) (nI q) _ = _
            rw [cE, y3, gbind_eq]
            exact cb_K42 kk.1 (by omega) D.1 _ _
          · show mK119 (nI f) (nI q) 0 _ = _
            rw [mE M L wa hK, y4, gbind_eq]
            exact mb_K120 kk.1 kk.2 _ _ _
        · refine LOut.of (k42_both hts hby h12 hB b1 b2 hq hf (show v ≤ 999 by omega) (fun z => by
            have : mst q = 9 := if_pos z
            omega)) (fun N L pl hC D => ?_) (fun M L wa hM hK D => ?_)
          · show cK41 (nI f) (nI q) _ = _
            rw [cE, y3, gbind_eq]
          · show mK119 (nI f) (nI q) 0 _ = _
            rw [mE M L wa hK, y4, gbind_eq]
    refine LOut.of step (fun N L pl hC D => ?_) (fun M L wa hM hK D => ?_)
    · show J_Tape_readRule_41 34 (nI f) (nI q) _ = _
      rw [cJ41, x1 N L pl _ _ _ hC, gbind_eq]
    · show J_MO_oneLine_119 (nI f) (nI q) 0 _ = _
      rw [mJ119, x2 M L wa _ _ _ hM hK, gbind_eq]
  · refine LOut.bad 1 s1 (by decide) (by decide) b1 (fun N L pl hC D => ?_) (fun M L wa hM hK D => ?_)
    · obtain ⟨a', tk', vl', e⟩ := x1 N L pl (nI q) (nI s) 0 hC
      refine ⟨a', tk', nI s1, vl', ?_⟩
      show J_Tape_readRule_41 34 (nI f) (nI q) _ = _
      rw [cJ41, e, gbind_eq]
      exact cb_K41 k1.1 (by omega) D.1 _ _
    · obtain ⟨a', tk', vl', e⟩ := x2 M L wa (nI s) 1 (nI q) hM hK
      refine ⟨a', nI s1, tk', vl', ?_⟩
      show J_MO_oneLine_119 (nI f) (nI q) 0 _ = _
      rw [mJ119, e, gbind_eq]
      exact mb_K119 k1.1 k1.2 _ _ (by omega)
theorem rule_both (hts : ts ≤ 160) (hby : ∀ i, by_ i < 256) (h12 : nl < 12) (hB : ∀ k, k < nl → ru k ≤ 5 ∧ fr k ≤ 49 ∧ nu k ≤ 999) {a s q f : Nat} (ha : a ≤ ts) (hs : s ≤ ts) (hq : q ≤ 5) (hf : f ≤ 49) : LOut ts by_ nl ru fr nu (fun N L pl => J_Tape_readRule_14 34 (nI f) (tS N 0 pl (nI a) (nI q) (nI s) 0, L)) (fun M L wa => J_MO_oneLine_92 (nI f) (rS M 0 wa (nI a) (nI s) 1 (nI q), L)) := by
  have k5 := k_ok (k := 5) (by decide) (by decide)
  have e5 : (nI q = 5) ↔ q = 5 := eq_lit (b := q) (k := 5) (by omega) (by decide)
  have z1 : ¬ (0 : Int32) < 0 := by decide
  have tb := tail_both (nl := nl) (ru := ru) (fr := fr) (nu := nu) (s := s) hts hby h12 hB ha hq hf
  have cE : ∀ (N : gN) (L : Nat → Nat → Int64) (pl : Int32), J_Tape_readRule_14 34 (nI f) (tS N 0 pl (nI a) (nI q) (nI s) 0, L) = if nI q = 5 then J_Tape_readRule_41 34 (nI f) (nI q) (tS N 0 pl (nI a) (nI q) (nI s) 0, L) else (f_Orders_tells (34 + 2) (nI q) (nI f) (tS N 0 pl (nI a) (nI q) (nI s) 0, L)).bind fun (r10 : Int32 × gM) => if r10.1 = 0 then (J_Tape_readRule_41 34 (nI f) (nI q) r10.2) else ((f_Tape_fail 34 5 r10.2).bind fun (r11 : gM) => J_Tape_readRule_41 34 (nI f) (nI q) r11) := fun N L pl => rfl
  have mE : ∀ (M : gN) (L : Nat → Nat → Int64) (wa : Int32), J_MO_oneLine_92 (nI f) (rS M 0 wa (nI a) (nI s) 1 (nI q), L) = if nI q = 5 then J_MO_oneLine_119 (nI f) (nI q) 0 (rS M 0 wa (nI a) (nI s) 1 (nI q), L) else (f_MO_once (nI q) (nI f) 0 (rS M 0 wa (nI a) (nI s) 1 (nI q), L)).bind fun (r7 : gM) => J_MO_oneLine_119 (nI f) (nI q) 0 r7 := fun M L wa => by
    unfold J_MO_oneLine_92
    rw [show gfd (rS M 0 wa (nI a) (nI s) 1 (nI q), L) 81 39 = 0 from rfl, if_neg z1, glet_eq]
    rfl
  by_cases c5 : q = 5
  · have c5' : nI q = 5 := e5.mpr c5
    refine LOut.of tb (fun N L pl hC D => ?_) (fun M L wa hM hK D => ?_)
    · show J_Tape_readRule_14 34 (nI f) _ = _
      rw [cE, if_pos c5']
    · show J_MO_oneLine_92 (nI f) _ = _
      rw [mE, if_pos c5']
  · have c5' : ¬ nI q = 5 := fun z => c5 (e5.mp z)
    by_cases hx : ∃ b, b < nl ∧ (ru b = q ∧ fr b = f)
    · obtain ⟨b, hb, h1⟩ := hx
      refine LOut.bad 5 s (by decide) (by decide) hs (fun N L pl hC D => ⟨nI a, nI q, nI s, 0, ?_⟩) (fun M L wa hM hK D => ⟨nI a, nI s, 1, nI q, ?_⟩)
      · have t := cl_tells1 (m := (tS N 0 pl (nI a) (nI q) (nI s) 0, L)) (by omega) D.1 D.2.1 hB hq hf hb h1 nl 0 1000 (by omega) (by omega) (by omega)
        have t : f_Orders_tells (34 + 2) (nI q) (nI f) (tS N 0 pl (nI a) (nI q) (nI s) 0, L) = some (1, (tS N 0 pl (nI a) (nI q) (nI s) 0, L)) := t
        show J_Tape_readRule_14 34 (nI f) _ = _
        rw [cE, if_neg c5', t, gbind_eq]
        show (if (1 : Int32) = 0 then _ else _) = _
        rw [if_neg (by decide), cl_fail0, gbind_eq]
        exact cb_41 k5.1 (by omega) D.1 _ _
      · have t := mo_once1 (L := L) (wa := wa) (a_ := nI a) (st := nI s) (tk := 1) (vl := nI q) (n := 0) (by omega) D hB hq hf (by decide) hb ⟨h1.1, h1.2, fun z => (c5 z).elim⟩ nl 0 1000 (by omega) (by omega) (by omega)
        have t : f_MO_once (nI q) (nI f) 0 (rS M 0 wa (nI a) (nI s) 1 (nI q), L) = some (rS M 5 (nI s) (nI a) (nI s) 1 (nI q), L) := t
        show J_MO_oneLine_92 (nI f) _ = _
        rw [mE, if_neg c5', t, gbind_eq]
        exact mb_119 k5.1 k5.2 _ _ (by omega)
    · have hno : ∀ b, b < nl → ¬ (ru b = q ∧ fr b = f) := fun b hb z => hx ⟨b, hb, z⟩
      refine LOut.of tb (fun N L pl hC D => ?_) (fun M L wa hM hK D => ?_)
      · have t := cl_tells0 (m := (tS N 0 pl (nI a) (nI q) (nI s) 0, L)) (by omega) D.1 D.2.1 hB hq hf hno nl 0 1000 (by omega) (by omega)
        have t : f_Orders_tells (34 + 2) (nI q) (nI f) (tS N 0 pl (nI a) (nI q) (nI s) 0, L) = some (0, (tS N 0 pl (nI a) (nI q) (nI s) 0, L)) := t
        show J_Tape_readRule_14 34 (nI f) _ = _
        rw [cE, if_neg c5', t, gbind_eq]
        exact if_pos rfl
      · have t := mo_once0 (L := L) (wa := wa) (a_ := nI a) (st := nI s) (tk := 1) (vl := nI q) (n := 0) (by omega) D hB hq hf (by decide) (fun b hb z => hno b hb ⟨z.1, z.2.1⟩) nl 0 1000 (by omega) (by omega)
        have t : f_MO_once (nI q) (nI f) 0 (rS M 0 wa (nI a) (nI s) 1 (nI q), L) = some (rS M 0 wa (nI a) (nI s) 1 (nI q), L) := t
        show J_MO_oneLine_92 (nI f) _ = _
        rw [mE, if_neg c5', t, gbind_eq]
end LW
