/-! ===== lines read: what has failed stays as it is ===== -/
section BADC
variable {N : gN} {L : Nat → Nat → Int64} {f pl a_ tk st vl : Int32} (hf : ¬ f = 0)
theorem cb_next (hf : ¬ f = 0) : f_Tape_nextToken 34 (tS N f pl a_ tk st vl, L) = some (tS N f pl a_ tk st vl, L) := by
  unfold f_Tape_nextToken
  exact if_neg hf
theorem cb_check (hf : ¬ f = 0) (x : Int32) : f_Tape_checkNumber 34 x (tS N f pl a_ tk st vl, L) = some (tS N f pl a_ tk st vl, L) := by
  have e := fun x => cl_fail1 N L hf x pl a_ tk st vl
  unfold f_Tape_checkNumber
  rw [e, e, gbind_eq]
  split
  · split <;> rfl
  · rfl
theorem cb_105 (hf : ¬ f = 0) (x y z : Int32) : J_Tape_readRule_105 34 x y z (tS N f pl a_ tk st vl, L) = some (tS N f pl a_ tk st vl, L) := by
  unfold J_Tape_readRule_105
  exact if_neg hf
theorem cb_91 (hf : ¬ f = 0) (x y z : Int32) : J_Tape_readRule_91 34 x y z (tS N f pl a_ tk st vl, L) = some (tS N f pl a_ tk st vl, L) := by
  have e := fun x => cl_fail1 N L hf x pl a_ tk st vl
  unfold J_Tape_readRule_91
  rw [e, gbind_eq, cb_105 hf]
  split <;> rfl
theorem cb_87 (hf : ¬ f = 0) (x y z : Int32) : J_Tape_readRule_87 34 x y z (tS N f pl a_ tk st vl, L) = some (tS N f pl a_ tk st vl, L) := by
  unfold J_Tape_readRule_87
  rw [cb_next hf, gbind_eq]
  exact cb_91 hf x y z
theorem cl_mostAny (v : Int32) (m : gM) : ∃ y : Int32, f_Tape_mostOf v m = some (y, m) := by
  unfold f_Tape_mostOf
  simp only [gswo]
  by_cases h0 : v = 0
  · exact ⟨9, by rw [if_pos h0]⟩
  · by_cases h1 : v = 1
    · exact ⟨9, by rw [if_neg h0, if_pos h1]⟩
    · by_cases h5 : v = 5
      · exact ⟨5, by rw [if_neg h0, if_neg h1, if_pos h5]⟩
      · exact ⟨999, by rw [if_neg h0, if_neg h1, if_neg h5]⟩
/-- behind the rule's own token -/
def cK41 (x1 v7 : Int32) (r5 : gM) : Option gM := if v7 = 4 then (J_Tape_readRule_91 34 x1 v7 0 r5) else ((f_Tape_mostOf v7 r5).bind fun (r6 : Int32 × gM) => (f_Tape_checkNumber 34 r6.1 r6.2).bind fun (r7 : gM) => glet (gfd r7 34 8) fun (v8 : Int32) => if v7 = 5 then ((f_Orders_tellsExcept (34 + 2) v8 x1 r7).bind fun (r8 : Int32 × gM) => if r8.1 = 0 then (J_Tape_readRule_87 34 x1 v7 v8 r8.2) else ((f_Tape_fail 34 5 r8.2).bind fun (r9 : gM) => J_Tape_readRule_87 34 x1 v7 v8 r9)) else (J_Tape_readRule_87 34 x1 v7 v8 r7))
theorem cJ41 (x1 v7 : Int32) (m : gM) : J_Tape_readRule_41 34 x1 v7 m = (f_Tape_nextToken 34 m).bind (cK41 x1 v7) := rfl
theorem cb_K41 (hf : ¬ f = 0) {nl : Nat} (h12 : nl ≤ 12) (h0 : N 36 0 = nI nl) (x y : Int32) : cK41 x y (tS N f pl a_ tk st vl, L) = some (tS N f pl a_ tk st vl, L) := by
  unfold cK41
  by_cases h4 : y = 4
  · rw [if_pos h4]; exact cb_91 hf x y 0
  · rw [if_neg h4]
    obtain ⟨w, e⟩ := cl_mostAny y (tS N f pl a_ tk st vl, L)
    rw [e, gbind_eq, cb_check hf, gbind_eq, glet_eq]
    by_cases h5 : y = 5
    · rw [if_pos h5]
      have h0' : (tS N f pl a_ tk st vl, L).1 36 0 = nI nl := (congrFun (show tS N f pl a_ tk st vl 36 = N 36 from tS_ne (by decide)) 0).trans h0
      obtain ⟨z, e2⟩ := cl_excAny h12 h0' (gfd (tS N f pl a_ tk st vl, L) 34 8) x nl 0 1000 (by omega) (by omega)
      have e2 : f_Orders_tellsExcept (34 + 2) (gfd (tS N f pl a_ tk st vl, L) 34 8) x (tS N f pl a_ tk st vl, L) = some (z, (tS N f pl a_ tk st vl, L)) := e2
      rw [e2, gbind_eq]
      dsimp only
      rw [cl_fail1 N L hf, gbind_eq, cb_87 hf]
      split <;> rfl
    · rw [if_neg h5]; exact cb_87 hf _ _ _
theorem cb_41 (hf : ¬ f = 0) {nl : Nat} (h12 : nl ≤ 12) (h0 : N 36 0 = nI nl) (x y : Int32) : J_Tape_readRule_41 34 x y (tS N f pl a_ tk st vl, L) = some (tS N f pl a_ tk st vl, L) := by
  rw [cJ41, cb_next hf, gbind_eq]
  exact cb_K41 hf h12 h0 x y
theorem cb_14 (hf : ¬ f = 0) {nl : Nat} (h12 : nl ≤ 12) (h0 : N 36 0 = nI nl) (x : Int32) : J_Tape_readRule_14 34 x (tS N f pl a_ tk st vl, L) = some (tS N f pl a_ tk st vl, L) := by
  unfold J_Tape_readRule_14
  rw [glet_eq]
  by_cases h5 : gfd (tS N f pl a_ tk st vl, L) 34 6 = 5
  · rw [if_pos h5]; exact cb_41 hf h12 h0 _ _
  · rw [if_neg h5]
    have h0' : (tS N f pl a_ tk st vl, L).1 36 0 = nI nl := (congrFun (show tS N f pl a_ tk st vl 36 = N 36 from tS_ne (by decide)) 0).trans h0
    obtain ⟨z, e2⟩ := cl_tellsAny h12 h0' (gfd (tS N f pl a_ tk st vl, L) 34 6) x nl 0 1000 (by omega) (by omega)
    have e2 : f_Orders_tells (34 + 2) (gfd (tS N f pl a_ tk st vl, L) 34 6) x (tS N f pl a_ tk st vl, L) = some (z, (tS N f pl a_ tk st vl, L)) := e2
    rw [e2, gbind_eq]
    dsimp only
    rw [cl_fail1 N L hf, gbind_eq, cb_41 hf h12 h0]
    split <;> rfl
theorem cb_rule (hf : ¬ f = 0) {nl : Nat} (h12 : nl ≤ 12) (h0 : N 36 0 = nI nl) (x : Int32) : f_Tape_readRule 34 x (tS N f pl a_ tk st vl, L) = some (tS N f pl a_ tk st vl, L) := by
  unfold f_Tape_readRule
  rw [cl_fail1 N L hf, gbind_eq, cb_14 hf h12 h0]
  split <;> rfl
end BADC
section BADM
variable {M : gN} {L : Nat → Nat → Int64} {f wa a_ st tk vl : Int32}
theorem mb_next (hp : 0 < f) : f_MO_next (rS M f wa a_ st tk vl, L) = some (rS M f wa a_ st tk vl, L) := by
  unfold f_MO_next
  exact if_pos hp
theorem mb_number (hf : ¬ f = 0) (x : Int32) : f_MO_number x (rS M f wa a_ st tk vl, L) = some (vl, (rS M f wa a_ st tk vl, L)) := by
  unfold f_MO_number
  rw [show gfd (rS M f wa a_ st tk vl, L) 81 39 = f from rfl, if_neg hf]
  unfold J_MO_number_23 J_MO_number_43
  rw [show gfd (rS M f wa a_ st tk vl, L) 81 39 = f from rfl, if_neg hf]
  rfl
theorem mb_once (hf : ¬ f = 0) (x y z : Int32) : f_MO_once x y z (rS M f wa a_ st tk vl, L) = some (rS M f wa a_ st tk vl, L) := by
  unfold f_MO_once
  rw [L_MO_once_3_s x y z 999]
  by_cases h : (0 : Int32) < gfd (rS M f wa a_ st tk vl, L) 81 53
  · rw [if_pos h]
    exact if_neg hf
  · rw [if_neg h]
theorem mb_175 (hf : ¬ f = 0) (x y z : Int32) : J_MO_oneLine_175 x y z (rS M f wa a_ st tk vl, L) = some (rS M f wa a_ st tk vl, L) := by
  unfold J_MO_oneLine_175
  exact if_neg hf
theorem mb_155 (hf : ¬ f = 0) (x y z : Int32) : J_MO_oneLine_155 x y z (rS M f wa a_ st tk vl, L) = some (rS M f wa a_ st tk vl, L) := by
  unfold J_MO_oneLine_155
  rw [show gfd (rS M f wa a_ st tk vl, L) 81 39 = f from rfl, if_neg hf]
  exact mb_175 hf x y z
theorem mb_151 (hf : ¬ f = 0) (hp : 0 < f) (x y z : Int32) : J_MO_oneLine_151 x y z (rS M f wa a_ st tk vl, L) = some (rS M f wa a_ st tk vl, L) := by
  unfold J_MO_oneLine_151
  rw [mb_next hp, gbind_eq]
  exact mb_155 hf x y z
def mK119 (v10 v11 v12 : Int32) (r4 : gM) : Option gM := if v11 = 4 then (J_MO_oneLine_155 v10 v11 v12 r4) else (gok (gib v11 6) ((f_MO_number (grd r4 115 v11) r4).bind fun (r5 : Int32 × gM) => if v11 = 5 then ((f_MO_once v11 v10 r5.1 r5.2).bind fun (r6 : gM) => J_MO_oneLine_151 v10 v11 r5.1 r6) else (J_MO_oneLine_151 v10 v11 r5.1 r5.2)))
theorem mJ119 (x y z : Int32) (m : gM) : J_MO_oneLine_119 x y z m = (f_MO_next m).bind (mK119 x y z) := rfl
theorem mb_K119 (hf : ¬ f = 0) (hp : 0 < f) (x z : Int32) {q : Nat} (hq : q < 6) : mK119 x (nI q) z (rS M f wa a_ st tk vl, L) = some (rS M f wa a_ st tk vl, L) := by
  unfold mK119
  by_cases h4 : nI q = 4
  · rw [if_pos h4]; exact mb_155 hf x _ z
  · rw [if_neg h4, gok_nI hq (by decide), mb_number hf, gbind_eq]
    dsimp only
    rw [mb_once hf, gbind_eq, mb_151 hf hp]
    split <;> rfl
theorem mb_119 (hf : ¬ f = 0) (hp : 0 < f) (x z : Int32) {q : Nat} (hq : q < 6) : J_MO_oneLine_119 x (nI q) z (rS M f wa a_ st tk vl, L) = some (rS M f wa a_ st tk vl, L) := by
  rw [mJ119, mb_next hp, gbind_eq]
  exact mb_K119 hf hp x z hq
theorem mb_92 (hp : 0 < f) (x : Int32) : J_MO_oneLine_92 x (rS M f wa a_ st tk vl, L) = some (rS M f wa a_ st tk vl, L) := by
  unfold J_MO_oneLine_92
  exact if_pos hp
theorem mb_30 (hf : ¬ f = 0) (hp : 0 < f) : J_MO_oneLine_30 (rS M f wa a_ st tk vl, L) = some (rS M f wa a_ st tk vl, L) := by
  unfold J_MO_oneLine_30
  rw [show gfd (rS M f wa a_ st tk vl, L) 81 39 = f from rfl, if_neg hf]
  exact mb_92 hp 0
end BADM
/-! ===== a line read, on both sides ===== -/
/-- what changes in a line that fails -/
def bfC (N N' : gN) : Prop := (∀ p, p < 36 ∨ 40 < p → N' p = N p) ∧ ((∀ k, k < 12 → N 40 k = 0) → ∀ k, k < 12 → N' 40 k = 0)
def bfM (M M' : gN) : Prop := (∀ p, p ≠ 81 → (p < 120 ∨ 122 < p) → M' p = M p) ∧ ∀ q, q ≠ 53 → M' 81 q = M 81 q
theorem adC_bf (N : gN) (nl q f n : Nat) : bfC N (adC N nl q f n) := by
  obtain ⟨a0, a1, a2, a3, a4, a5⟩ := adC_row N nl q f n
  refine ⟨a0, fun h k hk => ?_⟩
  rw [a5]
  split
  · rfl
  · exact h k hk
theorem adM_bf (M : gN) (nl q f n : Nat) : bfM M (adM M nl q f n) := ⟨(adM_row M nl q f n).1, (adM_row M nl q f n).2.1⟩
def LOut (ts : Nat) (by_ : Nat → Nat) (nl : Nat) (ru fr nu : Nat → Nat) (runC runM : gN → (Nat → Nat → Int64) → Int32 → Option gM) : Prop :=
  (∃ a' s' tc' v' q f n : Nat, a' ≤ ts ∧ s' ≤ ts ∧ tc' ≤ 9 ∧ v' ≤ 999 ∧ (tc' ≠ 7 → v' = 0) ∧ q ≤ 5 ∧ f ≤ 49 ∧ n ≤ 999 ∧ (q ≤ 1 → n ≤ 9) ∧ nl < 12 ∧ (∀ (N : gN) (L : Nat → Nat → Int64) (pl : Int32), hyC ts by_ N → drC_ N nl ru fr nu → runC N L pl = some (tS (adC N nl q f n) 0 pl (nI a') (nI tc') (nI s') (nI v'), L)) ∧ ∀ (M : gN) (L : Nat → Nat → Int64) (wa : Int32), hyM ts by_ M → hyK M → drM_ M nl ru fr nu → runM M L wa = some (rS (adM M nl q f n) 0 wa (nI a') (nI s') (nI (rtk tc')) (nI (rvl tc' v')), L)) ∨
  ∃ k s' : Nat, 1 ≤ k ∧ k ≤ 5 ∧ s' ≤ ts ∧ (∀ (N : gN) (L : Nat → Nat → Int64) (pl : Int32), hyC ts by_ N → drC_ N nl ru fr nu → ∃ (N' : gN) (a' tk' st' vl' : Int32), runC N L pl = some (tS N' (nI k) (nI s') a' tk' st' vl', L) ∧ bfC N N') ∧ ∀ (M : gN) (L : Nat → Nat → Int64) (wa : Int32), hyM ts by_ M → hyK M → drM_ M nl ru fr nu → ∃ (M' : gN) (a' st' tk' vl' : Int32), runM M L wa = some (rS M' (nI k) (nI s') a' st' tk' vl', L) ∧ bfM M M'
theorem k_ok {k : Nat} (h1 : 1 ≤ k) (h5 : k ≤ 5) : ¬ nI k = 0 ∧ 0 < nI k := ⟨fun e => by
  have := (nI_eq (b := 0) (by omega) (by decide)).mp e
  omega, (nI_lt (a := 0) (b := k) (by omega) (by omega) : nI 0 < nI k)⟩
section LN
variable {ts : Nat} {by_ : Nat → Nat} {nl : Nat} {ru fr nu : Nat → Nat}
theorem LOut.of {runC runM runC' runM' : gN → (Nat → Nat → Int64) → Int32 → Option gM} (H : LOut ts by_ nl ru fr nu runC runM) (hC : ∀ (N : gN) (L : Nat → Nat → Int64) (pl : Int32), hyC ts by_ N → drC_ N nl ru fr nu → runC' N L pl = runC N L pl) (hM : ∀ (M : gN) (L : Nat → Nat → Int64) (wa : Int32), hyM ts by_ M → hyK M → drM_ M nl ru fr nu → runM' M L wa = runM M L wa) : LOut ts by_ nl ru fr nu runC' runM' := by
  rcases H with ⟨a, s, tc, v, q, f, n, b1, b2, b3, b4, b0, b5, b6, b7, b8, b9, h1, h2⟩ | ⟨k, s, b1, b2, b3, h1, h2⟩
  · exact Or.inl ⟨a, s, tc, v, q, f, n, b1, b2, b3, b4, b0, b5, b6, b7, b8, b9, fun N L pl x y => (hC N L pl x y).trans (h1 N L pl x y), fun M L wa x y z => (hM M L wa x y z).trans (h2 M L wa x y z)⟩
  · refine Or.inr ⟨k, s, b1, b2, b3, fun N L pl x y => ?_, fun M L wa x y z => ?_⟩
    · rw [hC N L pl x y]; exact h1 N L pl x y
    · rw [hM M L wa x y z]; exact h2 M L wa x y z
theorem LOut.bad {runC runM : gN → (Nat → Nat → Int64) → Int32 → Option gM} (k s : Nat) (h1 : 1 ≤ k) (h5 : k ≤ 5) (hs : s ≤ ts) (hC : ∀ (N : gN) (L : Nat → Nat → Int64) (pl : Int32), hyC ts by_ N → drC_ N nl ru fr nu → ∃ a' tk' st' vl' : Int32, runC N L pl = some (tS N (nI k) (nI s) a' tk' st' vl', L)) (hM : ∀ (M : gN) (L : Nat → Nat → Int64) (wa : Int32), hyM ts by_ M → hyK M → drM_ M nl ru fr nu → ∃ a' st' tk' vl' : Int32, runM M L wa = some (rS M (nI k) (nI s) a' st' tk' vl', L)) : LOut ts by_ nl ru fr nu runC runM := by
  refine Or.inr ⟨k, s, h1, h5, hs, fun N L pl x y => ?_, fun M L wa x y z => ?_⟩
  · obtain ⟨a', tk', st', vl', e⟩ := hC N L pl x y
    exact ⟨N, a', tk', st', vl', e, fun _ _ => rfl, fun h => h⟩
  · obtain ⟨a', st', tk', vl', e⟩ := hM M L wa x y z
    exact ⟨M, a', st', tk', vl', e, fun _ _ _ => rfl, fun _ _ => rfl⟩
theorem cl_addLine {N : gN} {L : Nat → Nat → Int64} {pl a_ tk st vl : Int32} {q f n : Nat} (D : N 36 0 = nI nl) (h : nl < 12) : f_Orders_add 36 (nI q) (nI f) (nI n) (tS N 0 pl a_ tk st vl, L) = some (tS (adC N nl q f n) 0 pl a_ tk st vl, L) := by
  have e0 : tS N 0 pl a_ tk st vl 36 0 = nI nl := D
  have r1 : ∀ (Q : gN), tS Q 0 pl a_ tk st vl 36 0 = Q 36 0 := fun _ => rfl
  unfold f_Orders_add
  simp (disch := omega) only [gfd_eq, glet_eq, gbind_eq, nI_ltI, nI_1, gok_nI, grd_nI, nI_clamp, if_true, if_false, Nat.lt_irrefl, e0, show (12 : Int32) = nI 12 from rfl, h, gst_nI, tS_g, r1, gup_row, D, gzo_t (Or.inl rfl), gsf_eq, Nat.reduceAdd, i10, gokT]
  rfl
theorem mo_addLine {M : gN} {L : Nat → Nat → Int64} {wa a_ st tk vl : Int32} {q f n : Nat} (D : M 81 53 = nI nl) (h : nl < 12) : J_MO_oneLine_175 (nI f) (nI q) (nI n) (rS M 0 wa a_ st tk vl, L) = (f_MO_next (rS (adM M nl q f n) 0 wa a_ st tk vl, L)).bind fun (r1 : gM) => some r1 := by
  have r1 : ∀ (Q : gN), rS Q 0 wa a_ st tk vl 81 53 = Q 81 53 := fun _ => rfl
  have z0 : ((0 : Int32) = 0) = True := eq_true rfl
  unfold J_MO_oneLine_175
  simp (disch := omega) only [gfd_eq, glet_eq, gbind_eq, nI_ltI, nI_1, gok_nI, grd_nI, nI_clamp, if_true, if_false, Nat.lt_irrefl, rS_r39, z0, r1, D, h, gst_nI, rS_g, gup_row, gsf_eq, rS_g53, i10, gokT]
  rfl
theorem hyC.add {N : gN} {q f n : Nat} (H : hyC ts by_ N) : hyC ts by_ (adC N nl q f n) := by
  have a0 := (adC_row N nl q f n).1
  unfold hyC at H ⊢
  rw [a0 34 (by decide), a0 35 (by decide)]
  exact H
theorem hyM.add {M : gN} {q f n : Nat} (H : hyM ts by_ M) : hyM ts by_ (adM M nl q f n) := by
  obtain ⟨a0, a1, -⟩ := adM_row M nl q f n
  unfold hyM at H ⊢
  rw [a1 37 (by decide), a0 112 (by decide) (by decide)]
  exact H
theorem hyK.add {M : gN} {q f n : Nat} (H : hyK M) : hyK (adM M nl q f n) := by
  obtain ⟨a0, a1, -⟩ := adM_row M nl q f n
  unfold hyK at H ⊢
  rw [a0 113 (by decide) (by decide), a0 114 (by decide) (by decide), a0 115 (by decide) (by decide)]
  exact H
/-- the semicolon, and the next line's first token -/
theorem end_both (hts : ts ≤ 160) (hby : ∀ i, by_ i < 256) (h12 : nl < 12) {a s tc v q f n : Nat} (ha : a ≤ ts) (hs : s ≤ ts) (htc : tc ≤ 9) (hq : q ≤ 5) (hf : f ≤ 49) (hn : n ≤ 999) (hqn : q ≤ 1 → n ≤ 9) : LOut ts by_ nl ru fr nu (fun N L pl => J_Tape_readRule_91 34 (nI f) (nI q) (nI n) (tS N 0 pl (nI a) (nI tc) (nI s) (nI v), L)) (fun M L wa => J_MO_oneLine_155 (nI f) (nI q) (nI n) (rS M 0 wa (nI a) (nI s) (nI (rtk tc)) (nI (rvl tc v)), L)) := by
  have z0 : ((0 : Int32) = 0) = True := eq_true rfl
  have k2 := k_ok (k := 2) (by decide) (by decide)
  have e8 : (nI tc = 8) ↔ tc = 8 := eq_lit (b := tc) (k := 8) (by omega) (by decide)
  have r3 : (nI (rtk tc) = 3) ↔ tc = 8 := by
    have : rtk tc < 256 := by unfold rtk; split <;> (try split) <;> (try split) <;> omega
    have e : (nI (rtk tc) = 3) ↔ rtk tc = 3 := eq_lit this (by decide)
    rw [e]
    unfold rtk
    constructor
    · intro h
      by_cases h1 : tc ≤ 6
      · rw [if_pos h1] at h; omega
      · rw [if_neg h1] at h
        by_cases h2 : tc = 7
        · rw [if_pos h2] at h; omega
        · rw [if_neg h2] at h
          by_cases h3 : tc = 8
          · exact h3
          · rw [if_neg h3] at h; omega
    · intro h; subst h; rfl
  by_cases h8 : tc = 8
  · -- the line stands
    have E8 : (nI tc = 8) = True := eq_true (e8.mpr h8)
    have R3 : (nI (rtk tc) = 3) = True := eq_true (r3.mpr h8)
    have c1 : ∀ (N : gN) (L : Nat → Nat → Int64) (pl : Int32), drC_ N nl ru fr nu → J_Tape_readRule_91 34 (nI f) (nI q) (nI n) (tS N 0 pl (nI a) (nI tc) (nI s) (nI v), L) = (f_Tape_nextToken 34 (tS (adC N nl q f n) 0 pl (nI a) (nI tc) (nI s) (nI v), L)).bind fun (r2 : gM) => some r2 := by
      intro N L pl D
      have ad := cl_addLine (L := L) (pl := pl) (a_ := nI a) (tk := nI tc) (st := nI s) (vl := nI v) (q := q) (f := f) (n := n) D.1 h12
      unfold J_Tape_readRule_91 J_Tape_readRule_105
      simp (disch := omega) only [gfd_eq, glet_eq, gbind_eq, nI_ltI, nI_1, gok_nI, grd_nI, nI_clamp, if_true, if_false, Nat.lt_irrefl, tS_r6, E8, tS_r3, z0, ad, Nat.reduceAdd, i10, gokT]
    have c2 : ∀ (M : gN) (L : Nat → Nat → Int64) (wa : Int32), drM_ M nl ru fr nu → J_MO_oneLine_155 (nI f) (nI q) (nI n) (rS M 0 wa (nI a) (nI s) (nI (rtk tc)) (nI (rvl tc v)), L) = (f_MO_next (rS (adM M nl q f n) 0 wa (nI a) (nI s) (nI (rtk tc)) (nI (rvl tc v)), L)).bind fun (r1 : gM) => some r1 := by
      intro M L wa D
      have ad := mo_addLine (L := L) (wa := wa) (a_ := nI a) (st := nI s) (tk := nI (rtk tc)) (vl := nI (rvl tc v)) (q := q) (f := f) (n := n) D.1 h12
      unfold J_MO_oneLine_155
      simp (disch := omega) only [gfd_eq, glet_eq, gbind_eq, nI_ltI, nI_1, gok_nI, grd_nI, nI_clamp, if_true, if_false, Nat.lt_irrefl, rS_r39, z0, rS_r43, R3, ad, i10, gokT]
    rcases next_both hts hby ha with ⟨a', s', tc', v', b1, b2, b3, b4, b5, x1, x2⟩ | ⟨s', b1, x1, x2⟩
    · refine Or.inl ⟨a', s', tc', v', q, f, n, b1, b2, b3, b4, b5, hq, hf, hn, hqn, h12, fun N L pl hC D => ?_, fun M L wa hM hK D => ?_⟩
      · show J_Tape_readRule_91 34 (nI f) (nI q) (nI n) _ = _
        rw [c1 N L pl D, x1 _ L pl _ _ _ hC.add, gbind_eq]
      · show J_MO_oneLine_155 (nI f) (nI q) (nI n) _ = _
        rw [c2 M L wa D, x2 _ L wa _ _ _ hM.add hK.add, gbind_eq]
    · refine Or.inr ⟨1, s', by decide, by decide, b1, fun N L pl hC D => ?_, fun M L wa hM hK D => ?_⟩
      · obtain ⟨a', tk', vl', e⟩ := x1 (adC N nl q f n) L pl (nI tc) (nI s) (nI v) hC.add
        refine ⟨adC N nl q f n, a', tk', nI s', vl', ?_, adC_bf N nl q f n⟩
        show J_Tape_readRule_91 34 (nI f) (nI q) (nI n) _ = _
        rw [c1 N L pl D, e, gbind_eq]
        rfl
      · obtain ⟨a', tk', vl', e⟩ := x2 (adM M nl q f n) L wa (nI s) (nI (rtk tc)) (nI (rvl tc v)) hM.add hK.add
        refine ⟨adM M nl q f n, a', nI s', tk', vl', ?_, adM_bf M nl q f n⟩
        show J_MO_oneLine_155 (nI f) (nI q) (nI n) _ = _
        rw [c2 M L wa D, e, gbind_eq]
        rfl
  · have E8 : (nI tc = 8) = False := eq_false (fun z => h8 (e8.mp z))
    have R3 : (nI (rtk tc) = 3) = False := eq_false (fun z => h8 (r3.mp z))
    refine LOut.bad 2 s (by decide) (by decide) hs (fun N L pl hC D => ⟨nI a, nI tc, nI s, nI v, ?_⟩) (fun M L wa hM hK D => ⟨nI a, nI s, nI (rtk tc), nI (rvl tc v), ?_⟩)
    · have b := cb_105 (N := N) (L := L) (pl := nI s) (a_ := nI a) (tk := nI tc) (st := nI s) (vl := nI v) k2.1 (nI f) (nI q) (nI n)
      have b : J_Tape_readRule_105 34 (nI f) (nI q) (nI n) (tS N 2 (nI s) (nI a) (nI tc) (nI s) (nI v), L) = _ := b
      unfold J_Tape_readRule_91
      simp (disch := omega) only [gfd_eq, glet_eq, gbind_eq, nI_ltI, nI_1, gok_nI, grd_nI, nI_clamp, if_true, if_false, Nat.lt_irrefl, tS_r6, E8, cl_fail0, b, i10, gokT]
    · have b := mb_175 (M := M) (L := L) (wa := nI s) (a_ := nI a) (st := nI s) (tk := nI (rtk tc)) (vl := nI (rvl tc v)) k2.1 (nI f) (nI q) (nI n)
      have b : J_MO_oneLine_175 (nI f) (nI q) (nI n) (rS M 2 (nI s) (nI a) (nI s) (nI (rtk tc)) (nI (rvl tc v)), L) = _ := b
      unfold J_MO_oneLine_155
      simp (disch := omega) only [gfd_eq, glet_eq, gbind_eq, nI_ltI, nI_1, gok_nI, grd_nI, nI_clamp, if_true, if_false, Nat.lt_irrefl, rS_r39, z0, rS_r43, R3, mo_fails0, b, i10, gokT]
end LN
